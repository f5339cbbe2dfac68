/-! new int[8][40]: one row of rows, and the eight rows of it -/
def mg_in (cy : ClassId) (M : Nat) : Cell := arrV cy M (fun _ => .int 0)
def mg_out (c : ClassId) (N h i : Nat) : Cell := arrV c N (fun j => va_rf (if j < i then some (h + 1 + j) else none))
theorem mg_out_s (c : ClassId) (N h i : Nat) : (mg_out c N h i).setSlot i (.ref (h + 1 + i)) = mg_out c N h (i + 1) := by
  unfold mg_out
  rw [arrV_store]
  refine congrArg (arrV c N) (funext fun j => ?_)
  unfold updV
  by_cases e : j = i
  · subst e
    rw [if_pos rfl, if_pos (Nat.lt_succ_self _)]
    rfl
  · rw [if_neg e]
    show va_rf (if j < i then some (h + 1 + j) else none) = _
    by_cases q : j < i
    · rw [if_pos q, if_pos (by omega)]
    · rw [if_neg q, if_neg (by omega)]
def mg (s : State) (c cy : ClassId) (N M : Nat) : Nat → State
  | 0 => s.pushCell (mg_out c N s.heap.size 0)
  | i + 1 => ((mg s c cy N M i).pushCell (mg_in cy M)).setCell s.heap.size (mg_out c N s.heap.size (i + 1))
theorem mg_setTop (s : State) (f : JFrame) (c cy : ClassId) (N M : Nat) : ∀ i, mg (s.setTop f) c cy N M i = (mg s c cy N M i).setTop f
  | 0 => rfl
  | i + 1 => by simp only [mg, mg_setTop s f c cy N M i, State.heap_setTop, State.pushCell_setTop, State.setCell_setTop]
theorem mg_size (s : State) (c cy : ClassId) (N M : Nat) : ∀ i, (mg s c cy N M i).heap.size = s.heap.size + 1 + i
  | 0 => by simp [mg]
  | i + 1 => by
    have := mg_size s c cy N M i
    simp [mg, State.setCell, this]
    omega
theorem mg_vm (s : State) (c cy : ClassId) (N M : Nat) : ∀ i, (mg s c cy N M i).vm = s.vm
  | 0 => rfl
  | i + 1 => by simp [mg, mg_vm s c cy N M i]
theorem mg_used (s : State) (c cy : ClassId) (N M : Nat) : ∀ i, (mg s c cy N M i).slotsUsed = s.slotsUsed + N + i * M
  | 0 => by simp [mg, mg_out, arrV_size]
  | i + 1 => by
    simp [mg, mg_used s c cy N M i, mg_in, arrV_size, Nat.succ_mul]
    omega
theorem mg_first (s : State) (c cy : ClassId) (N M : Nat) : ∀ i, (mg s c cy N M i).heap[s.heap.size]? = some (mg_out c N s.heap.size i)
  | 0 => by simp [mg]
  | i + 1 => by
    have hlt : s.heap.size < (mg s c cy N M i).heap.size := by
      have := mg_size s c cy N M i
      omega
    exact State.heap_setCell_self (c := mg_out c N s.heap.size i) (by rw [State.heap_pushCell_of_lt (h := hlt)]; exact mg_first s c cy N M i)
theorem mg_old (s : State) (c cy : ClassId) (N M : Nat) {a : Nat} (ha : a < s.heap.size) : ∀ i, (mg s c cy N M i).heap[a]? = s.heap[a]?
  | 0 => State.heap_pushCell_of_lt _ _ ha
  | i + 1 => by
    have hlt : a < (mg s c cy N M i).heap.size := by
      have := mg_size s c cy N M i
      omega
    show (((mg s c cy N M i).pushCell (mg_in cy M)).setCell s.heap.size _).heap[a]? = _
    rw [State.heap_setCell_other (Nat.ne_of_gt ha), State.heap_pushCell_of_lt (h := hlt)]
    exact mg_old s c cy N M ha i
theorem mg_row (s : State) (c cy : ClassId) (N M : Nat) : ∀ i j, j < i → (mg s c cy N M i).heap[s.heap.size + 1 + j]? = some (mg_in cy M)
  | 0, _, h => absurd h (Nat.not_lt_zero _)
  | i + 1, j, h => by
    have hz := mg_size s c cy N M i
    show (((mg s c cy N M i).pushCell (mg_in cy M)).setCell s.heap.size _).heap[s.heap.size + 1 + j]? = _
    rw [State.heap_setCell_other (show s.heap.size ≠ s.heap.size + 1 + j by omega)]
    rcases Nat.lt_or_ge j i with hj | hj
    · have hlt : s.heap.size + 1 + j < (mg s c cy N M i).heap.size := by omega
      rw [State.heap_pushCell_of_lt (h := hlt)]
      exact mg_row s c cy N M i j hj
    · rw [show s.heap.size + 1 + j = (mg s c cy N M i).heap.size by rw [hz]; omega]
      exact State.heap_pushCell_size _ _
section MG
variable {p : Program} {l : Launch} {e : Env} {R : Room} {s : State} {m : MethodId} {args : Array Value} {below : List Frame} {meth : Method} {c : Code} {H : Heap} {locs : List Loc} {cells slots : Nat} {Q : State → Prop}
variable {cc : ByteArray} {pc : Nat} {ls : Array Slot} {rest : List Value}
theorem mg_stand {T : State} (X : Stand p l e R s m args below meth c T locs cells slots) (cA cy : ClassId) (N M : Nat) : ∀ i, Stand p l e R s m args below meth c (mg T cA cy N M i) locs (cells + 1 + i) (slots + N + i * M)
  | 0 => by
    have h := X.pushed (mg_out cA N T.heap.size 0)
    rw [show (mg_out cA N T.heap.size 0).slots.size = N from arrV_size _ _ _] at h
    simpa [mg] using h
  | i + 1 => by
    have Xi := mg_stand X cA cy N M i
    have hlt : T.heap.size < (mg T cA cy N M i).heap.size := by
      have := mg_size T cA cy N M i
      omega
    have hcell : ((mg T cA cy N M i).pushCell (mg_in cy M)).heap[T.heap.size]? = some (mg_out cA N T.heap.size i) := by
      rw [State.heap_pushCell_of_lt (h := hlt)]
      exact mg_first T cA cy N M i
    have h := (Xi.pushed (mg_in cy M)).stored hcell i (.ref (T.heap.size + 1 + i))
    rw [show (mg_in cy M).slots.size = M from arrV_size _ _ _, mg_out_s] at h
    have h2 := h.dropFresh (J := [⟨T.heap.size, i⟩]) (fun x hx => by
      cases List.mem_singleton.mp hx
      exact X.heapGrown)
    rw [show slots + N + (i + 1) * M = slots + N + i * M + M by rw [Nat.succ_mul]; omega]
    exact h2
section
variable {E : CtlPost} {d : Bool} {acts : List Action}
theorem mg_ref {t : FieldType} (h : t.isReference = true) (r : Option Nat) : fits t (va_rf r) = true := by
  cases r <;> cases t <;> simp [FieldType.isReference] at h <;> rfl
theorem mg_make1 {comp k1 : ClassId} {kc : Class} {M : Nat} {n : Int32} (hkc : s.vm.classes[comp]? = some kc) (hkind : kc.kind = .array k1 .int) (hn : ¬ n < 0) (hM : n.toNatClampNeg = M) (h1 : ¬ M > e.platform.arrayLengthLimit) (h2 : ¬ M * componentBytes .int > e.platform.maxHeapBytes) (h3 : s.heap.size < e.platform.maxCells) (h4 : s.slotsUsed + M ≤ e.platform.maxSlots) {P : Addr → Pre} (hq : ∀ acts', P s.heap.size d acts' (s.pushCell (mg_in comp M))) : wp (multianewarray.make comp [n]) P E e d acts s := by
  subst hM
  rw [multianewarray.make]
  simp only [wp_bind', W.ite, hn, if_false, wp_pure', W.theClass, hkc, hkind, Option.some.injEq, exists_eq_left']
  refine W.newArray_of hkc hkind h1 h2 h3 h4 rfl (fun acts' => ?_)
  have := hq acts'
  unfold mg_in at this
  rw [← arrV_new] at this
  exact this
theorem mg_make2 {cA comp k1 : ClassId} {kA kc : Class} {N M : Nat} {n k : Int32} (hkA : s.vm.classes[cA]? = some kA) (hkindA : kA.kind = .array comp (.array .int)) (hkc : s.vm.classes[comp]? = some kc) (hkind : kc.kind = .array k1 .int) (hn : ¬ n < 0) (hk : ¬ k < 0) (hN : n.toNatClampNeg = N) (hM : k.toNatClampNeg = M) (h0 : ¬ N > e.platform.arrayLengthLimit) (h00 : ¬ N * componentBytes (.array .int) > e.platform.maxHeapBytes) (h1 : ¬ M > e.platform.arrayLengthLimit) (h2 : ¬ M * componentBytes .int > e.platform.maxHeapBytes) (h3 : s.heap.size + 1 + N ≤ e.platform.maxCells) (h4 : s.slotsUsed + N + N * M ≤ e.platform.maxSlots) {P : Addr → Pre} (hq : ∀ d' acts', P s.heap.size d' acts' (mg s cA comp N M N)) : wp (multianewarray.make cA [n, k]) P E e d acts s := by
  have hfind : ([k].find? (· < 0)) = none := by simp [hk]
  rw [multianewarray.make]
  simp only [wp_bind', W.ite, hn, if_false, wp_pure', W.theClass, hkA, hkindA, Option.some.injEq, exists_eq_left']
  refine W.newArray_of hkA hkindA (by rw [hN]; exact h0) (by rw [hN]; exact h00) (by omega) (by have := Nat.zero_le (N * M); omega) rfl (fun acts0 => ?_)
  have e0 : s.pushCell { cls := cA, slots := Array.replicate n.toNatClampNeg .null } = mg s cA comp N M 0 := by
    show s.pushCell _ = s.pushCell (mg_out cA N s.heap.size 0)
    refine congrArg s.pushCell ?_
    rw [hN]
    unfold mg_out
    refine (arrV_new cA N .null).trans (congrArg (arrV cA N) (funext fun j => ?_))
    rw [if_neg (Nat.not_lt_zero j)]
    rfl
  rw [e0]
  simp only [hfind]
  rw [ite_self, wp_bind', Std.Legacy.Range.forIn_eq_forIn_range']
  have hsz : ([:n.toNatClampNeg] : Std.Legacy.Range).size = N := by simp [Std.Legacy.Range.size, hN]
  rw [hsz]
  show wp (forIn (List.range' 0 N 1) PUnit.unit _) _ E e d _ _
  refine wp_forIn_inv (fun rest s' => ∃ i, i ≤ N ∧ rest = List.range' i (N - i) ∧ s' = mg s cA comp N M i) _ _ ⟨0, Nat.zero_le _, rfl, rfl⟩ ?_ ?_
  · rintro x rest s' d' acts' Q' ⟨i, hi, hl, rfl⟩ hnext
    have hlt : i < N := by
      rcases Nat.lt_or_ge i N with h | h
      · exact h
      · rw [show N - i = 0 from by omega] at hl
        simp at hl
    rw [show N - i = (N - (i + 1)) + 1 from by omega, List.range'_succ] at hl
    obtain ⟨rfl, hrest⟩ := List.cons.inj hl
    have f1 := mg_size s cA comp N M x
    have f3 := mg_vm s cA comp N M x
    have f4 := mg_used s cA comp N M x
    have hmul : x * M + M ≤ N * M := by
      have := Nat.mul_le_mul_right M (show x + 1 ≤ N from hlt)
      rw [Nat.succ_mul] at this
      exact this
    simp only [wp_bind']
    refine mg_make1 (by rw [f3]; exact hkc) hkind hk hM h1 h2 (by omega) (by omega) (fun acts' => ?_)
    have hlt0 : s.heap.size < (mg s cA comp N M x).heap.size := by omega
    simp only [wp_bind', W.writeLoc, wp_pure']
    refine ⟨mg_out cA N s.heap.size x, by rw [State.heap_pushCell_of_lt (h := hlt0)]; exact mg_first s cA comp N M x, by unfold mg_out arrV; simp, by unfold mg_out; rw [arrV_size]; exact hlt, ?_, hnext _ _ _ ⟨x + 1, hlt, hrest, ?_⟩⟩
    · show State.fitsSlot _ cA .none x _ = true
      simp [State.fitsSlot, State.slotType?, f3, hkA, hkindA]
      exact mg_ref (t := .array .int) rfl (some _)
    · rw [f1, mg_out_s]
      rfl
  · rintro s' d' acts' ⟨i, hi, hl, rfl⟩
    have hiN : i = N := by
      rcases Nat.lt_or_ge i N with h | h
      · rw [show N - i = (N - (i + 1)) + 1 from by omega, List.range'_succ] at hl
        cases hl
      · omega
    subst hiN
    simp only [wp_pure']
    exact hq _ _
end
theorem mg_W (hexec : p.tables.exec = Jvm.exec) (hb : c.code = cc) {own : String} {index : Nat} (hown : s.vm.findClass own = some m.cls) (hclink : (Cond.classLink own index ("[" ++ (FieldType.array .int).toString)).before args s = true) (hover : (Cond.arrayOver (.array .int)).before args s = true) (harr : (Cond.arrayClass .int).before args s = true) (hdg : decode cc pc = .ok (.multianewarray index 2, 4)) (hcells : cells + 9 ≤ R.cells) (hslots : slots + 328 ≤ R.slots)
    (kk : ∀ (cA cy : ClassId) (F : Heap), s.vm.findClass ("[" ++ (FieldType.array .int).toString) = some cA → s.vm.findClass (FieldType.array .int).toString = some cy → F.size = H.size + 9 → (∀ x, x < H.size → F[x]? = H[x]?) → F[H.size]? = some (mg_out cA 8 H.size 8) → (∀ j, j < 8 → F[H.size + 1 + j]? = some (mg_in cy 40)) → W p l e R s m args below meth c F locs (cells + 9) (slots + 328) Q (F0 m (pc + 4) ls (.ref H.size :: rest))) : W p l e R s m args below meth c H locs cells slots Q (F0 m pc ls (.int 40 :: .int 8 :: rest)) := by
  intro T hT X
  subst hT
  subst hb
  have hpl : e.platform.magicAccessors = ({} : Platform).magicAccessors := by rw [X.admits.platform]
  obtain ⟨comp, cA, kA, hcomp, -, hkA, hkindA, hnameA⟩ := arrayOverA_spec hover
  obtain ⟨comp', kC, k1, hcomp', hkC, hkindC⟩ := Cond.arrayClass_spec harr
  have ecomp : comp' = comp := Option.some.inj (hcomp'.symm.trans hcomp)
  subst ecomp
  obtain ⟨c0, hfc0, hcl⟩ := Cond.classLink_spec hown hclink e.platform hpl
  cases hnameA.symm.trans hfc0
  obtain ⟨hg₁, hwarm₁, hready₁⟩ := State.classEntry (e := e) X.warmed hcl
  generalize T.vm.noted m.cls index (.cls cA) = vm₁ at hg₁ hwarm₁ hready₁
  obtain ⟨kA₁, hkA₁, heA⟩ := hwarm₁.alike.2.2 _ _ hkA
  obtain ⟨kC₁, hkC₁, heC⟩ := hwarm₁.alike.2.2 _ _ hkC
  have hkindA₁ : kA₁.kind = .array comp' (.array .int) := by rw [heA]; exact hkindA
  have hkindC₁ : kC₁.kind = .array k1 .int := by rw [heC]; exact hkindC
  have X₁ := X.noted hwarm₁
  obtain ⟨hr1, hr2⟩ := X.roomAbove hcells hslots
  have XF := mg_stand X₁ cA comp' 8 40 8
  have e8 : (8 : Int32).toNatClampNeg = 8 := by decide
  have e40 : (40 : Int32).toNatClampNeg = 40 := by decide
  obtain ⟨t, a1, b1⟩ := kk cA comp' (mg (T.setVm vm₁) cA comp' 8 40 8).heap hnameA hcomp (mg_size (T.setVm vm₁) cA comp' 8 40 8) (fun x hx => mg_old (T.setVm vm₁) cA comp' 8 40 hx 8) (mg_first (T.setVm vm₁) cA comp' 8 40 8) (fun j hj => mg_row (T.setVm vm₁) cA comp' 8 40 8 j hj) _ rfl XF
  refine ⟨t, ?_, b1⟩
  have hl1 : ¬ 8 > e.platform.arrayLengthLimit := by rw [Launch.admits_arrayLengthLimit X.admits]; decide
  have hh1 : ¬ 8 * componentBytes (.array .int) > e.platform.maxHeapBytes := by rw [Launch.admits_maxHeapBytes X.admits]; decide
  have hl2 : ¬ 40 > e.platform.arrayLengthLimit := by rw [Launch.admits_arrayLengthLimit X.admits]; decide
  have hh2 : ¬ 40 * componentBytes .int > e.platform.maxHeapBytes := by rw [Launch.admits_maxHeapBytes X.admits]; decide
  jvm_step X.here [hexec, hdg]
  simp only [multianewarray.sem, wp_bind', W.resolveClassAt_links (State.method?_setTop (F0 m pc ls (.int 40 :: .int 8 :: rest)) X.here.top) hg₁]
  rw [W.popN, if_neg (by decide)]
  refine ⟨F0 m pc ls (.int 40 :: .int 8 :: rest), State.topJava?_setTop' (s := T.setVm vm₁) _ X.here.top, [.int 8, .int 40], rest, rfl, rfl, ?_⟩
  simp only [List.mapM_cons, List.mapM_nil, wp_bind', wp_pure']
  refine mg_make2 (kA := kA₁) (kc := kC₁) hkA₁ hkindA₁ hkC₁ hkindC₁ (by decide) (by decide) e8 e40 hl1 hh1 hl2 hh2 (by show T.heap.size + 1 + 8 ≤ _; omega) (by show T.slotsUsed + 8 + 8 * 40 ≤ _; omega) (fun d' acts' => ?_)
  have eS : ((T.setTop (F0 m pc ls (.int 40 :: .int 8 :: rest))).setVm vm₁).setTop { (F0 m pc ls (.int 40 :: .int 8 :: rest)) with stack := rest } = (T.setVm vm₁).setTop { (F0 m pc ls (.int 40 :: .int 8 :: rest)) with stack := rest } := by
    show ((T.setVm vm₁).setTop _).setTop _ = _
    rw [State.setTop_setTop]
  rw [eS, mg_setTop]
  simp only [wp_bind', W.mark, W.pushRef, State.topJava?_setTop' _ XF.here.top, Option.some.injEq, exists_eq_left', State.setTop_setTop, State.heap_setTop]
  intro acts
  simp [jvm, XF.here.top]
  exact a1
end MG
