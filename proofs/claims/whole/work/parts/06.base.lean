/-! what stands under all walks: guards of the pure functions, contracts, calls -/
def bs_in (i : Int32) (n : Nat) : Bool := decide (¬ (i < 0 ∨ n ≤ i.toNatClampNeg))
theorem bs_inV {i : Int32} {n : Nat} (h : bs_in i n = true) : vp_in i n := by
  have h2 : decide (¬ (i < 0 ∨ n ≤ i.toNatClampNeg)) = true := h
  have h3 := of_decide_eq_true h2
  exact h3
theorem bs_inN {k n : Nat} (h : k < n) (hn : n < 2 ^ 31) : bs_in (nI k) n = true := decide_eq_true (vp_in_nI h hn)
theorem bs_g {α : Type} {c : Prop} [Decidable c] {x : Option α} {o : α} (h : (if c then x else none) = some o) : c ∧ x = some o := by
  by_cases hc : c
  · rw [if_pos hc] at h
    exact ⟨hc, h⟩
  · rw [if_neg hc] at h
    cases h
theorem bs_b {α β : Type} {x : Option α} {f : α → Option β} {o : β} (h : Option.bind x f = some o) : ∃ z, x = some z ∧ f z = some o := by
  cases x with
  | none => cases h
  | some z => exact ⟨z, rfl, h⟩
theorem bs_t {α : Type} {c : Prop} [Decidable c] {x y : Option α} {o : α} (h : (if c then x else y) = some o) (hc : c) : x = some o := (if_pos hc).symm.trans h
theorem bs_f {α : Type} {c : Prop} [Decidable c] {x y : Option α} {o : α} (h : (if c then x else y) = some o) (hc : ¬ c) : y = some o := (if_neg hc).symm.trans h
theorem bs_nz {v : Int32} (h : v = 0 ∨ v = 1) : narrow .boolean (.int v) = .int v := by
  rcases h with rfl | rfl <;> decide +kernel
theorem bs_n0 : narrow .boolean (.int 0) = .int 0 := by decide +kernel
theorem bs_n1 : narrow .boolean (.int 1) = .int 1 := by decide +kernel
theorem bs_fz {v : Int32} (h : v = 0 ∨ v = 1) : fits .boolean (.int v) = true := by
  rcases h with rfl | rfl <;> decide +kernel
theorem bs_sw {x : Int32} {lo hi : Int} (h : ∀ v : Int, lo ≤ v → v ≤ hi → x.toInt ≠ v) : x.toInt < lo ∨ hi < x.toInt := by
  rcases Int.lt_or_le x.toInt lo with a | a
  · exact Or.inl a
  · rcases Int.lt_or_le hi x.toInt with b | b
    · exact Or.inr b
    · exact absurd rfl (h _ a b)
theorem bs_ne {x : Int32} (v : Int32) {k : Int} (hk : v.toInt = k) (h : ¬ x = v) : x.toInt ≠ k := fun e => h (Int32.toInt_inj.mp (e.trans hk.symm))
def bs_N (U : State) : Prop := va_Nw (.methodLinkNest RX4 87 yX6_reading "PromiseScales") U ∧ va_Nw (.methodLinkNest RX2 55 yX6_reading "PromiseScales") U ∧ va_Nw (.methodLinkNest RX1 44 yX6_isOfKind "PromiseScales") U
/-- what every method knows of the machine: the classes, the array classes, the nest links -/
def bs_E (dC : Nat → ClassId) (dI : Nat → Nat → Nat) (cI cZ cS cG : ClassId) (U : State) : Prop := va_K (dC, dI) vwCl [(cI, .int), (cZ, .boolean), (cS, .object RX4), (cG, .array .int)] U ∧ bs_N U
theorem bs_E.warm {dC : Nat → ClassId} {dI : Nat → Nat → Nat} {cI cZ cS cG : ClassId} {s U : State} (hW : s.WarmedH U.vm) (h : bs_E dC dI cI cZ cS cG s) : bs_E dC dI cI cZ cS cG U := ⟨va_K.moved hW.alike h.1, va_Nw.warmM hW h.2.1, va_Nw.warmM hW h.2.2.1, va_Nw.warmM hW h.2.2.2⟩
theorem bs_E.same {dC : Nat → ClassId} {dI : Nat → Nat → Nat} {cI cZ cS cG : ClassId} {U : State} (g : JFrame) (mk : MethodId) (a : Array Value) (h : bs_E dC dI cI cZ cS cG U) : bs_E dC dI cI cZ cS cG (U.calling g mk a) := ⟨va_K.moved (u := U) (U := U.calling g mk a) (Vm.Alike.refl U.vm) h.1, va_Nw.same (u := U) (U := U.calling g mk a) rfl rfl h.2.1, va_Nw.same (u := U) (U := U.calling g mk a) rfl rfl h.2.2.1, va_Nw.same (u := U) (U := U.calling g mk a) rfl rfl h.2.2.2⟩
def bs_pre (dC : Nat → ClassId) (dI : Nat → Nat → Nat) (cI cZ cS cG : ClassId) (w : va_W) (sz : Nat) (U : State) : Prop := U.heap.size = sz ∧ va_P (dC, dI) vwCl w U.heap ∧ bs_E dC dI cI cZ cS cG U ∧ va_D (fun _ => True) w
/-- a contract: from the cells w, with the arguments av, the method answers r and leaves the cells w' -/
def bs_C (l : Launch) (dC : Nat → ClassId) (dI : Nat → Nat → Nat) (cI cZ cS cG : ClassId) (y : MethodName) (ws : List Cond) (rm : Room) (av : List Value) (w : va_W) (r : Int32) (w' : va_W) : Prop :=
  ∀ sz : Nat, Met l y ws rm (va_Pc av (bs_pre dC dI cI cZ cS cG w sz)) (va_Qi (fun (z : Int32) (_ : Unit) => z = r) (fun _ t => va_P (dC, dI) vwCl w' t.heap) (va_A w sz)) 0 0 (va_A w sz)
def bs_CV (l : Launch) (dC : Nat → ClassId) (dI : Nat → Nat → Nat) (cI cZ cS cG : ClassId) (y : MethodName) (ws : List Cond) (rm : Room) (av : List Value) (w : va_W) (w' : va_W) : Prop :=
  ∀ sz : Nat, Met l y ws rm (va_Pc av (bs_pre dC dI cI cZ cS cG w sz)) (va_Qv (fun (_ : Unit) => True) (fun _ t => va_P (dC, dI) vwCl w' t.heap) (va_A w sz)) 0 0 (va_A w sz)
set_option maxHeartbeats 1000000 in
theorem bs_ofI {l : Launch} {dC : Nat → ClassId} {dI : Nat → Nat → Nat} {cI cZ cS cG : ClassId} {y : MethodName} {ws ws' : List Cond} {rm : Room} {av : List Value} {w w' : va_W} {r : Int32} {cc : ByteArray} {maxL : Nat} {ty : FieldType}
    (hy : plainName y.cls = true) (hw : ws = Cond.code y cc maxL (some ty) :: ws') (hla : (lg_sl av).length ≤ maxL)
    (body : ∀ (p : Program) (e : Env) (s : State) (m : MethodId) (below : List Frame) (meth : Method) (c : Code) (A : Nat → Prop) (Q : State → Prop), p.tables.exec = Jvm.exec → c.code = cc → s.vm.findClass y.cls = some m.cls → c.maxLocals = maxL → (∀ q ∈ ws, q.before av.toArray s = true) → bs_E dC dI cI cZ cS cG s → ∀ (H : Heap) (locs : List Loc), va_P (dC, dI) vwCl w H → va_D A w → (∀ q : Nat, s.heap.size ≤ q → A q) → va_S A s.heap H locs → ∀ ls : Array Slot, lv_has ls maxL (lv_args 0 av) →
      (∀ (H : Heap) (locs : List Loc) (ls' : Array Slot) (pc : Nat), va_P (dC, dI) vwCl w' H → va_S A s.heap H locs → narrow ty (.int r) = .int r → decode cc pc = .ok (.ireturn, 1) → W p l e rm s m av.toArray below meth c H locs 0 0 Q (F0 m pc ls' [.int r])) →
      W p l e rm s m av.toArray below meth c H locs 0 0 Q (F0 m 0 ls [])) :
    bs_C l dC dI cI cZ cS cG y ws rm av w r w' := by
  intro sz
  refine Met.ofW (cc := cc) (maxL := maxL) (ret := some ty) hy hw ?_
  intro p e s m args below meth c s₁ B hml hv
  obtain ⟨rfl, hsz, hP, hE, hD0⟩ := hv
  subst hsz
  have hl := lv_entry av (n := maxL) hla
  rw [lg_entry_eq]
  generalize (lg_sl av ++ List.replicate (maxL - (lg_sl av).length) Slot.unset).toArray = ls at hl ⊢
  exact body p e s m below meth c (va_A w s.heap.size) _ B.exec B.bytes (findClass_of_methodNamed B.named) hml (atoms_spec (ws := ws) B.pre) hE s.heap [] hP hD0.self (fun q h => Or.inr h) va_S.rf ls hl (fun H locs ls' pc hP' hS hn hdg => W.zret B.exec B.bytes B.returns hn (fun t ht hW => ⟨⟨r, (), rfl, rfl, by show va_P _ _ _ t.heap; rw [ht]; exact hP'⟩, hS.F ht⟩) hS.2.2 hdg B.notSynchronized)
set_option maxHeartbeats 1000000 in
theorem bs_ofV {l : Launch} {dC : Nat → ClassId} {dI : Nat → Nat → Nat} {cI cZ cS cG : ClassId} {y : MethodName} {ws ws' : List Cond} {rm : Room} {av : List Value} {w w' : va_W} {cc : ByteArray} {maxL : Nat}
    (hy : plainName y.cls = true) (hw : ws = Cond.code y cc maxL none :: ws') (hla : (lg_sl av).length ≤ maxL)
    (body : ∀ (p : Program) (e : Env) (s : State) (m : MethodId) (below : List Frame) (meth : Method) (c : Code) (A : Nat → Prop) (Q : State → Prop), p.tables.exec = Jvm.exec → c.code = cc → s.vm.findClass y.cls = some m.cls → c.maxLocals = maxL → (∀ q ∈ ws, q.before av.toArray s = true) → bs_E dC dI cI cZ cS cG s → ∀ (H : Heap) (locs : List Loc), va_P (dC, dI) vwCl w H → va_D A w → (∀ q : Nat, s.heap.size ≤ q → A q) → va_S A s.heap H locs → ∀ ls : Array Slot, lv_has ls maxL (lv_args 0 av) →
      (∀ (H : Heap) (locs : List Loc) (ls' : Array Slot) (pc : Nat), va_P (dC, dI) vwCl w' H → va_S A s.heap H locs → decode cc pc = .ok (.return_, 1) → W p l e rm s m av.toArray below meth c H locs 0 0 Q (F0 m pc ls' [])) →
      W p l e rm s m av.toArray below meth c H locs 0 0 Q (F0 m 0 ls [])) :
    bs_CV l dC dI cI cZ cS cG y ws rm av w w' := by
  intro sz
  refine Met.ofW (cc := cc) (maxL := maxL) (ret := none) hy hw ?_
  intro p e s m args below meth c s₁ B hml hv
  obtain ⟨rfl, hsz, hP, hE, hD0⟩ := hv
  subst hsz
  have hl := lv_entry av (n := maxL) hla
  rw [lg_entry_eq]
  generalize (lg_sl av ++ List.replicate (maxL - (lg_sl av).length) Slot.unset).toArray = ls at hl ⊢
  exact body p e s m below meth c (va_A w s.heap.size) _ B.exec B.bytes (findClass_of_methodNamed B.named) hml (atoms_spec (ws := ws) B.pre) hE s.heap [] hP hD0.self (fun q h => Or.inr h) va_S.rf ls hl (fun H locs ls' pc hP' hS hdg => W.vret B.exec B.bytes B.returns (fun t ht hW => ⟨⟨(), rfl, trivial, by show va_P _ _ _ t.heap; rw [ht]; exact hP'⟩, hS.F ht⟩) hS.2.2 hdg B.notSynchronized)
/-- cells put at their places -/
def bs_upd : va_W → List Nat → va_W → va_W
  | ws, i :: is, x :: xs => bs_upd (ws.set i x) is xs
  | ws, _, _ => ws
theorem bs_upd_mem : ∀ (is : List Nat) (xs ws : va_W), is.length = xs.length → ∀ (k : Nat) (q : Nat × va_E), (bs_upd ws is xs)[k]? = some q → (∃ j : Nat, xs[j]? = some q) ∨ (ws[k]? = some q ∧ k ∉ is)
  | [], [], ws, _, k, q, h => Or.inr ⟨h, List.not_mem_nil⟩
  | [], x :: xs, ws, hl, k, q, h => by simp at hl
  | i :: is, [], ws, hl, k, q, h => by simp at hl
  | i :: is, x :: xs, ws, hl, k, q, h => by
    have hl' : is.length = xs.length := by simpa using hl
    rcases bs_upd_mem is xs (ws.set i x) hl' k q h with ⟨j, hj⟩ | ⟨h1, h2⟩
    · exact Or.inl ⟨j + 1, by simpa using hj⟩
    · by_cases hk : k = i
      · subst hk
        rw [List.getElem?_set] at h1
        simp only [if_true] at h1
        by_cases hlt : k < ws.length
        · rw [if_pos hlt] at h1
          exact Or.inl ⟨0, by simpa using h1⟩
        · rw [if_neg hlt] at h1
          cases h1
      · rw [List.getElem?_set_ne (Ne.symm hk)] at h1
        exact Or.inr ⟨h1, fun hm => by
          rcases List.mem_cons.mp hm with e | e
          · exact hk e
          · exact h2 e⟩
theorem bs_D {A : Nat → Prop} {w1 w2 : va_W} (h : w2.map Prod.fst = w1.map Prod.fst) (hD : va_D A w1) : va_D A w2 := by
  have key : ∀ (k : Nat) (q : Nat × va_E), w2[k]? = some q → ∃ q0, w1[k]? = some q0 ∧ q0.1 = q.1 := by
    intro k q hk
    have e : (w2.map Prod.fst)[k]? = some q.1 := by rw [List.getElem?_map, hk]; rfl
    rw [h, List.getElem?_map] at e
    cases hw : w1[k]? with
    | none => rw [hw] at e; cases e
    | some q0 => rw [hw] at e; exact ⟨q0, rfl, Option.some.inj e⟩
  refine ⟨fun i j x y hi hj hxy => ?_, fun k q hk => ?_⟩
  · obtain ⟨x0, h1, h2⟩ := key i x hi
    obtain ⟨y0, h3, h4⟩ := key j y hj
    exact hD.1 i j x0 y0 h1 h3 (h2.trans (hxy.trans h4.symm))
  · obtain ⟨q0, h1, h2⟩ := key k q hk
    rw [← h2]
    exact hD.2 k q0 h1
theorem bs_at {ws wc : va_W} {is : List Nat} (hs : is.map (fun i => ws[i]?) = wc.map some) (k : Nat) (q : Nat × va_E) (hq : wc[k]? = some q) : ∃ i, is[k]? = some i ∧ ws[i]? = some q := by
  have h1 : (is.map (fun i => ws[i]?))[k]? = some (some q) := by rw [hs, List.getElem?_map, hq]; rfl
  rw [List.getElem?_map] at h1
  cases hi : is[k]? with
  | none => rw [hi] at h1; cases h1
  | some i => rw [hi] at h1; exact ⟨i, rfl, Option.some.inj h1⟩
theorem bs_len {ws wc : va_W} {is : List Nat} (hs : is.map (fun i => ws[i]?) = wc.map some) : is.length = wc.length := by
  have := congrArg List.length hs
  simpa using this
theorem bs_sub {D : va_G} {cl : List vw_C} {ws wc : va_W} {is : List Nat} {H : Heap} (hP : va_P D cl ws H) (hs : is.map (fun i => ws[i]?) = wc.map some) : va_P D cl wc H := fun k q hq => by
  obtain ⟨i, -, h2⟩ := bs_at hs k q hq
  exact hP i q h2
/-- a cell of the caller's that the callee's world doesn't have stays -/
theorem bs_keep {A0 : Nat → Prop} {D : va_G} {cl : List vw_C} {ws wc : va_W} {is : List Nat} {H H1 : Heap} (hP : va_P D cl ws H) (hD : va_D A0 ws) (hs : is.map (fun i => ws[i]?) = wc.map some) (hk : ∀ q : Nat, q < H.size → ¬ va_A wc H.size q → H1[q]? = H[q]?) (k : Nat) (q : Nat × va_E) (hq : ws[k]? = some q) (hn : k ∉ is) : va_at D cl q H1 := by
  have hl := (hP k q hq).lt
  refine (hP k q hq).kept (hk q.1 hl (fun h => ?_))
  rcases h with ⟨k2, e, h⟩ | h
  · obtain ⟨i, h3, h4⟩ := bs_at hs k2 (q.1, e) h
    have hki := hD.1 k i q (q.1, e) hq h4 rfl
    subst hki
    exact hn (List.mem_of_getElem? h3)
  · omega
theorem bs_join {A0 : Nat → Prop} {D : va_G} {cl : List vw_C} {ws wc wc' ws1 : va_W} {is : List Nat} {H H1 : Heap} (hP : va_P D cl ws H) (hD : va_D A0 ws) (hs : is.map (fun i => ws[i]?) = wc.map some) (hk : ∀ q : Nat, q < H.size → ¬ va_A wc H.size q → H1[q]? = H[q]?) (hP1 : va_P D cl wc' H1) (hl : is.length = wc'.length) (hU : bs_upd ws is wc' = ws1) : va_P D cl ws1 H1 := by
  subst hU
  intro k q hq
  rcases bs_upd_mem is wc' ws hl k q hq with ⟨j, hj⟩ | ⟨h1, h2⟩
  · exact hP1 j q hj
  · exact bs_keep hP hD hs hk k q h1 h2
theorem bs_joinR {A0 : Nat → Prop} {D : va_G} {cl : List vw_C} {ws wc : va_W} {is : List Nat} {H H1 : Heap} (hP : va_P D cl ws H) (hD : va_D A0 ws) (hs : is.map (fun i => ws[i]?) = wc.map some) (hk : ∀ q : Nat, q < H.size → ¬ va_A wc H.size q → H1[q]? = H[q]?) (hP1 : va_P D cl wc H1) : va_P D cl ws H1 := by
  intro k q hq
  by_cases hm : k ∈ is
  · obtain ⟨j, hj⟩ := List.getElem?_of_mem hm
    have h1 : (is.map (fun i => ws[i]?))[j]? = some (some q) := by rw [List.getElem?_map, hj]; exact congrArg some hq
    rw [hs, List.getElem?_map] at h1
    cases hw : wc[j]? with
    | none => rw [hw] at h1; cases h1
    | some q0 =>
      rw [hw] at h1
      cases h1
      exact hP1 j q hw
  · exact bs_keep hP hD hs hk k q hq hm
section BSC
variable {p : Program} {l : Launch} {e : Env} {R : Room} {s : State} {m : MethodId} {args : Array Value} {below : List Frame} {meth : Method} {c : Code} {H : Heap} {locs : List Loc} {Q : State → Prop}
variable {cc : ByteArray} {pc : Nat} {ls : Array Slot} {rest st : List Value} {dC : Nat → ClassId} {dI : Nat → Nat → Nat} {cI cZ cS cG : ClassId} {A : Nat → Prop} {ws wc wc' ws1 : va_W}
variable {y : MethodName} {bytes : ByteArray} {maxL nL n index : Nat} {wsy : List Cond} {rmy : Room} {Ts : List Cond} {own C : String} {b : Nat} {As : List Value} {r : Int32} {ret : Option FieldType}
theorem bs_top {x v : Int32} (h : x = v) (k : W p l e R s m args below meth c H locs 0 0 Q (F0 m pc ls (.int v :: rest))) : W p l e R s m args below meth c H locs 0 0 Q (F0 m pc ls (.int x :: rest)) := by
  subst h
  exact k
theorem bs_topq {x : Value} {a : Nat} (h : x = .ref a) (k : W p l e R s m args below meth c H locs 0 0 Q (F0 m pc ls (.ref a :: rest))) : W p l e R s m args below meth c H locs 0 0 Q (F0 m pc ls (x :: rest)) := by
  subst h
  exact k
theorem bs_aldg (hexec : p.tables.exec = Jvm.exec) (hb : c.code = cc) {D : va_G} {cl : List vw_C} {tys : List (ClassId × FieldType)} {a : Nat} (hK : va_K D cl tys s) (hP : va_P D cl ws H) (q0 t0 : Nat) {cA : ClassId} {ty : FieldType} {n : Nat} {f : Nat → Option Nat} (ha : ws[q0]? = some (a, .inl (cA, n, .inr (.inr (.inr (.inr f)))))) (ht : tys[t0]? = some (cA, .array ty)) {i : Int32} (hin : vp_in i n) (hdg : decode cc pc = .ok (.aaload, 1))
    (kk : W p l e R s m args below meth c H locs 0 0 Q (F0 m (pc + 1) ls (va_rf (f i.toNatClampNeg) :: rest))) : W p l e R s m args below meth c H locs 0 0 Q (F0 m pc ls (.int i :: .ref a :: rest)) := by
  have hlt : i.toNatClampNeg < n := Nat.not_le.mp fun q => hin (Or.inr q)
  exact W.aald (v := va_rf (f i.toNatClampNeg)) (ty := .array ty) hexec hb (hP q0 _ ha) ((hK.2 t0 _ ht).1 n (fun j => va_rf (f j))) rfl (fun q => by cases q) (by show ¬ (i < 0 ∨ (arrV _ _ _).slots.size ≤ _); rw [arrV_size]; exact hin) (by show (arrV _ _ _).slots[_]? = _; rw [arrV_read _ _ hlt]) rfl rfl hdg kk
theorem bs_blind {w : va_W} {sz : Nat} {av : List Value} : FrameBlind (va_Pc av (bs_pre dC dI cI cZ cS cG w sz)) := fun a U g mk q => by
  obtain ⟨q0, q1, qP, qE, qD⟩ := q
  exact ⟨q0, q1, qP, qE.same g mk a, qD⟩
theorem bs_preV {T : u_T} {N : Nat} (hE : bs_E dC dI cI cZ cS cG s) (hP : va_P (dC, dI) vwCl ws H) (hD : va_D A ws) (isC : List Nat) (hnd : va_nd isC = true) (hC : isC.map (fun i => ws[i]?) = wc.map some) (ci q0 : Nat) {fs : List Value} (hc : vwCl[ci]? = some (C, T, N)) (he : wc[q0]? = some (b, .inr (ci, fs))) : PreV s H C b (va_Pc (.ref b :: As) (bs_pre dC dI cI cZ cS cG wc H.size)) As :=
  ⟨bs_blind, va_recv (q := (C, T, N)) hE.1 (bs_sub hP hC) hc he, fun U hU hW => ⟨rfl, by rw [hU], by rw [hU]; exact bs_sub hP hC, hE.warm hW, (hD.sub isC hnd hC).weaken (fun _ _ _ _ => trivial)⟩⟩
theorem bs_preS (hE : bs_E dC dI cI cZ cS cG s) : PreS s H (va_Pc As (bs_pre dC dI cI cZ cS cG [] H.size)) As :=
  ⟨bs_blind, fun U hU hW => ⟨rfl, by rw [hU], fun k q h => by simp at h, hE.warm hW, ⟨fun i j p q h => by simp at h, fun k q h => by simp at h⟩⟩⟩
/-- a virtual call that answers an int and changes cells -/
theorem bs_cVi (S : CallFix p m c cc nL s args Ts own) (hM : bs_C l dC dI cI cZ cS cG y wsy rmy (.ref b :: As) wc r wc') (cw : CallW R s args own C index y bytes maxL ret wsy rmy 0 0 n) (hE : bs_E dC dI cI cZ cS cG s) (hP : va_P (dC, dI) vwCl ws H) (hD : va_D A ws) (hA : ∀ q : Nat, s.heap.size ≤ q → A q) (hS : va_S A s.heap H locs) (isC : List Nat) (hnd : va_nd isC = true) (hC : isC.map (fun i => ws[i]?) = wc.map some) (ci q0 : Nat) {T : u_T} {N : Nat} {fs : List Value} (hc : vwCl[ci]? = some (C, T, N)) (he : wc[q0]? = some (b, .inr (ci, fs))) (hl : isC.length = wc'.length) (hU : bs_upd ws isC wc' = ws1) (hf : ws1.map Prod.fst = ws.map Prod.fst) (hst : st = As.reverse ++ .ref b :: rest) (hn : As.length = n) (hsz : ls.size = nL) (hw : (rest.map fun v => v.category).sum ≤ 8) (hdg : decode cc pc = .ok (.invokevirtual index, 3))
    (kk : ∀ (H1 : Heap) (locs1 : List Loc), va_P (dC, dI) vwCl ws1 H1 → va_D A ws1 → va_S A s.heap H1 locs1 → W p l e R s m args below meth c H1 locs1 0 0 Q (F0 m (pc + 3) ls (.int r :: rest))) : W p l e R s m args below meth c H locs 0 0 Q (F0 m pc ls st) := by
  subst hst
  have hF := va_free hD hS hA isC hC
  refine va_calli (va_runV (As := As) (rest := rest) S (hM H.size) cw (bs_preV hE hP hD isC hnd hC ci q0 hc he) rfl hn hsz rfl (lv_room hw) hdg ⟨Nat.zero_le _, Nat.zero_le _⟩) hS (fun q _ h => hF q h) hF (fun r' u t H1 locs1 ht hvm hwq hB hz1 hk1 hS1 => ?_)
  rw [ht] at hB
  subst hwq
  exact kk H1 locs1 (bs_join hP hD hC hk1 hB hl hU) (bs_D hf hD) hS1
theorem bs_cViR (S : CallFix p m c cc nL s args Ts own) (hM : bs_C l dC dI cI cZ cS cG y wsy rmy (.ref b :: As) wc r wc) (cw : CallW R s args own C index y bytes maxL ret wsy rmy 0 0 n) (hE : bs_E dC dI cI cZ cS cG s) (hP : va_P (dC, dI) vwCl ws H) (hD : va_D A ws) (hA : ∀ q : Nat, s.heap.size ≤ q → A q) (hS : va_S A s.heap H locs) (isC : List Nat) (hnd : va_nd isC = true) (hC : isC.map (fun i => ws[i]?) = wc.map some) (ci q0 : Nat) {T : u_T} {N : Nat} {fs : List Value} (hc : vwCl[ci]? = some (C, T, N)) (he : wc[q0]? = some (b, .inr (ci, fs))) (hst : st = As.reverse ++ .ref b :: rest) (hn : As.length = n) (hsz : ls.size = nL) (hw : (rest.map fun v => v.category).sum ≤ 8) (hdg : decode cc pc = .ok (.invokevirtual index, 3))
    (kk : ∀ (H1 : Heap) (locs1 : List Loc), va_P (dC, dI) vwCl ws H1 → va_S A s.heap H1 locs1 → W p l e R s m args below meth c H1 locs1 0 0 Q (F0 m (pc + 3) ls (.int r :: rest))) : W p l e R s m args below meth c H locs 0 0 Q (F0 m pc ls st) := by
  subst hst
  have hF := va_free hD hS hA isC hC
  refine va_calli (va_runV (As := As) (rest := rest) S (hM H.size) cw (bs_preV hE hP hD isC hnd hC ci q0 hc he) rfl hn hsz rfl (lv_room hw) hdg ⟨Nat.zero_le _, Nat.zero_le _⟩) hS (fun q _ h => hF q h) hF (fun r' u t H1 locs1 ht hvm hwq hB hz1 hk1 hS1 => ?_)
  rw [ht] at hB
  subst hwq
  exact kk H1 locs1 (bs_joinR hP hD hC hk1 hB) hS1
/-- a virtual call that answers nothing -/
theorem bs_cVv (S : CallFix p m c cc nL s args Ts own) (hM : bs_CV l dC dI cI cZ cS cG y wsy rmy (.ref b :: As) wc wc') (cw : CallW R s args own C index y bytes maxL ret wsy rmy 0 0 n) (hE : bs_E dC dI cI cZ cS cG s) (hP : va_P (dC, dI) vwCl ws H) (hD : va_D A ws) (hA : ∀ q : Nat, s.heap.size ≤ q → A q) (hS : va_S A s.heap H locs) (isC : List Nat) (hnd : va_nd isC = true) (hC : isC.map (fun i => ws[i]?) = wc.map some) (ci q0 : Nat) {T : u_T} {N : Nat} {fs : List Value} (hc : vwCl[ci]? = some (C, T, N)) (he : wc[q0]? = some (b, .inr (ci, fs))) (hl : isC.length = wc'.length) (hU : bs_upd ws isC wc' = ws1) (hf : ws1.map Prod.fst = ws.map Prod.fst) (hst : st = As.reverse ++ .ref b :: rest) (hn : As.length = n) (hsz : ls.size = nL) (hw : (rest.map fun v => v.category).sum ≤ 8) (hdg : decode cc pc = .ok (.invokevirtual index, 3))
    (kk : ∀ (H1 : Heap) (locs1 : List Loc), va_P (dC, dI) vwCl ws1 H1 → va_D A ws1 → va_S A s.heap H1 locs1 → W p l e R s m args below meth c H1 locs1 0 0 Q (F0 m (pc + 3) ls rest)) : W p l e R s m args below meth c H locs 0 0 Q (F0 m pc ls st) := by
  subst hst
  have hF := va_free hD hS hA isC hC
  refine va_callv (va_runV (As := As) (rest := rest) S (hM H.size) cw (bs_preV hE hP hD isC hnd hC ci q0 hc he) rfl hn hsz rfl (lv_room hw) hdg ⟨Nat.zero_le _, Nat.zero_le _⟩) hS (fun q _ h => hF q h) hF (fun u t H1 locs1 ht hvm _ hB hz1 hk1 hS1 => ?_)
  rw [ht] at hB
  exact kk H1 locs1 (bs_join hP hD hC hk1 hB hl hU) (bs_D hf hD) hS1
/-- a static call without cells -/
theorem bs_cSi (S : CallFix p m c cc nL s args Ts own) (hM : bs_C l dC dI cI cZ cS cG y wsy rmy As [] r []) (cw : CallB R s args own index y bytes maxL ret wsy rmy 0 0 n ∧ (Cond.static y).before args s = true) (hE : bs_E dC dI cI cZ cS cG s) (hP : va_P (dC, dI) vwCl ws H) (hD : va_D A ws) (hA : ∀ q : Nat, s.heap.size ≤ q → A q) (hS : va_S A s.heap H locs) (hst : st = As.reverse ++ rest) (hn : As.length = n) (hsz : ls.size = nL) (hw : (rest.map fun v => v.category).sum ≤ 8) (hdg : decode cc pc = .ok (.invokestatic index, 3))
    (kk : ∀ (H1 : Heap) (locs1 : List Loc), va_P (dC, dI) vwCl ws H1 → va_S A s.heap H1 locs1 → W p l e R s m args below meth c H1 locs1 0 0 Q (F0 m (pc + 3) ls (.int r :: rest))) : W p l e R s m args below meth c H locs 0 0 Q (F0 m pc ls st) := by
  subst hst
  have hF := va_free (wc := []) hD hS hA [] rfl
  refine va_calli (va_runS (As := As) (rest := rest) S (hM H.size) cw (bs_preS hE) rfl hn hsz rfl (lv_room hw) hdg ⟨Nat.zero_le _, Nat.zero_le _⟩) hS (fun q _ h => hF q h) hF (fun r' u t H1 locs1 ht hvm hwq hB hz1 hk1 hS1 => ?_)
  subst hwq
  exact kk H1 locs1 (bs_joinR hP hD (is := []) (wc := []) rfl hk1 (fun k q h => by simp at h)) hS1
/-- a static call of a nest mate's private method, without cells -/
theorem bs_cSn {host : String} (S : CallFix p m c cc nL s args Ts own) (hM : bs_C l dC dI cI cZ cS cG y wsy rmy As [] r []) (cw : va_CN R s args own index y host bytes maxL ret wsy rmy 0 0 n ∧ (Cond.static y).before args s = true ∧ True) (hE : bs_E dC dI cI cZ cS cG s) (hP : va_P (dC, dI) vwCl ws H) (hD : va_D A ws) (hA : ∀ q : Nat, s.heap.size ≤ q → A q) (hS : va_S A s.heap H locs) (hst : st = As.reverse ++ rest) (hn : As.length = n) (hsz : ls.size = nL) (hw : (rest.map fun v => v.category).sum ≤ 8) (hdg : decode cc pc = .ok (.invokestatic index, 3))
    (kk : ∀ (H1 : Heap) (locs1 : List Loc), va_P (dC, dI) vwCl ws H1 → va_S A s.heap H1 locs1 → W p l e R s m args below meth c H1 locs1 0 0 Q (F0 m (pc + 3) ls (.int r :: rest))) : W p l e R s m args below meth c H locs 0 0 Q (F0 m pc ls st) := by
  subst hst
  have hF := va_free (wc := []) hD hS hA [] rfl
  refine va_calli (va_runSN (As := As) (rest := rest) S (hM H.size) cw (bs_preS hE) rfl hn hsz rfl (lv_room hw) hdg ⟨Nat.zero_le _, Nat.zero_le _⟩) hS (fun q _ h => hF q h) hF (fun r' u t H1 locs1 ht hvm hwq hB hz1 hk1 hS1 => ?_)
  subst hwq
  exact kk H1 locs1 (bs_joinR hP hD (is := []) (wc := []) rfl hk1 (fun k q h => by simp at h)) hS1
end BSC
/-- the eight rows of the grid, and one of them anew -/
def bs_up2 (M : Nat → Nat → Int32) (k : Nat) (f : Nat → Int32) : Nat → Nat → Int32 := fun j => if j = k then f else M j
abbrev bs_rw (cI : ClassId) (g : Nat → Nat) (M : Nat → Nat → Int32) : va_W := [(g 0, .inl (cI, 40, .inl (M 0))), (g 1, .inl (cI, 40, .inl (M 1))), (g 2, .inl (cI, 40, .inl (M 2))), (g 3, .inl (cI, 40, .inl (M 3))), (g 4, .inl (cI, 40, .inl (M 4))), (g 5, .inl (cI, 40, .inl (M 5))), (g 6, .inl (cI, 40, .inl (M 6))), (g 7, .inl (cI, 40, .inl (M 7)))]
theorem bs_rw_at {cI : ClassId} {g : Nat → Nat} {M : Nat → Nat → Int32} {pre : va_W} {n k : Nat} (hn : pre.length = n) (hk : k < 8) : (pre ++ bs_rw cI g M)[n + k]? = some (g k, .inl (cI, 40, .inl (M k))) := by
  subst hn
  rw [List.getElem?_append_right (Nat.le_add_right _ _), Nat.add_sub_cancel_left]
  rcases (by omega : k = 0 ∨ k = 1 ∨ k = 2 ∨ k = 3 ∨ k = 4 ∨ k = 5 ∨ k = 6 ∨ k = 7) with rfl | rfl | rfl | rfl | rfl | rfl | rfl | rfl <;> rfl
theorem bs_rw_set {cI : ClassId} {g : Nat → Nat} {M : Nat → Nat → Int32} {pre : va_W} {n k : Nat} {f : Nat → Int32} (hn : pre.length = n) (hk : k < 8) : (pre ++ bs_rw cI g M).set (n + k) (g k, .inl (cI, 40, .inl f)) = pre ++ bs_rw cI g (bs_up2 M k f) := by
  subst hn
  rw [List.set_append_right _ _ (Nat.le_add_right _ _), Nat.add_sub_cancel_left]
  rcases (by omega : k = 0 ∨ k = 1 ∨ k = 2 ∨ k = 3 ∨ k = 4 ∨ k = 5 ∨ k = 6 ∨ k = 7) with rfl | rfl | rfl | rfl | rfl | rfl | rfl | rfl <;> rfl
theorem bs_inL {i : Int32} {n : Nat} (h : bs_in i n = true) : i.toNatClampNeg < n := Nat.not_le.mp fun q => bs_inV h (Or.inr q)
theorem bs_row {g : Nat → Nat} {k : Nat} (h : k < 8) : va_rf ((fun j : Nat => if j < 8 then some (g j) else none) k) = .ref (g k) := by
  show va_rf (if k < 8 then some (g k) else none) = _
  rw [if_pos h]
  rfl
theorem bs_im0 {a b k : Nat} (h : k = 0) : va_rf ((fun j : Nat => if j = 0 then some a else some b) k) = .ref a := by
  show va_rf (if k = 0 then some a else some b) = _
  rw [if_pos h]
  rfl
theorem bs_im1 {a b k : Nat} (h : ¬ k = 0) : va_rf ((fun j : Nat => if j = 0 then some a else some b) k) = .ref b := by
  show va_rf (if k = 0 then some a else some b) = _
  rw [if_neg h]
  rfl
/-- enough for every loop -/
def bs_F : Nat := 100000
