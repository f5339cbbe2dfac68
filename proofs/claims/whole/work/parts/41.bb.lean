/-! worlds in blocks: a call takes some blocks and leaves them anew -/
def bb_upd {α : Type} : List α → List Nat → List α → List α
  | ws, i :: is, x :: xs => bb_upd (ws.set i x) is xs
  | ws, _, _ => ws
theorem bb_mem {α : Type} : ∀ (is : List Nat) (xs ws : List α), is.length = xs.length → ∀ (k : Nat) (q : α), (bb_upd ws is xs)[k]? = some q → (∃ j : Nat, xs[j]? = some q) ∨ (ws[k]? = some q ∧ k ∉ is)
  | [], [], ws, _, k, q, h => Or.inr ⟨h, List.not_mem_nil⟩
  | [], x :: xs, ws, hl, k, q, h => by simp at hl
  | i :: is, [], ws, hl, k, q, h => by simp at hl
  | i :: is, x :: xs, ws, hl, k, q, h => by
    have hl' : is.length = xs.length := by simpa using hl
    rcases bb_mem is xs (ws.set i x) hl' k q h with ⟨j, hj⟩ | ⟨h1, h2⟩
    · exact Or.inl ⟨j + 1, by simpa using hj⟩
    · by_cases hk : k = i
      · subst hk
        rw [List.getElem?_set] at h1
        simp only [if_true] at h1
        by_cases hlt : k < ws.length
        · rw [if_pos hlt] at h1
          exact Or.inl ⟨0, by simpa using h1⟩
        · rw [if_neg hlt] at h1
          cases h1
      · rw [List.getElem?_set_ne (Ne.symm hk)] at h1
        exact Or.inr ⟨h1, fun hm => by
          rcases List.mem_cons.mp hm with e | e
          · exact hk e
          · exact h2 e⟩
theorem bb_pw {A : Nat → Prop} {ws : va_W} (hD : va_D A ws) : ws.Pairwise (fun p q => p.1 ≠ q.1) :=
  List.pairwise_iff_getElem.mpr fun i j hi hj hij e => absurd (hD.1 i j _ _ (List.getElem?_eq_getElem hi) (List.getElem?_eq_getElem hj) e) (Nat.ne_of_lt hij)
theorem bb_of {A : Nat → Prop} {ws : va_W} (h : ws.Pairwise (fun p q => p.1 ≠ q.1)) (hA : ∀ q ∈ ws, A q.1) : va_D A ws := by
  refine ⟨fun i j p q hi hj e => ?_, fun k q hk => hA q (List.mem_of_getElem? hk)⟩
  obtain ⟨hi1, rfl⟩ := List.getElem?_eq_some_iff.mp hi
  obtain ⟨hj1, rfl⟩ := List.getElem?_eq_some_iff.mp hj
  rcases Nat.lt_trichotomy i j with h1 | h1 | h1
  · exact absurd e (List.pairwise_iff_getElem.mp h i j hi1 hj1 h1)
  · exact h1
  · exact absurd e.symm (List.pairwise_iff_getElem.mp h j i hj1 hi1 h1)
section BB
variable {A0 : Nat → Prop} {D : va_G} {cl : List vw_C} {bl cb cb' bl1 : List va_W} {sel : List Nat} {H H1 : Heap}
theorem bb_ne (h : bl.flatten.Pairwise (fun p q => p.1 ≠ q.1)) {i j : Nat} {b1 b2 : va_W} (hi : bl[i]? = some b1) (hj : bl[j]? = some b2) (hij : i ≠ j) {x y : Nat × va_E} (hx : x ∈ b1) (hy : y ∈ b2) : x.1 ≠ y.1 := by
  have hp := (List.pairwise_flatten.mp h).2
  obtain ⟨hi1, rfl⟩ := List.getElem?_eq_some_iff.mp hi
  obtain ⟨hj1, rfl⟩ := List.getElem?_eq_some_iff.mp hj
  rcases Nat.lt_or_gt_of_ne hij with h1 | h1
  · exact List.pairwise_iff_getElem.mp hp i j hi1 hj1 h1 x hx y hy
  · exact fun e => List.pairwise_iff_getElem.mp hp j i hj1 hi1 h1 y hy x hx e.symm
theorem bb_at (hC : sel.map (fun i => bl[i]?) = cb.map some) {j : Nat} {b : va_W} (hb : cb[j]? = some b) : ∃ i, sel[j]? = some i ∧ bl[i]? = some b := by
  have h1 : (sel.map (fun i => bl[i]?))[j]? = some (some b) := by rw [hC, List.getElem?_map, hb]; rfl
  rw [List.getElem?_map] at h1
  cases hi : sel[j]? with
  | none => rw [hi] at h1; cases h1
  | some i => rw [hi] at h1; exact ⟨i, rfl, Option.some.inj h1⟩
theorem bb_in (hC : sel.map (fun i => bl[i]?) = cb.map some) {q : Nat × va_E} (hq : q ∈ cb.flatten) : q ∈ bl.flatten := by
  obtain ⟨b, hb, hqb⟩ := List.mem_flatten.mp hq
  obtain ⟨j, hj⟩ := List.getElem?_of_mem hb
  obtain ⟨i, -, hi⟩ := bb_at hC hj
  exact List.mem_flatten.mpr ⟨b, List.mem_of_getElem? hi, hqb⟩
theorem bb_P {ws : va_W} (hP : va_P D cl ws H) {q : Nat × va_E} (hq : q ∈ ws) : va_at D cl q H := by
  obtain ⟨k, hk⟩ := List.getElem?_of_mem hq
  exact hP k q hk
theorem bb_sub (hP : va_P D cl bl.flatten H) (hC : sel.map (fun i => bl[i]?) = cb.map some) : va_P D cl cb.flatten H := fun _ _ hk => bb_P hP (bb_in hC (List.mem_of_getElem? hk))
theorem bb_subD (hD : va_D A0 bl.flatten) (hn : sel.Nodup) (hC : sel.map (fun i => bl[i]?) = cb.map some) : va_D A0 cb.flatten := by
  have hp := bb_pw hD
  refine bb_of (List.pairwise_flatten.mpr ⟨fun b hb => ?_, List.pairwise_iff_getElem.mpr fun i j hi hj hij x hx y hy => ?_⟩) (fun q hq => ?_)
  · obtain ⟨j, hj⟩ := List.getElem?_of_mem hb
    obtain ⟨i, -, hi⟩ := bb_at hC hj
    exact (List.pairwise_flatten.mp hp).1 b (List.mem_of_getElem? hi)
  · obtain ⟨i', e1, e2⟩ := bb_at hC (List.getElem?_eq_getElem hi)
    obtain ⟨j', e3, e4⟩ := bb_at hC (List.getElem?_eq_getElem hj)
    refine bb_ne hp e2 e4 (fun e => ?_) hx hy
    subst e
    obtain ⟨l1, r1⟩ := List.getElem?_eq_some_iff.mp e1
    obtain ⟨l2, r2⟩ := List.getElem?_eq_some_iff.mp e3
    exact absurd (r1.trans r2.symm) (List.pairwise_iff_getElem.mp hn i j l1 l2 hij)
  · obtain ⟨k, hk⟩ := List.getElem?_of_mem (bb_in hC hq)
    exact hD.2 k q hk
theorem bb_free {H0 : Heap} {locs : List Loc} (hD : va_D A0 bl.flatten) (hS : va_S A0 H0 H locs) (hA : ∀ q, H0.size ≤ q → A0 q) (hC : sel.map (fun i => bl[i]?) = cb.map some) : ∀ q, va_A cb.flatten H.size q → A0 q := by
  intro q hq
  rcases hq with ⟨k, e, hk⟩ | hq
  · obtain ⟨k', hk'⟩ := List.getElem?_of_mem (bb_in hC (List.mem_of_getElem? hk))
    exact hD.2 k' _ hk'
  · exact hA q (Nat.le_trans hS.1 hq)
theorem bb_join (hP : va_P D cl bl.flatten H) (hD : va_D A0 bl.flatten) (hC : sel.map (fun i => bl[i]?) = cb.map some) (hk : ∀ q : Nat, q < H.size → ¬ va_A cb.flatten H.size q → H1[q]? = H[q]?) (hP1 : va_P D cl cb'.flatten H1) (hl : sel.length = cb'.length) (hU : bb_upd bl sel cb' = bl1) : va_P D cl bl1.flatten H1 := by
  subst hU
  intro k q hq
  obtain ⟨b, hb, hqb⟩ := List.mem_flatten.mp (List.mem_of_getElem? hq)
  obtain ⟨i, hi⟩ := List.getElem?_of_mem hb
  rcases bb_mem sel cb' bl hl i b hi with ⟨j, hj⟩ | ⟨h1, h2⟩
  · exact bb_P hP1 (List.mem_flatten.mpr ⟨b, List.mem_of_getElem? hj, hqb⟩)
  · have hq0 : q ∈ bl.flatten := List.mem_flatten.mpr ⟨b, List.mem_of_getElem? h1, hqb⟩
    have hat := bb_P hP hq0
    refine hat.kept (hk q.1 hat.lt (fun hA => ?_))
    rcases hA with ⟨k2, e2, hk2⟩ | hA
    · obtain ⟨b2, hb2, hq2⟩ := List.mem_flatten.mp (List.mem_of_getElem? hk2)
      obtain ⟨j, hj⟩ := List.getElem?_of_mem hb2
      obtain ⟨i2, s1, s2⟩ := bb_at hC hj
      exact bb_ne (bb_pw hD) h1 s2 (fun e => h2 (e ▸ List.mem_of_getElem? s1)) hqb hq2 rfl
    · have := hat.lt
      omega
theorem bb_joinR (hP : va_P D cl bl.flatten H) (hD : va_D A0 bl.flatten) (hC : sel.map (fun i => bl[i]?) = cb.map some) (hk : ∀ q : Nat, q < H.size → ¬ va_A cb.flatten H.size q → H1[q]? = H[q]?) (hP1 : va_P D cl cb.flatten H1) : va_P D cl bl.flatten H1 := by
  intro k q hq
  obtain ⟨b, hb, hqb⟩ := List.mem_flatten.mp (List.mem_of_getElem? hq)
  obtain ⟨i, hi⟩ := List.getElem?_of_mem hb
  by_cases hm : i ∈ sel
  · obtain ⟨j, hj⟩ := List.getElem?_of_mem hm
    have h1 : (sel.map (fun i => bl[i]?))[j]? = some (some b) := by rw [List.getElem?_map, hj]; exact congrArg some hi
    rw [hC, List.getElem?_map] at h1
    cases hw : cb[j]? with
    | none => rw [hw] at h1; cases h1
    | some b0 =>
      rw [hw] at h1
      cases h1
      exact bb_P hP1 (List.mem_flatten.mpr ⟨b, List.mem_of_getElem? hw, hqb⟩)
  · have hat := hP k q hq
    refine hat.kept (hk q.1 hat.lt (fun hA => ?_))
    rcases hA with ⟨k2, e2, hk2⟩ | hA
    · obtain ⟨b2, hb2, hq2⟩ := List.mem_flatten.mp (List.mem_of_getElem? hk2)
      obtain ⟨j, hj⟩ := List.getElem?_of_mem hb2
      obtain ⟨i2, s1, s2⟩ := bb_at hC hj
      exact bb_ne (bb_pw hD) hi s2 (fun e => hm (e ▸ List.mem_of_getElem? s1)) hqb hq2 rfl
    · have := hat.lt
      omega
theorem bb_D (hf : bl1.map (List.map Prod.fst) = bl.map (List.map Prod.fst)) (hD : va_D A0 bl.flatten) : va_D A0 bl1.flatten := by
  refine bs_D ?_ hD
  rw [List.map_flatten, List.map_flatten, hf]
end BB
section BBC
variable {p : Program} {l : Launch} {e : Env} {R : Room} {s : State} {m : MethodId} {args : Array Value} {below : List Frame} {meth : Method} {c : Code} {H : Heap} {locs : List Loc} {Q : State → Prop} {K1 K2 : Nat}
variable {cc : ByteArray} {pc : Nat} {ls : Array Slot} {rest st : List Value} {dC : Nat → ClassId} {dI : Nat → Nat → Nat} {cI cZ cS cG : ClassId} {A : Nat → Prop} {bl cb cb' bl1 : List va_W}
variable {y : MethodName} {bytes : ByteArray} {maxL nL n index : Nat} {wsy : List Cond} {rmy : Room} {Ts : List Cond} {own C : String} {b : Nat} {As : List Value} {r : Int32} {ret : Option FieldType}
theorem bb_preV {T : u_T} {N : Nat} (hE : bs_E dC dI cI cZ cS cG s) (hP : va_P (dC, dI) vwCl bl.flatten H) (hD : va_D A bl.flatten) {sel : List Nat} (hn : sel.Nodup) (hC : sel.map (fun i => bl[i]?) = cb.map some) (ci q0 : Nat) {fs : List Value} (hc : vwCl[ci]? = some (C, T, N)) (he : cb.flatten[q0]? = some (b, .inr (ci, fs))) : PreV s H C b (va_Pc (.ref b :: As) (bs_pre dC dI cI cZ cS cG cb.flatten H.size)) As :=
  ⟨bs_blind, va_recv (q := (C, T, N)) hE.1 (bb_sub hP hC) hc he, fun U hU hW => ⟨rfl, by rw [hU], by rw [hU]; exact bb_sub hP hC, hE.warm hW, (bb_subD hD hn hC).weaken (fun _ _ _ _ => trivial)⟩⟩
/-- a call in the law that answers an int and changes blocks -/
theorem lw_cB (S : CallFix p m c cc nL s args Ts own) (hM : bs_C l dC dI cI cZ cS cG y wsy rmy (.ref b :: As) cb.flatten r cb'.flatten) (cw : CallW R s args own C index y bytes maxL ret wsy rmy 0 0 n) (hE : bs_E dC dI cI cZ cS cG s) (hP : va_P (dC, dI) vwCl bl.flatten H) (hD : va_D A bl.flatten) (hA : ∀ q : Nat, s.heap.size ≤ q → A q) (hS : va_S A s.heap H locs) (sel : List Nat) (hnd : sel.Nodup) (hC : sel.map (fun i => bl[i]?) = cb.map some) (ci q0 : Nat) {T : u_T} {N : Nat} {fs : List Value} (hc : vwCl[ci]? = some (C, T, N)) (he : cb.flatten[q0]? = some (b, .inr (ci, fs))) (hl : sel.length = cb'.length) (hU : bb_upd bl sel cb' = bl1) (hf : bl1.map (List.map Prod.fst) = bl.map (List.map Prod.fst)) (hst : st = As.reverse ++ .ref b :: rest) (hn : As.length = n) (hsz : ls.size = nL) (hw : (rest.map fun v => v.category).sum ≤ 8) (hdg : decode cc pc = .ok (.invokevirtual index, 3)) (hk : K1 + 0 ≤ R.cells ∧ K2 + 0 ≤ R.slots)
    (kk : ∀ (H1 : Heap) (locs1 : List Loc), va_P (dC, dI) vwCl bl1.flatten H1 → va_D A bl1.flatten → va_S A s.heap H1 locs1 → W p l e R s m args below meth c H1 locs1 K1 K2 Q (F0 m (pc + 3) ls (.int r :: rest))) : W p l e R s m args below meth c H locs K1 K2 Q (F0 m pc ls st) := by
  subst hst
  have hF := bb_free hD hS hA hC
  refine va_calli (va_runV (As := As) (rest := rest) S (hM H.size) cw (bb_preV hE hP hD hnd hC ci q0 hc he) rfl hn hsz rfl (lv_room hw) hdg hk) hS (fun q _ h => hF q h) hF (fun r' u t H1 locs1 ht hvm hwq hB hz1 hk1 hS1 => ?_)
  rw [ht] at hB
  subst hwq
  exact kk H1 locs1 (bb_join hP hD hC hk1 hB hl hU) (bb_D hf hD) hS1
theorem lw_cBR (S : CallFix p m c cc nL s args Ts own) (hM : bs_C l dC dI cI cZ cS cG y wsy rmy (.ref b :: As) cb.flatten r cb.flatten) (cw : CallW R s args own C index y bytes maxL ret wsy rmy 0 0 n) (hE : bs_E dC dI cI cZ cS cG s) (hP : va_P (dC, dI) vwCl bl.flatten H) (hD : va_D A bl.flatten) (hA : ∀ q : Nat, s.heap.size ≤ q → A q) (hS : va_S A s.heap H locs) (sel : List Nat) (hnd : sel.Nodup) (hC : sel.map (fun i => bl[i]?) = cb.map some) (ci q0 : Nat) {T : u_T} {N : Nat} {fs : List Value} (hc : vwCl[ci]? = some (C, T, N)) (he : cb.flatten[q0]? = some (b, .inr (ci, fs))) (hst : st = As.reverse ++ .ref b :: rest) (hn : As.length = n) (hsz : ls.size = nL) (hw : (rest.map fun v => v.category).sum ≤ 8) (hdg : decode cc pc = .ok (.invokevirtual index, 3)) (hk : K1 + 0 ≤ R.cells ∧ K2 + 0 ≤ R.slots)
    (kk : ∀ (H1 : Heap) (locs1 : List Loc), va_P (dC, dI) vwCl bl.flatten H1 → va_D A bl.flatten → va_S A s.heap H1 locs1 → W p l e R s m args below meth c H1 locs1 K1 K2 Q (F0 m (pc + 3) ls (.int r :: rest))) : W p l e R s m args below meth c H locs K1 K2 Q (F0 m pc ls st) := by
  subst hst
  have hF := bb_free hD hS hA hC
  refine va_calli (va_runV (As := As) (rest := rest) S (hM H.size) cw (bb_preV hE hP hD hnd hC ci q0 hc he) rfl hn hsz rfl (lv_room hw) hdg hk) hS (fun q _ h => hF q h) hF (fun r' u t H1 locs1 ht hvm hwq hB hz1 hk1 hS1 => ?_)
  rw [ht] at hB
  subst hwq
  exact kk H1 locs1 (bb_joinR hP hD hC hk1 hB) hD hS1
end BBC
