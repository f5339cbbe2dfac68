/-! kinds, asks, free, copies -/
theorem ak_kind : ∀ k, k < 6 → ∀ j, j < 6 → 1 ≤ k → f_X6_isOfKind (nI k) (nI j) = f_X7_isKind (nI k) (nI j) ∧ (f_X7_isKind (nI k) (nI j) = some 0 ∨ f_X7_isKind (nI k) (nI j) = some 1) := by decide +kernel
theorem ak_oath : ∀ k, k < 6 → 1 ≤ k → f_X6_isOfKind (nI k) (nI 4) = some (if k = 4 ∨ k = 5 then nI 1 else nI 0) := by decide +kernel
theorem ak_free : ∀ c, c < 11 → ∀ n, n < 9 → ∀ w, w < 2 → (f_X6_free (nI c) (nI n) (nI w)).isSome = true ∧ f_X6_free (nI c) (nI n) (nI w) = f_X7_free (nI c) (nI n) (nI w) := by decide +kernel
theorem ak_enter {b : Nat → Int32} {m : Nat} (hm : m < 16) (x : Int32) : f_X1_enter b (nI m) x = some (upd b m x, nI (m + 1)) := by
  unfold f_X1_enter
  rw [if_neg (fun z => by have := (nI_leI (a := 16) (by omega) (by omega)).mp z; omega), if_pos (bs_inN hm (by omega)), nI_clamp (by omega), nI_1]
theorem ak_begin {b : Nat → Int32} {m : Nat} (hm : m < 16) (x : Int32) : f_X7_begin b (nI m) x = some (upd b m x, nI (m + 1)) := ak_enter hm x
/-- two rows of numbers that agree below m -/
def ak_tr (m : Nat) (b t : Nat → Int32) : Prop := ∀ j, j < m → b j = t j
theorem ak_0 (b t : Nat → Int32) : ak_tr 0 b t := fun j h => absurd h (Nat.not_lt_zero j)
theorem ak_s {m : Nat} {b t : Nat → Int32} (h : ak_tr m b t) (x : Int32) : ak_tr (m + 1) (upd b m x) (upd t m x) := fun j hj => by
  by_cases e : j = m
  · subst e
    rw [pk_us, pk_us]
  · rw [pk_un e, pk_un e]
    exact h j (by omega)
theorem ak_size {st : Nat → Int32} {A : Nat → Nat} (hs : sp_at st A) (h : sp_iv A) {p : Nat} (hp : p < A 3) (b t : Nat → Int32) : ∃ (r : Int32) (b' t' : Nat → Int32) (m : Nat), f_X1_size b 0 (nI (A (9 + p))) (nI p) (nI (A (41 + p))) (nI (sp_v A (p + 1))) = some (r, b', nI m) ∧ f_X7_sizeOf st t 0 (nI p) = some (r, t', nI m) ∧ m ≤ 16 ∧ ak_tr m b' t' := by
  have h8 := h.2.2.2.1
  have hr := h.2.2.2.2.2.2 p hp
  have hw := e7_weightOf hs h hp
  have hs' := hs
  unfold sp_at at hs'
  have h41 := hs' (41 + p) (by omega)
  have h9 := hs' (9 + p) (by omega)
  generalize A (9 + p) = k at h9 hr ⊢
  generalize A (41 + p) = lk at h41 ⊢
  generalize sp_v A (p + 1) = wt at hw ⊢
  rcases (by omega : k = 1 ∨ k = 2 ∨ k = 3 ∨ k = 4 ∨ k = 5) with rfl | rfl | rfl | rfl | rfl
  · have e := ak_oath 1 (by omega) (by omega)
    unfold f_X1_size f_X7_sizeOf f_X1_sizeOfPlain f_X7_plainSize f_X1_markOfPlain f_X7_markOf f_X7_plainMark f_X7_lent
    simp (disch := omega) only [bs_lits, e, ak_enter, ak_begin, Option.bind_some, nI_eq, nI_ltI, nI_add, nI_clamp, bs_inN, h41, h9, hw, if_true, if_false, Nat.reduceEqDiff, or_self, Nat.reduceLT, Nat.reduceAdd, reduceIte]
    exact ⟨_, _, _, _, rfl, rfl, by decide, ak_s (ak_s (ak_s (ak_s (ak_0 b t) _) _) _) _⟩
  · have e := ak_oath 2 (by omega) (by omega)
    unfold f_X1_size f_X7_sizeOf f_X1_sizeOfPlain f_X7_plainSize f_X1_markOfPlain f_X7_markOf f_X7_plainMark f_X7_lent
    simp (disch := omega) only [bs_lits, e, ak_enter, ak_begin, Option.bind_some, nI_eq, nI_ltI, nI_add, nI_clamp, bs_inN, h41, h9, hw, if_true, if_false, Nat.reduceEqDiff, or_self, Nat.reduceLT, Nat.reduceAdd, reduceIte]
    exact ⟨_, _, _, _, rfl, rfl, by decide, ak_s (ak_s (ak_s (ak_s (ak_s (ak_s (ak_0 b t) _) _) _) _) _) _⟩
  · have e := ak_oath 3 (by omega) (by omega)
    unfold f_X1_size f_X7_sizeOf f_X1_sizeOfPlain f_X7_plainSize f_X1_markOfPlain f_X7_markOf f_X7_plainMark f_X7_lent
    simp (disch := omega) only [bs_lits, e, ak_enter, ak_begin, Option.bind_some, nI_eq, nI_ltI, nI_add, nI_clamp, bs_inN, h41, h9, hw, if_true, if_false, Nat.reduceEqDiff, or_self, Nat.reduceLT, Nat.reduceAdd, reduceIte]
    exact ⟨_, _, _, _, rfl, rfl, by decide, ak_s (ak_s (ak_s (ak_s (ak_s (ak_0 b t) _) _) _) _) _⟩
  · have e := ak_oath 4 (by omega) (by omega)
    unfold f_X1_size f_X7_sizeOf f_X1_sizeOfOath f_X7_sizeOfOath f_X7_oathSize f_X7_lent
    simp (disch := omega) only [bs_lits, e, ak_enter, ak_begin, Option.bind_some, nI_eq, nI_ltI, nI_add, nI_clamp, bs_inN, h41, h9, hw, if_true, if_false, Nat.reduceEqDiff, or_self, Nat.reduceLT, Nat.reduceAdd, reduceIte]
    exact ⟨_, _, _, _, rfl, rfl, by decide, ak_s (ak_s (ak_0 b t) _) _⟩
  · have e := ak_oath 5 (by omega) (by omega)
    unfold f_X1_size f_X7_sizeOf f_X1_sizeOfOath f_X7_sizeOfOath f_X7_oathSize f_X7_lent
    simp (disch := omega) only [bs_lits, e, ak_enter, ak_begin, Option.bind_some, nI_eq, nI_ltI, nI_add, nI_clamp, bs_inN, h41, h9, hw, if_true, if_false, Nat.reduceEqDiff, or_self, Nat.reduceLT, Nat.reduceAdd, reduceIte]
    exact ⟨_, _, _, _, rfl, rfl, by decide, ak_s (ak_s (ak_s (ak_0 b t) _) _) _⟩
theorem ak_mark {st : Nat → Int32} {A : Nat → Nat} (hs : sp_at st A) (h : sp_iv A) {p : Nat} (hp : p < A 3) (b t : Nat → Int32) : ∃ (r : Int32) (b' t' : Nat → Int32) (m : Nat), f_X1_mark b 0 (nI (A (9 + p))) (nI p) (nI (A (41 + p))) (nI (sp_v A (p + 1))) = some (r, b', nI m) ∧ f_X7_markOf st t 0 (nI p) = some (r, t', nI m) ∧ m ≤ 16 ∧ ak_tr m b' t' := by
  have h8 := h.2.2.2.1
  have hr := h.2.2.2.2.2.2 p hp
  have hw := e7_weightOf hs h hp
  have hs' := hs
  unfold sp_at at hs'
  have h41 := hs' (41 + p) (by omega)
  have h9 := hs' (9 + p) (by omega)
  generalize A (9 + p) = k at h9 hr ⊢
  generalize A (41 + p) = lk at h41 ⊢
  generalize sp_v A (p + 1) = wt at hw ⊢
  rcases (by omega : k = 1 ∨ k = 2 ∨ k = 3 ∨ k = 4 ∨ k = 5) with rfl | rfl | rfl | rfl | rfl
  · have e := ak_oath 1 (by omega) (by omega)
    unfold f_X1_mark f_X1_markOfPlain f_X7_markOf f_X7_plainMark f_X7_lent
    simp (disch := omega) only [bs_lits, e, ak_enter, ak_begin, Option.bind_some, nI_eq, nI_ltI, nI_add, nI_clamp, bs_inN, h41, h9, hw, if_true, if_false, Nat.reduceEqDiff, or_self, Nat.reduceLT, Nat.reduceAdd, reduceIte]
    exact ⟨_, _, _, _, rfl, rfl, by decide, ak_s (ak_s (ak_0 b t) _) _⟩
  · have e := ak_oath 2 (by omega) (by omega)
    unfold f_X1_mark f_X1_markOfPlain f_X7_markOf f_X7_plainMark f_X7_lent
    simp (disch := omega) only [bs_lits, e, ak_enter, ak_begin, Option.bind_some, nI_eq, nI_ltI, nI_add, nI_clamp, bs_inN, h41, h9, hw, if_true, if_false, Nat.reduceEqDiff, or_self, Nat.reduceLT, Nat.reduceAdd, reduceIte]
    exact ⟨_, _, _, _, rfl, rfl, by decide, ak_s (ak_s (ak_s (ak_0 b t) _) _) _⟩
  · have e := ak_oath 3 (by omega) (by omega)
    unfold f_X1_mark f_X1_markOfPlain f_X7_markOf f_X7_plainMark f_X7_lent
    simp (disch := omega) only [bs_lits, e, ak_enter, ak_begin, Option.bind_some, nI_eq, nI_ltI, nI_add, nI_clamp, bs_inN, h41, h9, hw, if_true, if_false, Nat.reduceEqDiff, or_self, Nat.reduceLT, Nat.reduceAdd, reduceIte]
    exact ⟨_, _, _, _, rfl, rfl, by decide, ak_s (ak_s (ak_s (ak_0 b t) _) _) _⟩
  · have e := ak_oath 4 (by omega) (by omega)
    unfold f_X1_mark f_X1_markOfOath f_X1_sizeOfOath f_X7_markOf f_X7_sizeOfOath f_X7_oathSize f_X7_lent
    simp (disch := omega) only [bs_lits, e, ak_enter, ak_begin, Option.bind_some, nI_eq, nI_ltI, nI_add, nI_clamp, bs_inN, h41, h9, hw, if_true, if_false, Nat.reduceEqDiff, or_self, Nat.reduceLT, Nat.reduceAdd, reduceIte]
    exact ⟨_, _, _, _, rfl, rfl, by decide, ak_s (ak_s (ak_s (ak_s (ak_0 b t) _) _) _) _⟩
  · have e := ak_oath 5 (by omega) (by omega)
    unfold f_X1_mark f_X1_markOfOath f_X1_sizeOfOath f_X7_markOf f_X7_sizeOfOath f_X7_oathSize f_X7_lent
    simp (disch := omega) only [bs_lits, e, ak_enter, ak_begin, Option.bind_some, nI_eq, nI_ltI, nI_add, nI_clamp, bs_inN, h41, h9, hw, if_true, if_false, Nat.reduceEqDiff, or_self, Nat.reduceLT, Nat.reduceAdd, reduceIte]
    exact ⟨_, _, _, _, rfl, rfl, by decide, ak_s (ak_s (ak_s (ak_s (ak_s (ak_0 b t) _) _) _) _) _⟩
/-! a Scales becomes another -/
theorem cp_8 (o1 o2 o3 o4 o5 o6 : Int32) (ok : Nat → Int32) (b1 b2 b3 b4 b5 b6 : Int32) (k0 g0 d0 y0 l0 i0 s0 : Nat → Int32) : ∀ (n i : Nat) (g d y l k s : Nat → Int32), i ≤ 8 → 8 - i < n → (∀ j, j < i → g j = g0 j ∧ d j = d0 j ∧ y j = y0 j ∧ l j = l0 j ∧ k j = i0 j ∧ s j = s0 j) → ∃ g' d' y' l' k' s' : Nat → Int32, (∀ j, j < 8 → g' j = g0 j ∧ d' j = d0 j ∧ y' j = y0 j ∧ l' j = l0 j ∧ k' j = i0 j ∧ s' j = s0 j) ∧ f_X4_become_L75 o1 o2 o3 o4 o5 o6 ok b1 b2 b3 b4 b5 b6 k0 g0 d0 y0 l0 i0 s0 n g d y l k s (nI i) = some (o1, o2, o3, o4, o5, o6, ok, g', d', y', l', k', s') := by
  intro n
  induction n with
  | zero => intro i g d y l k s _ h2; omega
  | succ n ih =>
    intro i g d y l k s h1 h2 h3
    rw [f_X4_become_L75_s]
    have e9 : ((8 : Int32) ≤ nI i) = (8 ≤ i) := propext (nI_leI (a := 8) (by omega) (by omega))
    have e5 : nI i + 1 = nI (i + 1) := nI_1 i
    rw [e5]
    simp only [e9]
    by_cases hi : i = 8
    · subst hi
      rw [if_pos (by omega)]
      exact ⟨g, d, y, l, k, s, h3, rfl⟩
    · rw [if_neg (by omega)]
      have hb : bs_in (nI i) 8 = true := bs_inN (by omega) (by omega)
      simp only [hb, if_true, nI_clamp (show i < 2 ^ 31 by omega)]
      refine ih (i + 1) _ _ _ _ _ _ (by omega) (by omega) (fun j hj => ?_)
      by_cases hji : j = i
      · subst hji
        simp only [pk_us, and_self]
      · simp only [pk_un hji]
        exact h3 j (by omega)
theorem cp_4 (o1 o2 o3 o4 o5 o6 : Int32) (b1 b2 b3 b4 b5 b6 : Int32) (k0 g0 d0 y0 l0 i0 s0 g d y l k s : Nat → Int32) : ∀ (n i : Nat) (ok : Nat → Int32), i ≤ 4 → 4 - i < n → (∀ j, j < i → ok j = k0 j) → ∃ ok' : Nat → Int32, (∀ j, j < 4 → ok' j = k0 j) ∧ f_X4_become_L50 o1 o2 o3 o4 o5 o6 g d y l k s b1 b2 b3 b4 b5 b6 k0 g0 d0 y0 l0 i0 s0 n ok (nI i) = f_X4_become_L75 o1 o2 o3 o4 o5 o6 ok' b1 b2 b3 b4 b5 b6 k0 g0 d0 y0 l0 i0 s0 bs_F g d y l k s 0 := by
  intro n
  induction n with
  | zero => intro i ok _ h2; omega
  | succ n ih =>
    intro i ok h1 h2 h3
    rw [f_X4_become_L50_s]
    have e9 : ((4 : Int32) ≤ nI i) = (4 ≤ i) := propext (nI_leI (a := 4) (by omega) (by omega))
    have e5 : nI i + 1 = nI (i + 1) := nI_1 i
    rw [e5]
    simp only [e9]
    by_cases hi : i = 4
    · subst hi
      rw [if_pos (by omega)]
      exact ⟨ok, h3, rfl⟩
    · rw [if_neg (by omega), if_pos (bs_inN (by omega) (by omega)), if_pos (bs_inN (by omega) (by omega)), nI_clamp (by omega)]
      refine ih (i + 1) _ (by omega) (by omega) (fun j hj => ?_)
      by_cases hji : j = i
      · subst hji
        rw [pk_us]
      · rw [pk_un hji]
        exact h3 j (by omega)
theorem cp_become (o1 o2 o3 o4 o5 o6 : Int32) (ok g d y l k s : Nat → Int32) (b1 b2 b3 b4 b5 b6 : Int32) (k0 g0 d0 y0 l0 i0 s0 : Nat → Int32) (hb : b1 = 0 ∨ b1 = 1) : ∃ ok' g' d' y' l' k' s' : Nat → Int32, f_X4_become o1 o2 o3 o4 o5 o6 ok g d y l k s b1 b2 b3 b4 b5 b6 k0 g0 d0 y0 l0 i0 s0 = some (b1, b2, b3, b4, b5, b6, ok', g', d', y', l', k', s') ∧ (∀ j, j < 4 → ok' j = k0 j) ∧ ∀ j, j < 8 → g' j = g0 j ∧ d' j = d0 j ∧ y' j = y0 j ∧ l' j = l0 j ∧ k' j = i0 j ∧ s' j = s0 j := by
  unfold f_X4_become
  rw [if_pos hb]
  obtain ⟨ok', a1, a2⟩ := cp_4 b1 b2 b3 b4 b5 b6 b1 b2 b3 b4 b5 b6 k0 g0 d0 y0 l0 i0 s0 g d y l k s bs_F 0 ok (by omega) (by unfold bs_F; omega) (fun j hj => by omega)
  obtain ⟨g', d', y', l', k', s', c1, c2⟩ := cp_8 b1 b2 b3 b4 b5 b6 ok' b1 b2 b3 b4 b5 b6 k0 g0 d0 y0 l0 i0 s0 bs_F 0 g d y l k s (by omega) (by unfold bs_F; omega) (fun j hj => by omega)
  exact ⟨ok', g', d', y', l', k', s', a2.trans c2, a1, c1⟩
theorem cp_c {A : Nat → Nat} (h : sp_iv A) {k0 g0 d0 y0 l0 i0 s0 k1 g1 d1 y1 l1 i1 s1 : Nat → Int32} (hc : sp_c A k0 g0 l0 i0 s0) (hd : sp_d A d0 y0) (h4 : ∀ j, j < 4 → k1 j = k0 j) (h8 : ∀ j, j < 8 → g1 j = g0 j ∧ d1 j = d0 j ∧ y1 j = y0 j ∧ l1 j = l0 j ∧ i1 j = i0 j ∧ s1 j = s0 j) : sp_c A k1 g1 l1 i1 s1 ∧ sp_d A d1 y1 := by
  have e3 := h.2.2.2.1
  have e2 := h.2.2.1
  refine ⟨⟨fun g hg => ?_, fun p hp => ?_⟩, fun p hp => ?_⟩
  · rw [h4 g (by omega)]
    exact hc.1 g hg
  · obtain ⟨a1, a2, a3, a4, a5, a6⟩ := h8 p (by omega)
    rw [a1, a4, a5, a6]
    exact hc.2 p hp
  · obtain ⟨a1, a2, a3, a4, a5, a6⟩ := h8 p (by omega)
    rw [a2, a3]
    exact hd p hp
theorem cp_image (th : Int32) (st ik : Nat → Int32) {k : Nat} (hk : k < 2) : ∀ (n i : Nat) (kp : Nat → Int32), i ≤ 57 → 57 - i < n → (∀ j, j < i → kp (57 * k + j) = st j) → ∃ kp' : Nat → Int32, (∀ j, j < 57 → kp' (57 * k + j) = st j) ∧ (∀ j, (j < 57 * k ∨ 57 * k + 57 ≤ j) → kp' j = kp j) ∧ f_X7_image_L25 th st ik (nI k) n kp (nI i) = some (1, upd ik k 1, kp') := by
  intro n
  induction n with
  | zero => intro i kp _ h2; omega
  | succ n ih =>
    intro i kp h1 h2 h3
    rw [f_X7_image_L25_s]
    have e9 : ((57 : Int32) ≤ nI i) = (57 ≤ i) := propext (nI_leI (a := 57) (by omega) (by omega))
    have e5 : nI i + 1 = nI (i + 1) := nI_1 i
    have e7 : (57 : Int32) * nI k + nI i = nI (57 * k + i) := by
      rw [show (57 : Int32) = nI 57 from rfl, pk_mul, nI_add]
    rw [e5, e7]
    simp only [e9]
    by_cases hi : i = 57
    · subst hi
      rw [if_pos (by omega), if_pos (bs_inN (by omega) (by omega)), nI_clamp (by omega)]
      exact ⟨kp, h3, fun _ _ => rfl, rfl⟩
    · rw [if_neg (by omega), if_pos (bs_inN (by omega) (by omega)), if_pos (bs_inN (by omega) (by omega)), nI_clamp (by omega), nI_clamp (by omega)]
      obtain ⟨kp', a1, a2, a3⟩ := ih (i + 1) (upd kp (57 * k + i) (st i)) (by omega) (by omega) (fun j hj => by
        by_cases hji : j = i
        · subst hji
          rw [pk_us]
        · rw [pk_un (by omega)]
          exact h3 j (by omega))
      exact ⟨kp', a1, fun j hj => by rw [a2 j hj, pk_un (by omega)], a3⟩
theorem cp_restore (am : Int32) (ik kp : Nat → Int32) {k : Nat} (hk : k < 2) : ∀ (n i : Nat) (st : Nat → Int32), i ≤ 57 → 57 - i < n → (∀ j, j < i → st j = kp (57 * k + j)) → ∃ st' : Nat → Int32, (∀ j, j < 57 → st' j = kp (57 * k + j)) ∧ f_X7_restore_L27 am ik kp (nI k) n st (nI i) = some (1, st', 0) := by
  intro n
  induction n with
  | zero => intro i st _ h2; omega
  | succ n ih =>
    intro i st h1 h2 h3
    rw [f_X7_restore_L27_s]
    have e9 : ((57 : Int32) ≤ nI i) = (57 ≤ i) := propext (nI_leI (a := 57) (by omega) (by omega))
    have e5 : nI i + 1 = nI (i + 1) := nI_1 i
    have e7 : (57 : Int32) * nI k + nI i = nI (57 * k + i) := by
      rw [show (57 : Int32) = nI 57 from rfl, pk_mul, nI_add]
    rw [e5, e7]
    simp only [e9]
    by_cases hi : i = 57
    · subst hi
      rw [if_pos (by omega)]
      exact ⟨st, h3, rfl⟩
    · rw [if_neg (by omega), if_pos (bs_inN (by omega) (by omega)), if_pos (bs_inN (by omega) (by omega)), nI_clamp (by omega), nI_clamp (by omega)]
      refine ih (i + 1) _ (by omega) (by omega) (fun j hj => ?_)
      by_cases hji : j = i
      · subst hji
        rw [pk_us]
      · rw [pk_un hji]
        exact h3 j (by omega)
