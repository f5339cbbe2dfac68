/-! one row a method, the second half -/
section TQ
variable {A : Nat → Nat} {told wax stick givers promises pan : Int32} {kp gv dd dy lk kd sd : Nat → Int32} {th : Int32} {st : Nat → Int32}
theorem tp_word (hs : sp_at st A) (hi : sp_iv A) (hc : sp_c A kp gv lk kd sd) {p : Nat} (hp : p < A 3) : ∀ (n k j : Nat), k ≤ 5 → j ≤ 6 → 6 - j < n → ∃ r, f_X4_bestKindOf_L4 kp gv lk kd sd (nI p) n (nI k) (nI j) = some r ∧ f_X7_worded_L68 st (nI p) (nI (sp_v A p)) n (nI k) (nI j) = some r := by
  intro n
  have hv := sp_v_le hi p (by omega)
  induction n with
  | zero => intro k j _ _ h2; omega
  | succ n ih =>
    intro k j h1 h2 h3
    rw [f_X4_bestKindOf_L4_s, f_X7_worded_L68_s, nI_1, e4_weightBy hc hi hp (by omega), e4_weightBy hc hi hp (by omega), e7_weightAs hs hi hp (by omega) hv, e7_weightAs hs hi hp (by omega) hv]
    simp only [Option.bind_some]
    by_cases hj : j = 6
    · subst hj
      exact ⟨nI k, rfl, rfl⟩
    · have hj5 : ¬ (5 : Int32) < nI j := by
        intro z
        have := (nI_ltI (a := 5) (by omega) (by omega)).mp z
        omega
      rw [if_neg hj5, if_neg hj5]
      by_cases hw : nI (sp_as A p j (sp_v A p)) ≤ nI (sp_as A p k (sp_v A p))
      · rw [if_pos hw, if_pos hw]
        exact ih k (j + 1) h1 (by omega) (by omega)
      · rw [if_neg hw, if_neg hw]
        exact ih j (j + 1) (by omega) (by omega) (by omega)
theorem tq_worded (h : R_N A told wax stick givers promises pan kp gv dd dy lk kd sd th st) (p1 p2 : Int32) : ∃ r, f_X6_worded promises kp gv lk kd sd p1 p2 = some r ∧ f_X7_worded st p1 p2 = some r := by
  obtain ⟨hs, hi, hc, hd, rfl, rfl, rfl, rfl, rfl, rfl, ht⟩ := h
  have h3 := hi.2.2.2.1
  unfold f_X6_worded f_X7_worded
  have e0 : (0 : Int64).toInt = 0 := by decide
  have e2 : (5 : Int64).toInt = 5 := by decide
  have i0 : (0 : Int32).toInt = 0 := by decide
  have i2 : (5 : Int32).toInt = 5 := by decide
  rw [e6_isPromise (by omega), e7_isPromise hs hi, e6_isWithin, e7_in, sm_t64, e0, e2, i0, i2]
  simp only [Option.bind_some, sm_z]
  by_cases hg : 0 ≤ p1.toInt ∧ p1.toInt < (A 3 : Nat)
  · obtain ⟨p, k1, k2, rfl⟩ := tp_nat hg
    obtain ⟨c1, c2, c3, c4⟩ := hc.2 p k1
    have hr := hi.2.2.2.2.2.2 p k1
    have hv := sp_v_le hi p (by omega)
    rw [if_neg (not_not_intro hg), if_neg (not_not_intro hg)]
    by_cases hg2 : 0 ≤ p2.toInt ∧ p2.toInt ≤ 5
    · obtain ⟨k, j1, j2, rfl⟩ := sm_nat hg2
      rw [if_neg (not_not_intro hg2), if_neg (not_not_intro hg2), e4_isSettled c4 (by omega) hr.2.2.2.2.2.2, e7_isOpen hs hi k1]
      simp only [Option.bind_some]
      by_cases hz : A (49 + p) = 0
      · rw [if_pos hz, if_pos hz, if_pos rfl, if_neg (show ¬ nI 1 = 0 by decide)]
        have el : (nI k ≤ 0) = (k = 0) := propext ⟨fun z => by have := (nI_leI (b := 0) (by omega) (by omega)).mp z; omega, fun z => by rw [z]; decide⟩
        have ee : (nI k = 0) = (k = 0) := propext (nI_eq (b := 0) (by omega) (by omega))
        have ep : (nI p = 0) = (p = 0) := propext (nI_eq (b := 0) (by omega) (by omega))
        obtain ⟨r, r1, r2⟩ := tp_word hs hi hc k1 bs_F 1 2 (by omega) (by omega) (by unfold bs_F; omega)
        have r1' : f_X4_bestKindOf kp gv lk kd sd (nI p) = some r := r1
        have r2' : f_X7_worded_L68 st (nI p) (nI (sp_v A p)) bs_F 1 2 = some r := r2
        rw [r1', e4_weightBy hc hi k1 (by omega)]
        simp only [el, ee, ep, Option.bind_some]
        have key : (if p = 0 then if k = 0 then f_X7_worded_L68 st (nI p) 0 bs_F 1 2 else Option.bind (f_X7_weightAs st (nI p) (nI k) 0) fun z20 => some z20 else Option.bind (f_X7_weightOf st (nI p - 1)) fun z8 => if k = 0 then f_X7_worded_L68 st (nI p) z8 bs_F 1 2 else Option.bind (f_X7_weightAs st (nI p) (nI k) z8) fun z14 => some z14) = if k = 0 then some r else some (nI (sp_as A p k (sp_v A p))) := by
          cases p with
          | zero =>
            rw [if_pos rfl]
            have r2'' : f_X7_worded_L68 st (nI 0) 0 bs_F 1 2 = some r := r2'
            have r3 : f_X7_weightAs st (nI 0) (nI k) 0 = some (nI (sp_as A 0 k (sp_v A 0))) := e7_weightAs hs hi k1 (b := 0) (by omega) (by omega)
            rw [r2'', r3]
            rfl
          | succ p =>
            rw [if_neg (by omega), nI_pred, e7_weightOf hs hi (by omega), Option.bind_some, r2', e7_weightAs hs hi k1 (by omega) hv]
            rfl
        rw [key]
        by_cases hk : k = 0
        · rw [if_pos hk]
          exact ⟨_, rfl, rfl⟩
        · rw [if_neg hk]
          exact ⟨_, rfl, rfl⟩
      · rw [if_neg hz, if_neg hz, if_neg (show ¬ (1 : Int32) = 0 by decide), if_pos (show nI 0 = 0 by decide)]
        exact ⟨_, rfl, rfl⟩
    · rw [if_pos hg2, if_pos hg2]
      exact ⟨_, rfl, rfl⟩
  · rw [if_pos hg, if_pos hg]
    exact ⟨_, rfl, rfl⟩
theorem tq_free (p1 p2 p3 : Int32) : ∃ r, f_X6_free p1 p2 p3 = some r ∧ f_X7_free p1 p2 p3 = some r := by
  by_cases hg1 : 0 ≤ p1.toInt ∧ p1.toInt ≤ 10
  · by_cases hg2 : 0 ≤ p2.toInt ∧ p2.toInt ≤ 8
    · by_cases hg3 : 0 ≤ p3.toInt ∧ p3.toInt ≤ 1
      · obtain ⟨a, a1, a2, rfl⟩ := sm_nat hg1
        obtain ⟨b, b1, b2, rfl⟩ := sm_nat hg2
        obtain ⟨c, c1, c2, rfl⟩ := sm_nat hg3
        obtain ⟨x1, x2⟩ := ak_free a (by omega) b (by omega) c (by omega)
        obtain ⟨r, r1⟩ := Option.isSome_iff_exists.mp x1
        exact ⟨r, r1, x2.symm.trans r1⟩
      · unfold f_X6_free f_X7_free
        have e0 : (0 : Int64).toInt = 0 := by decide
        have e1 : (1 : Int64).toInt = 1 := by decide
        have e2 : (10 : Int64).toInt = 10 := by decide
        have e3 : (8 : Int64).toInt = 8 := by decide
        have i0 : (0 : Int32).toInt = 0 := by decide
        have i2 : (10 : Int32).toInt = 10 := by decide
        have i3 : (8 : Int32).toInt = 8 := by decide
        rw [e6_isWithin, e6_isWithin, e6_isEither, e7_in, e7_in, e7_in, sm_t64, sm_t64, sm_t64, e0, e1, e2, e3, i0, i2, i3]
        simp only [Option.bind_some, sm_z]
        rw [if_neg (not_not_intro hg1), if_neg (not_not_intro hg1), if_neg (not_not_intro hg2), if_neg (not_not_intro hg2), if_pos hg3, if_pos hg3]
        exact ⟨_, rfl, rfl⟩
    · unfold f_X6_free f_X7_free
      have e0 : (0 : Int64).toInt = 0 := by decide
      have e2 : (10 : Int64).toInt = 10 := by decide
      have e3 : (8 : Int64).toInt = 8 := by decide
      have i0 : (0 : Int32).toInt = 0 := by decide
      have i2 : (10 : Int32).toInt = 10 := by decide
      have i3 : (8 : Int32).toInt = 8 := by decide
      rw [e6_isWithin, e6_isWithin, e7_in, e7_in, sm_t64, sm_t64, e0, e2, e3, i0, i2, i3]
      simp only [Option.bind_some, sm_z]
      rw [if_neg (not_not_intro hg1), if_neg (not_not_intro hg1), if_pos hg2, if_pos hg2]
      exact ⟨_, rfl, rfl⟩
  · unfold f_X6_free f_X7_free
    have e0 : (0 : Int64).toInt = 0 := by decide
    have e2 : (10 : Int64).toInt = 10 := by decide
    have i0 : (0 : Int32).toInt = 0 := by decide
    have i2 : (10 : Int32).toInt = 10 := by decide
    rw [e6_isWithin, e7_in, sm_t64, e0, e2, i0, i2]
    simp only [Option.bind_some, sm_z]
    rw [if_pos hg1, if_pos hg1]
    exact ⟨_, rfl, rfl⟩
theorem tq_ask (h : R_N A told wax stick givers promises pan kp gv dd dy lk kd sd th st) (b t : Nat → Int32) {m : Nat} (hm : m ≤ 16) (htr : ak_tr m b t) (k n l w : Int32) (p1 p2 : Int32) : ∃ z w' m', f_X6_ask promises kp gv lk kd sd b (nI m) k n l w p1 p2 = some z ∧ f_X7_ask st t (nI m) p1 p2 = some w' ∧ z.1 = w'.1 ∧ m' ≤ 16 ∧ z.2.2.1 = nI m' ∧ w'.2.2 = nI m' ∧ ak_tr m' z.2.1 w'.2.1 := by
  obtain ⟨hs, hi, hc, hd, rfl, rfl, rfl, rfl, rfl, rfl, ht⟩ := h
  have h3 := hi.2.2.2.1
  unfold f_X6_ask f_X7_ask
  have e0 : (0 : Int64).toInt = 0 := by decide
  have e1 : (1 : Int64).toInt = 1 := by decide
  rw [e6_isPromise (by omega), e7_isPromise hs hi, e6_isEither, e7_in, sm_t64, e0, e1]
  simp only [Option.bind_some, sm_z]
  by_cases hg : 0 ≤ p1.toInt ∧ p1.toInt < (A 3 : Nat)
  · obtain ⟨p, k1, k2, rfl⟩ := tp_nat hg
    obtain ⟨c1, c2, c3, c4⟩ := hc.2 p k1
    rw [if_neg (not_not_intro hg), if_neg (not_not_intro hg)]
    by_cases hg2 : 0 ≤ p2.toInt ∧ p2.toInt ≤ 1
    · have eT : f_X1_turnTo (nI m) k n l w kp gv lk kd sd (nI p) = some (0, nI (A (9 + p)), nI p, nI (A (41 + p)), nI (sp_v A (p + 1))) := by
        unfold f_X1_turnTo
        rw [if_pos (bs_inN (by omega) (by omega)), if_pos (bs_inN (by omega) (by omega)), e4_weightOf hc hi k1, Option.bind_some, nI_clamp k2, c2, c3]
      rw [if_neg (not_not_intro hg2), if_neg (not_not_intro hg2), eT]
      simp only [Option.bind_some]
      by_cases hz : p2 = 0
      · obtain ⟨r, b', t', m', s1, s2, s3, s4⟩ := ak_size hs hi k1 b t
        rw [if_pos hz, if_pos hz, s1, s2]
        exact ⟨_, _, m', rfl, rfl, rfl, s3, rfl, rfl, s4⟩
      · obtain ⟨r, b', t', m', s1, s2, s3, s4⟩ := ak_mark hs hi k1 b t
        rw [if_neg hz, if_neg hz, s1, s2]
        exact ⟨_, _, m', rfl, rfl, rfl, s3, rfl, rfl, s4⟩
    · rw [if_pos hg2, if_pos hg2]
      exact ⟨_, _, m, rfl, rfl, rfl, hm, rfl, rfl, htr⟩
  · rw [if_pos hg, if_pos hg]
    exact ⟨_, _, m, rfl, rfl, rfl, hm, rfl, rfl, htr⟩
theorem tq_trace (b t : Nat → Int32) {m : Nat} (hm : m ≤ 16) (htr : ak_tr m b t) (p1 : Int32) : ∃ r, f_X6_trace b (nI m) p1 = some r ∧ f_X7_trace t (nI m) p1 = some r := by
  unfold f_X6_trace f_X7_trace f_X1_bodyAt
  have e0 : (0 : Int64).toInt = 0 := by decide
  have e1 : (nI m - 1).toInt64.toInt = (m : Int) - 1 := by
    rw [sm_t64]
    exact pk_sub_toInt (b := 1) (by omega) (by omega)
  rw [e7_in, sm_t64, e0, e1]
  simp only [Option.bind_some, sm_z]
  by_cases hg : 0 ≤ p1.toInt ∧ p1.toInt < (m : Nat)
  · obtain ⟨p, k1, k2, rfl⟩ := tp_nat hg
    have hpt := nI_toInt k2
    rw [if_neg (nI_pos k2), if_neg (by rw [nI_leI (by omega) (by omega)]; omega), if_pos (bs_inN (by omega) (by omega)), if_neg (not_not_intro (by rw [hpt]; omega)), if_pos (bs_inN (by omega) (by omega)), nI_clamp k2, htr p k1]
    exact ⟨_, rfl, rfl⟩
  · rw [if_pos (fun z => hg ⟨z.1, by omega⟩)]
    by_cases h1 : p1 < 0
    · rw [if_pos h1]
      exact ⟨_, rfl, rfl⟩
    · have h2 : nI m ≤ p1 := by
        rw [Int32.le_iff_toInt_le, nI_toInt (by omega)]
        rw [Int32.lt_iff_toInt_lt, Int32.toInt_zero] at h1
        omega
      rw [if_neg h1, if_pos h2]
      exact ⟨_, rfl, rfl⟩
end TQ
