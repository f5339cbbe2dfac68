/-! found, keeps found -/
theorem fd_isSet7 {st : Nat → Int32} {A : Nat → Nat} (hs : sp_at st A) (h : sp_iv A) (x : Int32) : f_X7_isSet st x = some (if 0 ≤ x.toInt ∧ x.toInt < (2 ^ A 3 : Nat) then 1 else 0) := by
  have h3 := h.2.2.2.1
  have h9 := sp_pow h
  have hp : 0 < 2 ^ A 3 := Nat.two_pow_pos _
  have e : (((1 : Int32) <<< (st 3 &&& 31)) - 1).toInt64.toInt = ((2 ^ A 3 : Nat) : Int) - 1 := by
    rw [sm_t64, hs 3 (by omega)]
    have e1 : (1 : Int32) <<< (nI (A 3) &&& 31) = nI (2 ^ A 3) := nm_shl (A 3) (by omega)
    rw [e1]
    exact pk_sub_toInt (b := 1) (by omega) (by omega)
  have el : (0 : Int64).toInt = 0 := by decide
  unfold f_X7_isSet
  rw [e7_in, sm_t64, e, el, Option.bind_some, if_pos sm_gn]
  congr 1
  by_cases hx : 0 ≤ x.toInt ∧ x.toInt < (2 ^ A 3 : Nat)
  · rw [if_pos hx, if_pos (by exact ⟨hx.1, by omega⟩)]
  · rw [if_neg hx, if_neg]
    intro h4
    exact hx ⟨h4.1, by omega⟩
theorem fd_isSet4 {n : Nat} (hn : n ≤ 8) (x : Int32) : f_X4_isSet (nI n) x = some (if 0 ≤ x.toInt ∧ x.toInt < (2 ^ n : Nat) then 1 else 0) := by
  have h9 : 2 ^ n ≤ 2 ^ 8 := Nat.pow_le_pow_right (by omega) hn
  have e1 : (1 : Int32) <<< (nI n &&& 31) = nI (2 ^ n) := nm_shl n (by omega)
  unfold f_X4_isSet
  rw [e1]
  simp only [Int32.lt_iff_toInt_lt, Int32.le_iff_toInt_le, nI_toInt (show 2 ^ n < 2 ^ 31 by omega), Int32.toInt_zero]
  by_cases h1 : x.toInt < 0
  · rw [if_pos h1, if_neg (by omega)]
  · rw [if_neg h1]
    by_cases h2 : ((2 ^ n : Nat) : Int) ≤ x.toInt
    · rw [if_pos h2, if_neg (by omega)]
    · rw [if_neg h2, if_pos (by omega)]
theorem fd_lacks0 {sz : Nat → Int32} {r : Nat} (hr : r < 8) (hz : sz r = -1) (s i n : Int32) : f_X7_lacks sz s (nI r) i n = some (-1000011, 1) := by
  unfold f_X7_lacks
  rw [if_pos (bs_inN hr (by omega)), nI_clamp (by omega), hz, if_neg rw_m10]
  rfl
theorem fd_lacks {sz : Nat → Int32} {r k : Nat} (hr : r < 8) (hk : k ≤ 40) (hz : sz r = nI k) (s i : Int32) {n : Nat} (hn : n ≤ 100) : f_X7_lacks sz s (nI r) i (nI n) = some (if 0 ≤ i.toInt ∧ i.toInt ≤ (k : Int) - n then (0, s) else (-1000012, 2)) := by
  have el : (0 : Int64).toInt = 0 := by decide
  have e2 : (nI k - nI n).toInt64.toInt = (k : Int) - n := by
    rw [sm_t64]
    exact pk_sub_toInt (by omega) (by omega)
  unfold f_X7_lacks
  rw [if_pos (bs_inN hr (by omega)), nI_clamp (by omega), hz, if_pos (rw_neg (by omega)), if_pos (bs_inN hr (by omega)), e7_in, e2, sm_t64, el, Option.bind_some]
  by_cases h1 : 0 ≤ i.toInt ∧ i.toInt ≤ (k : Int) - n
  · rw [if_pos h1, if_neg (by decide), if_pos h1]
  · rw [if_neg h1, if_pos rfl, if_neg h1]
    rfl
def fd_ok (A : Nat → Nat) (x : Int32) : Prop := 0 ≤ x.toInt ∧ x.toInt < (2 ^ A 3 : Nat)
theorem fd_sets {st : Nat → Int32} {A : Nat → Nat} (hs : sp_at st A) (h : sp_iv A) {a it sz : Nat → Int32} {r i n : Nat} (hr : r < 8) (hin : i + 2 * n ≤ 40) (ha : ∀ j, j < 40 → a j = it (40 * r + j)) (s th w : Int32) : ∀ (f k : Nat), k ≤ n → n - k < f → ∃ b : Bool, f_X6_areSets_L3 (nI (A 3)) a (nI i) (nI n) f (nI k) = some (if b = true then 1 else 0) ∧ f_X7_found_L73 sz it s th st (nI n) w (nI (40 * r + i)) f (nI k) = (if b = true then f_X7_found_L113 sz it s th st (nI n) w (nI (40 * r + i)) bs_F 0 0 else some (-1000001, s)) ∧ (b = true ↔ ∀ q, k ≤ q → q < n → fd_ok A (a (i + 2 * q))) := by
  intro f
  have h3 := h.2.2.2.1
  induction f with
  | zero => intro k _ h2; omega
  | succ f ih =>
    intro k h1 h2
    rw [f_X6_areSets_L3_s, f_X7_found_L73_s]
    have e9 : (nI n ≤ nI k) = (n ≤ k) := propext (nI_leI (by omega) (by omega))
    have e5 : nI k + 1 = nI (k + 1) := nI_1 k
    have e6 : nI i + 2 * nI k = nI (i + 2 * k) := by
      rw [show (2 : Int32) = nI 2 from rfl, pk_mul, nI_add]
    have e7 : nI (40 * r + i) + 2 * nI k = nI (40 * r + (i + 2 * k)) := by
      rw [show (2 : Int32) = nI 2 from rfl, pk_mul, nI_add, Nat.add_assoc]
    rw [e5, e6, e7]
    simp only [e9]
    by_cases hk : k = n
    · subst hk
      rw [if_pos (Nat.le_refl _), if_pos (Nat.le_refl _)]
      exact ⟨true, rfl, rfl, ⟨fun _ q a b => by omega, fun _ => rfl⟩⟩
    · have hkn : ¬ n ≤ k := by omega
      have hb1 : bs_in (nI (i + 2 * k)) 40 = true := bs_inN (by omega) (by omega)
      have hb2 : bs_in (nI (40 * r + (i + 2 * k))) 320 = true := bs_inN (by omega) (by omega)
      simp only [if_neg hkn, hb1, hb2, if_true]
      rw [nI_clamp (by omega), nI_clamp (by omega), ← ha _ (by omega), fd_isSet4 h3, fd_isSet7 hs h, Option.bind_some, Option.bind_some]
      simp only [sm_z]
      obtain ⟨b, b1, b2, b3⟩ := ih (k + 1) (by omega) (by omega)
      by_cases hv : fd_ok A (a (i + 2 * k))
      · have hv' : 0 ≤ (a (i + 2 * k)).toInt ∧ (a (i + 2 * k)).toInt < (2 ^ A 3 : Nat) := hv
        rw [if_neg (not_not_intro hv'), if_neg (not_not_intro hv')]
        refine ⟨b, b1, b2, b3.trans ⟨fun g q q1 q2 => ?_, fun g q q1 => g q (by omega)⟩⟩
        by_cases hqk : q = k
        · subst hqk
          exact hv
        · exact g q (by omega) q2
      · have hv' : ¬ (0 ≤ (a (i + 2 * k)).toInt ∧ (a (i + 2 * k)).toInt < (2 ^ A 3 : Nat)) := hv
        rw [if_pos hv', if_pos hv']
        exact ⟨false, rfl, rfl, ⟨fun g => absurd g (by decide), fun g => absurd (g k (Nat.le_refl _) (by omega)) hv⟩⟩
theorem fd_nat {A : Nat → Nat} (h : sp_iv A) {x : Int32} (hx : fd_ok A x) : ∃ s : Nat, s < 256 ∧ x = nI s := by
  have h9 := sp_pow h
  obtain ⟨h1, h2⟩ := hx
  obtain ⟨s, s1, s2, s3⟩ := sm_nat (x := x) (n := 255) ⟨h1, by omega⟩
  exact ⟨s, by omega, s3⟩
/-- one reading of all sets, on both sides -/
theorem fd_so {st : Nat → Int32} {A : Nat → Nat} (hs : sp_at st A) (h : sp_iv A) {wt a it : Nat → Int32} (hw : ∀ p, p < A 3 → wt p = nI (sp_v A (p + 1))) {r i n : Nat} (hr : r < 8) (hin : i + 2 * n ≤ 40) (ha : ∀ j, j < 40 → a j = it (40 * r + j)) (hok : ∀ q, q < n → fd_ok A (a (i + 2 * q))) {wx sk : Nat} (hwx : wx ≤ 100) (h1 : 1 ≤ sk) (hsk : sk < 100) : ∀ (f k : Nat), k ≤ n → n - k < f → ∃ b : Bool, f_X2_areRead_L3 wt (nI (A 3)) a (nI i) (nI n) (nI wx) (nI sk) f (nI k) = some (if b = true then 1 else 0) ∧ ∀ is : Bool, f_X7_isSo_L6 it st (nI (40 * r + i)) (nI n) (nI wx) (nI sk) f (if is = true then 1 else 0) (nI k) = some (if (is && b) = true then 1 else 0) := by
  intro f
  have h3 := h.2.2.2.1
  induction f with
  | zero => intro k _ h2; omega
  | succ f ih =>
    intro k g1 g2
    rw [f_X2_areRead_L3_s]
    have e9 : (nI n ≤ nI k) = (n ≤ k) := propext (nI_leI (by omega) (by omega))
    have e5 : nI k + 1 = nI (k + 1) := nI_1 k
    have e6 : nI i + 2 * nI k = nI (i + 2 * k) := by
      rw [show (2 : Int32) = nI 2 from rfl, pk_mul, nI_add]
    have e8 : nI (i + 2 * k) + 1 = nI (i + 2 * k + 1) := nI_1 _
    have e7 : nI (40 * r + i) + 2 * nI k = nI (40 * r + (i + 2 * k)) := by
      rw [show (2 : Int32) = nI 2 from rfl, pk_mul, nI_add, Nat.add_assoc]
    have e10 : nI (40 * r + (i + 2 * k)) + 1 = nI (40 * r + (i + 2 * k + 1)) := nI_1 _
    rw [e5, e6, e8]
    simp only [e9]
    by_cases hk : k = n
    · subst hk
      rw [if_pos (Nat.le_refl _)]
      refine ⟨true, rfl, fun is => ?_⟩
      rw [f_X7_isSo_L6_s]
      simp only [e9]
      rw [if_pos (Nat.le_refl _), if_pos (by cases is; exact Or.inl rfl; exact Or.inr rfl), Bool.and_true]
    · obtain ⟨b, b1, b2⟩ := ih (k + 1) (by omega) (by omega)
      obtain ⟨s, s1, s2⟩ := fd_nat h (hok k (by omega))
      have hsl := sp_sum_le h s (A 3) (Nat.le_refl _)
      rw [if_neg (by omega), if_pos (bs_inN (by omega) (by omega)), nI_clamp (by omega), s2, e2_weightOf h hw s1, Option.bind_some, nI_add, e6_reading (by omega) (by omega) (by omega), Option.bind_some, if_pos (bs_inN (by omega) (by omega)), nI_clamp (by omega)]
      have key : ∀ is : Bool, f_X7_isSo_L6 it st (nI (40 * r + i)) (nI n) (nI wx) (nI sk) (f + 1) (if is = true then 1 else 0) (nI k) = if is = true then (if nI (sp_rd (sp_sum A s (A 3) + wx) sk) = a (i + 2 * k + 1) then f_X7_isSo_L6 it st (nI (40 * r + i)) (nI n) (nI wx) (nI sk) f 1 (nI (k + 1)) else f_X7_isSo_L6 it st (nI (40 * r + i)) (nI n) (nI wx) (nI sk) f 0 (nI (k + 1))) else f_X7_isSo_L6 it st (nI (40 * r + i)) (nI n) (nI wx) (nI sk) f 0 (nI (k + 1)) := by
        intro is
        rw [f_X7_isSo_L6_s, e5, e7, e10]
        simp only [e9]
        rw [if_neg (by omega)]
        cases is with
        | false => rfl
        | true =>
          rw [if_pos rfl, if_pos rfl, if_neg (by decide), if_pos (bs_inN (by omega) (by omega)), nI_clamp (by omega), ← ha _ (by omega), s2, e7_sumOf hs h s1, Option.bind_some, e7_readBy (by omega) hsk (by omega), Option.bind_some, if_pos (bs_inN (by omega) (by omega)), nI_clamp (by omega), ← ha _ (by omega)]
      by_cases hv : nI (sp_rd (sp_sum A s (A 3) + wx) sk) = a (i + 2 * k + 1)
      · rw [if_pos hv]
        refine ⟨b, b1, fun is => ?_⟩
        rw [key is]
        cases is with
        | false =>
          rw [if_neg (by decide)]
          exact b2 false
        | true =>
          rw [if_pos rfl, if_pos hv]
          exact b2 true
      · rw [if_neg hv]
        refine ⟨false, rfl, fun is => ?_⟩
        rw [key is]
        have hfal : f_X7_isSo_L6 it st (nI (40 * r + i)) (nI n) (nI wx) (nI sk) f 0 (nI (k + 1)) = some 0 := b2 false
        cases is with
        | false =>
          rw [if_neg (by decide)]
          exact hfal
        | true =>
          rw [if_pos rfl, if_neg hv]
          exact hfal
theorem fd_z0 : (if false = true then (1 : Int32) else 0) = 0 := rfl
theorem fd_z1 : ¬ (if true = true then (1 : Int32) else 0) = 0 := by decide
theorem fd_or0 (x : Int32) : x ||| 0 = x := by simp
theorem fd_waxes {st : Nat → Int32} {A : Nat → Nat} (hs : sp_at st A) (h : sp_iv A) (hA1 : 1 ≤ A 1) {wt a it sz : Nat → Int32} (hw : ∀ p, p < A 3 → wt p = nI (sp_v A (p + 1))) {r i n : Nat} (hr : r < 8) (hin : i + 2 * n ≤ 40) (ha : ∀ j, j < 40 → a j = it (40 * r + j)) (hok : ∀ q, q < n → fd_ok A (a (i + 2 * q))) (s th : Int32) : ∀ (f k : Nat) (acc : Int32), k ≤ 10 → 10 - k < f → ∃ res : Int32, f_X6_waxesFound_L6 (nI (A 1)) wt (nI (A 3)) a (nI i) (nI n) f acc (nI k) = some res ∧ f_X7_found_L113 sz it s th st (nI n) 0 (nI (40 * r + i)) f acc (nI k) = some (res, 0) := by
  intro f
  have h5 := h.2.1
  induction f with
  | zero => intro k acc _ h2; omega
  | succ f ih =>
    intro k acc g1 g2
    rw [f_X6_waxesFound_L6_s, f_X7_found_L113_s]
    have e9 : ((9 : Int32) < nI k) = (9 < k) := propext (nI_ltI (a := 9) (by omega) (by omega))
    have e10 : ((10 : Int32) ≤ nI k) = (10 ≤ k) := propext (nI_leI (a := 10) (by omega) (by omega))
    have e5 : nI k + 1 = nI (k + 1) := nI_1 k
    rw [e5]
    simp only [e9, e10]
    by_cases hk : k = 10
    · subst hk
      rw [if_pos (by omega), if_pos (by omega)]
      exact ⟨acc, rfl, rfl⟩
    · rw [if_neg (by omega), if_neg (by omega), if_pos trivial, hs 1 (by omega)]
      obtain ⟨b, b1, b2⟩ := fd_so hs h hw hr hin ha hok (wx := k) (sk := A 1) (by omega) hA1 (by omega) bs_F 0 (Nat.zero_le _) (by unfold bs_F; omega)
      have c1 : f_X2_areRead wt (nI (A 3)) a (nI i) (nI n) (nI k) (nI (A 1)) = some (if b = true then 1 else 0) := b1
      have c2 : f_X7_isSo it st (nI (40 * r + i)) (nI n) (nI k) (nI (A 1)) = some (if (true && b) = true then 1 else 0) := b2 true
      rw [c1, c2, Option.bind_some, Option.bind_some, Bool.true_and, fd_or0]
      cases b with
      | false =>
        rw [if_pos fd_z0, if_pos fd_z0]
        exact ih (k + 1) acc (by omega) (by omega)
      | true =>
        rw [if_neg fd_z1, if_neg fd_z1]
        exact ih (k + 1) _ (by omega) (by omega)
theorem fd_tail {st : Nat → Int32} {it sz : Nat → Int32} (s th nn at' : Int32) : ∀ (f k : Nat) (acc : Int32), 5 ≤ k → k ≤ 10 → 10 - k < f → f_X7_found_L113 sz it s th st nn 1 at' f acc (nI k) = some (acc, 0) := by
  intro f
  induction f with
  | zero => intro k acc _ _ h2; omega
  | succ f ih =>
    intro k acc g0 g1 g2
    rw [f_X7_found_L113_s]
    have e10 : ((10 : Int32) ≤ nI k) = (10 ≤ k) := propext (nI_leI (a := 10) (by omega) (by omega))
    have e11 : ((5 : Int32) ≤ nI k) = (5 ≤ k) := propext (nI_leI (a := 5) (by omega) (by omega))
    have e5 : nI k + 1 = nI (k + 1) := nI_1 k
    rw [e5]
    simp only [e10, e11]
    by_cases hk : k = 10
    · subst hk
      rw [if_pos (by omega)]
      rfl
    · rw [if_neg (by omega), if_neg (by decide), if_pos (by omega), fd_or0]
      exact ih (k + 1) acc (by omega) (by omega) (by omega)
theorem fd_sticks {st : Nat → Int32} {A : Nat → Nat} (hs : sp_at st A) (h : sp_iv A) {wt a it sz : Nat → Int32} (hw : ∀ p, p < A 3 → wt p = nI (sp_v A (p + 1))) {r i n : Nat} (hr : r < 8) (hin : i + 2 * n ≤ 40) (ha : ∀ j, j < 40 → a j = it (40 * r + j)) (hok : ∀ q, q < n → fd_ok A (a (i + 2 * q))) (s th : Int32) : ∀ (f k : Nat) (acc : Int32), k ≤ 5 → 15 - k < f → ∃ res : Int32, f_X6_sticksFound_L6 (nI (A 0)) wt (nI (A 3)) a (nI i) (nI n) f acc (nI (k + 1)) = some res ∧ f_X7_found_L113 sz it s th st (nI n) 1 (nI (40 * r + i)) f acc (nI k) = some (res, 0) := by
  intro f
  have h5 := h.1
  induction f with
  | zero => intro k acc _ h2; omega
  | succ f ih =>
    intro k acc g1 g2
    have e9 : ((5 : Int32) < nI (k + 1)) = (5 < k + 1) := propext (nI_ltI (a := 5) (by omega) (by omega))
    have e10 : ((10 : Int32) ≤ nI k) = (10 ≤ k) := propext (nI_leI (a := 10) (by omega) (by omega))
    have e11 : ((5 : Int32) ≤ nI k) = (5 ≤ k) := propext (nI_leI (a := 5) (by omega) (by omega))
    have e5 : nI k + 1 = nI (k + 1) := nI_1 k
    have e6 : nI (k + 1) + 1 = nI (k + 1 + 1) := nI_1 _
    have e7 : nI (k + 1) - 1 = nI k := nI_pred k
    by_cases hk : k = 5
    · subst hk
      rw [fd_tail s th (nI n) (nI (40 * r + i)) (f + 1) 5 acc (by omega) (by omega) (by omega), f_X6_sticksFound_L6_s]
      simp only [e9]
      rw [if_pos (by omega)]
      exact ⟨acc, rfl, rfl⟩
    · rw [f_X6_sticksFound_L6_s, f_X7_found_L113_s, e6, e7, e5]
      simp only [e9, e10, e11]
      rw [if_neg (by omega), if_neg (by omega), if_neg (by decide), if_neg (by omega), hs 0 (by omega)]
      obtain ⟨b, b1, b2⟩ := fd_so hs h hw hr hin ha hok (wx := A 0) (sk := k + 1) (by omega) (by omega) (by omega) bs_F 0 (Nat.zero_le _) (by unfold bs_F; omega)
      have c1 : f_X2_areRead wt (nI (A 3)) a (nI i) (nI n) (nI (A 0)) (nI (k + 1)) = some (if b = true then 1 else 0) := b1
      have c2 : f_X7_isSo it st (nI (40 * r + i)) (nI n) (nI (A 0)) (nI (k + 1)) = some (if (true && b) = true then 1 else 0) := b2 true
      rw [c1, c2, Option.bind_some, Option.bind_some, Bool.true_and, fd_or0]
      cases b with
      | false =>
        rw [if_pos fd_z0, if_pos fd_z0]
        exact ih (k + 1) acc (by omega) (by omega)
      | true =>
        rw [if_neg fd_z1, if_neg fd_z1]
        exact ih (k + 1) _ (by omega) (by omega)
/-! plain ones of a giver -/
def sp_pl (A : Nat → Nat) (g p : Nat) : Prop := A (17 + p) = g ∧ A (9 + p) = 1 ∧ A (49 + p) = 0
theorem fd_pl4 {kp gv lk kd sd : Nat → Int32} {A : Nat → Nat} (hc : sp_c A kp gv lk kd sd) (h : sp_iv A) {p g : Nat} (hp : p < A 3) (hg : g < 4) : ∃ b : Bool, f_X4_isPlainToCome gv kd sd (nI p) (nI g) = some (if b = true then 1 else 0) ∧ (b = true ↔ sp_pl A g p) := by
  have h8 := h.2.2.2.1
  have h2 := h.2.2.1
  have hr := h.2.2.2.2.2.2 p hp
  obtain ⟨a1, a2, a3, a4⟩ := hc.2 p hp
  unfold f_X4_isPlainToCome sp_pl
  rw [if_pos (bs_inN (by omega) (by omega)), nI_clamp (by omega), a1, a3, e4_isSettled a4 (by omega) hr.2.2.2.2.2.2, Option.bind_some]
  have e1 : (nI (A (17 + p)) = nI g) = (A (17 + p) = g) := propext (nI_eq (by omega) (by omega))
  have e2 : (nI (A (9 + p)) = (1 : Int32)) = (A (9 + p) = 1) := propext (nI_eq (b := 1) (by omega) (by omega))
  simp only [e1, e2]
  by_cases k1 : A (17 + p) = g
  · rw [if_pos k1, if_pos (bs_inN (by omega) (by omega))]
    by_cases k2 : A (9 + p) = 1
    · rw [if_pos k2]
      by_cases k3 : A (49 + p) = 0
      · rw [if_pos k3, if_pos rfl]
        exact ⟨true, rfl, ⟨fun _ => ⟨k1, k2, k3⟩, fun _ => rfl⟩⟩
      · rw [if_neg k3, if_neg (by decide)]
        exact ⟨false, rfl, ⟨fun z => absurd z (by decide), fun z => absurd z.2.2 k3⟩⟩
    · rw [if_neg k2]
      exact ⟨false, rfl, ⟨fun z => absurd z (by decide), fun z => absurd z.2.1 k2⟩⟩
  · rw [if_neg k1]
    exact ⟨false, rfl, ⟨fun z => absurd z (by decide), fun z => absurd z.1 k1⟩⟩
theorem fd_pl7 {st : Nat → Int32} {A : Nat → Nat} (hs : sp_at st A) (h : sp_iv A) {p g : Nat} (hp : p < A 3) (hg : g < 4) : ∃ b : Bool, f_X7_isPlain st (nI p) (nI g) = some (if b = true then 1 else 0) ∧ (b = true ↔ sp_pl A g p) := by
  have h8 := h.2.2.2.1
  have h2 := h.2.2.1
  have hr := h.2.2.2.2.2.2 p hp
  unfold f_X7_isPlain sp_pl
  have e17 : (17 : Int32) + nI p = nI (17 + p) := nI_add 17 p
  have e9 : (9 : Int32) + nI p = nI (9 + p) := nI_add 9 p
  rw [e7_isOpen hs h hp, Option.bind_some, e17, e9, nI_clamp (by omega), nI_clamp (by omega), hs _ (by omega), hs _ (by omega)]
  have e1 : (nI (A (17 + p)) = nI g) = (A (17 + p) = g) := propext (nI_eq (by omega) (by omega))
  have e2 : (nI (A (9 + p)) = (1 : Int32)) = (A (9 + p) = 1) := propext (nI_eq (b := 1) (by omega) (by omega))
  simp only [e1, e2]
  by_cases k3 : A (49 + p) = 0
  · rw [if_pos k3, if_neg (by decide), if_pos (bs_inN (by omega) (by omega))]
    by_cases k2 : A (9 + p) = 1
    · rw [if_pos k2, if_pos (bs_inN (by omega) (by omega))]
      by_cases k1 : A (17 + p) = g
      · rw [if_pos k1]
        exact ⟨true, rfl, ⟨fun _ => ⟨k1, k2, k3⟩, fun _ => rfl⟩⟩
      · rw [if_neg k1]
        exact ⟨false, rfl, ⟨fun z => absurd z (by decide), fun z => absurd z.1 k1⟩⟩
    · rw [if_neg k2]
      exact ⟨false, rfl, ⟨fun z => absurd z (by decide), fun z => absurd z.2.1 k2⟩⟩
  · rw [if_neg k3, if_pos (by decide)]
    exact ⟨false, rfl, ⟨fun z => absurd z (by decide), fun z => absurd z.2.2 k3⟩⟩
noncomputable def sp_np (A : Nat → Nat) (g : Nat) : Nat → Nat
  | 0 => 0
  | p + 1 => sp_np A g p + @ite Nat (sp_pl A g p) (Classical.propDecidable _) 1 0
theorem sp_np_t {A : Nat → Nat} {g p : Nat} (h : sp_pl A g p) : sp_np A g (p + 1) = sp_np A g p + 1 := by
  show sp_np A g p + @ite Nat (sp_pl A g p) (Classical.propDecidable _) 1 0 = _
  rw [@if_pos _ (Classical.propDecidable _) h]
theorem sp_np_f {A : Nat → Nat} {g p : Nat} (h : ¬ sp_pl A g p) : sp_np A g (p + 1) = sp_np A g p := by
  show sp_np A g p + @ite Nat (sp_pl A g p) (Classical.propDecidable _) 1 0 = _
  rw [@if_neg _ (Classical.propDecidable _) h]
  rfl
theorem sp_np_le (A : Nat → Nat) (g : Nat) : ∀ p, sp_np A g p ≤ p
  | 0 => Nat.le_refl _
  | p + 1 => by
    have := sp_np_le A g p
    by_cases h : sp_pl A g p
    · rw [sp_np_t h]; omega
    · rw [sp_np_f h]; omega
theorem sp_np_mono (A : Nat → Nat) (g : Nat) : ∀ {p q : Nat}, p ≤ q → sp_np A g p ≤ sp_np A g q := by
  intro p q hpq
  obtain ⟨k, rfl⟩ := Nat.exists_eq_add_of_le hpq
  induction k with
  | zero => exact Nat.le_refl _
  | succ k ih =>
    refine Nat.le_trans (ih (by omega)) ?_
    by_cases h : sp_pl A g (p + k)
    · rw [show p + (k + 1) = (p + k) + 1 by omega, sp_np_t h]; omega
    · rw [show p + (k + 1) = (p + k) + 1 by omega, sp_np_f h]; exact Nat.le_refl _
theorem fd_many4 {kp gv lk kd sd : Nat → Int32} {A : Nat → Nat} (hc : sp_c A kp gv lk kd sd) (h : sp_iv A) {g : Nat} (hg : g < 4) : ∀ (n q : Nat), q ≤ A 3 → A 3 - q < n → f_X4_howManyPlain_L4 (nI (A 3)) gv kd sd (nI g) n (nI (sp_np A g q)) (nI q) = some (nI (sp_np A g (A 3))) := by
  intro n
  have h3 := h.2.2.2.1
  induction n with
  | zero => intro q _ h2; omega
  | succ n ih =>
    intro q h1 h2
    rw [f_X4_howManyPlain_L4_s]
    by_cases hq : q = A 3
    · rw [hq, if_pos (by rw [nI_leI (by omega) (by omega)]; exact Nat.le_refl _)]
    · have ih2 := ih (q + 1) (by omega) (by omega)
      obtain ⟨b, b1, b2⟩ := fd_pl4 hc h (p := q) (by omega) hg
      have e5 : nI q + 1 = nI (q + 1) := nI_1 q
      have e6 : nI (sp_np A g q) + 1 = nI (sp_np A g q + 1) := nI_1 _
      have e7 : nI (sp_np A g q) + 0 = nI (sp_np A g q) := nI_add _ 0
      rw [if_neg (by rw [nI_leI (by omega) (by omega)]; omega), b1, Option.bind_some, e5, e6, e7]
      cases b with
      | false =>
        rw [if_pos fd_z0]
        rw [sp_np_f (fun z => absurd (b2.mpr z) (by decide))] at ih2
        exact ih2
      | true =>
        rw [if_neg fd_z1]
        rw [sp_np_t (b2.mp rfl)] at ih2
        exact ih2
theorem fd_many7 {st : Nat → Int32} {A : Nat → Nat} (hs : sp_at st A) (h : sp_iv A) {g : Nat} (hg : g < 4) (sz it : Nat → Int32) (s l i : Int32) : ∀ (n q : Nat), q ≤ A 3 → A 3 - q < n → f_X7_keepsFound_L24 sz it s st (nI g) l i n (nI (sp_np A g q)) (nI q) = Option.bind (f_X7_lacks sz s l i (nI (sp_np A g (A 3)))) fun z => if (0 : Int32) ≤ z.1 then f_X7_keepsFound_L85 sz it z.2 st (nI g) l i bs_F 0 0 else some (z.1, z.2) := by
  intro n
  have h3 := h.2.2.2.1
  induction n with
  | zero => intro q _ h2; omega
  | succ n ih =>
    intro q h1 h2
    rw [f_X7_keepsFound_L24_s, hs 3 (by omega)]
    by_cases hq : q = A 3
    · rw [hq, if_pos (by rw [nI_leI (by omega) (by omega)]; exact Nat.le_refl _)]
    · have ih2 := ih (q + 1) (by omega) (by omega)
      obtain ⟨b, b1, b2⟩ := fd_pl7 hs h (p := q) (by omega) hg
      have e5 : nI q + 1 = nI (q + 1) := nI_1 q
      have e6 : nI (sp_np A g q) + 1 = nI (sp_np A g q + 1) := nI_1 _
      have e7 : nI (sp_np A g q) + 0 = nI (sp_np A g q) := nI_add _ 0
      rw [if_neg (by rw [nI_leI (by omega) (by omega)]; omega), b1, Option.bind_some, e5, e6, e7]
      cases b with
      | false =>
        rw [if_pos fd_z0]
        rw [sp_np_f (fun z => absurd (b2.mpr z) (by decide))] at ih2
        exact ih2
      | true =>
        rw [if_neg fd_z1]
        rw [sp_np_t (b2.mp rfl)] at ih2
        exact ih2
theorem fd_weigh {st kp gv lk kd sd : Nat → Int32} {A : Nat → Nat} (hs : sp_at st A) (hc : sp_c A kp gv lk kd sd) (h : sp_iv A) {a it sz : Nat → Int32} {g r i k : Nat} (hg : g < 4) (hr : r < 8) (hin : i + sp_np A g (A 3) ≤ 40) (ha : ∀ j, j < 40 → a j = it (40 * r + j)) (hk : k ≤ 10) (rec : Int32 → Int32 → Option (Int32 × Int32)) (s l1 l2 x6 : Int32) : ∀ (f p : Nat), p ≤ A 3 → A 3 - p < f → ∃ b : Bool, f_X4_plainWeigh_L7 (nI (A 3)) gv lk kd sd a (nI g) (nI k) f (nI (i + sp_np A g p)) (nI p) = some (if b = true then 1 else 0) ∧ ∀ is : Bool, f_X7_keepsFound_L106 rec sz it s st (nI g) l1 l2 x6 (nI k) f (if is = true then 1 else 0) (nI (40 * r + (i + sp_np A g p))) (nI p) = if (is && b) = true then rec (x6 ||| ((1 : Int32) <<< (nI k &&& 31))) (nI (k + 1)) else rec x6 (nI (k + 1)) := by
  intro f
  have h3 := h.2.2.2.1
  induction f with
  | zero => intro p _ h2; omega
  | succ f ih =>
    intro p g1 g2
    rw [f_X4_plainWeigh_L7_s]
    have e9 : (nI (A 3) ≤ nI p) = (A 3 ≤ p) := propext (nI_leI (by omega) (by omega))
    have e5 : nI p + 1 = nI (p + 1) := nI_1 p
    have e6 : nI (i + sp_np A g p) + 1 = nI (i + sp_np A g p + 1) := nI_1 _
    have e7 : nI (40 * r + (i + sp_np A g p)) + 1 = nI (40 * r + (i + sp_np A g p) + 1) := nI_1 _
    have e8 : nI k + 1 = nI (k + 1) := nI_1 k
    have e41 : (41 : Int32) + nI p = nI (41 + p) := nI_add 41 p
    rw [e5, e6]
    simp only [e9]
    by_cases hp : p = A 3
    · subst hp
      rw [if_pos (Nat.le_refl _)]
      refine ⟨true, rfl, fun is => ?_⟩
      rw [f_X7_keepsFound_L106_s, hs 3 (by omega), e8, fd_or0, Bool.and_true]
      simp only [e9]
      rw [if_pos (Nat.le_refl _)]
      cases is with
      | false => rw [if_pos (by rfl), if_neg (by decide)]
      | true => rw [if_neg (by decide), if_pos rfl]
    · have hpp : p < A 3 := by omega
      obtain ⟨b, b1, b2⟩ := ih (p + 1) (by omega) (by omega)
      obtain ⟨c, c1, c2⟩ := fd_pl4 hc h hpp hg
      obtain ⟨d, d1, d2⟩ := fd_pl7 hs h hpp hg
      have hcd : c = d := Bool.eq_iff_iff.mpr (c2.trans d2.symm)
      subst hcd
      obtain ⟨a1, a2, a3, a4⟩ := hc.2 p hpp
      have hrr := h.2.2.2.2.2.2 p hpp
      have hmul := Nat.mul_le_mul hrr.2.2.2.2.2.1 hk
      rw [if_neg (by omega), c1, Option.bind_some]
      cases c with
      | false =>
        have hnp : sp_np A g (p + 1) = sp_np A g p := sp_np_f (fun z => absurd (c2.mpr z) (by decide))
        rw [hnp] at b1 b2
        rw [if_pos fd_z0]
        refine ⟨b, b1, fun is => ?_⟩
        rw [f_X7_keepsFound_L106_s, hs 3 (by omega), e5]
        simp only [e9]
        rw [if_neg (by omega), d1, Option.bind_some, if_pos fd_z0]
        exact b2 is
      | true =>
        have hnp : sp_np A g (p + 1) = sp_np A g p + 1 := sp_np_t (c2.mp rfl)
        have hmn := sp_np_mono A g (show p + 1 ≤ A 3 by omega)
        rw [hnp] at b1 b2 hmn
        have ew := e4_plainWeight (A := A) (k := k) a2 (by omega) (by omega)
        rw [if_neg fd_z1, if_pos (bs_inN (by omega) (by omega)), ew, Option.bind_some, nI_clamp (by omega)]
        have ez : nI (A (41 + p)) * nI k / 10 = nI (A (41 + p) * k / 10) := by
          rw [show (10 : Int32) = nI 10 from rfl, pk_mul, pk_div (by omega) (by omega) (by omega)]
        have key : ∀ is : Bool, f_X7_keepsFound_L106 rec sz it s st (nI g) l1 l2 x6 (nI k) (f + 1) (if is = true then 1 else 0) (nI (40 * r + (i + sp_np A g p))) (nI p) = if is = true then (if a (i + sp_np A g p) = nI (A (41 + p) * k / 10) then f_X7_keepsFound_L106 rec sz it s st (nI g) l1 l2 x6 (nI k) f 1 (nI (40 * r + (i + sp_np A g p) + 1)) (nI (p + 1)) else f_X7_keepsFound_L106 rec sz it s st (nI g) l1 l2 x6 (nI k) f 0 (nI (40 * r + (i + sp_np A g p) + 1)) (nI (p + 1))) else f_X7_keepsFound_L106 rec sz it s st (nI g) l1 l2 x6 (nI k) f 0 (nI (40 * r + (i + sp_np A g p) + 1)) (nI (p + 1)) := by
          intro is
          rw [f_X7_keepsFound_L106_s, hs 3 (by omega), e5, e7, e41]
          simp only [e9]
          rw [if_neg (by omega), d1, Option.bind_some, if_neg fd_z1]
          cases is with
          | false => rfl
          | true =>
            rw [if_pos rfl, if_pos rfl, if_neg (by decide), if_pos (bs_inN (by omega) (by omega)), if_pos (bs_inN (by omega) (by omega)), nI_clamp (by omega), nI_clamp (by omega), hs _ (by omega), ez, ← ha _ (by omega)]
            by_cases hv : a (i + sp_np A g p) = nI (A (41 + p) * k / 10)
            · rw [if_pos hv.symm, if_pos hv]
            · rw [if_neg (fun z => hv z.symm), if_neg hv]
        by_cases hv : a (i + sp_np A g p) = nI (A (41 + p) * k / 10)
        · rw [if_pos hv]
          refine ⟨b, b1, fun is => ?_⟩
          rw [key is]
          cases is with
          | false =>
            rw [if_neg (by decide)]
            exact b2 false
          | true =>
            rw [if_pos rfl, if_pos hv]
            exact b2 true
        · rw [if_neg hv]
          refine ⟨false, rfl, fun is => ?_⟩
          rw [key is]
          have hfal : f_X7_keepsFound_L106 rec sz it s st (nI g) l1 l2 x6 (nI k) f 0 (nI (40 * r + (i + sp_np A g p) + 1)) (nI (p + 1)) = rec x6 (nI (k + 1)) := b2 false
          cases is with
          | false =>
            rw [if_neg (by decide), hfal]
            rfl
          | true =>
            rw [if_pos rfl, if_neg hv, hfal]
            rfl
theorem fd_keeps {st kp gv lk kd sd : Nat → Int32} {A : Nat → Nat} (hs : sp_at st A) (hc : sp_c A kp gv lk kd sd) (h : sp_iv A) {it sz le : Nat → Int32} {G : Nat → Nat → Int32} {g r i : Nat} (hg : g < 4) (hr : r < 8) (hin : i + sp_np A g (A 3) ≤ 40) (ha : ∀ j, j < 40 → G r j = it (40 * r + j)) (s s2 gg : Int32) : ∀ (f k : Nat) (acc : Int32), k ≤ 11 → 11 - k < f → ∃ res : Int32, f_X6_keepsFound_L55 s gg (nI (A 3)) gv lk kd sd G le (nI g) (nI r) (nI i) f acc (nI k) = some (res, 0) ∧ f_X7_keepsFound_L85 sz it s2 st (nI g) (nI r) (nI i) f acc (nI k) = some (res, 0) := by
  intro f
  induction f with
  | zero => intro k acc _ h2; omega
  | succ f ih =>
    intro k acc g1 g2
    rw [f_X6_keepsFound_L55_s, f_X7_keepsFound_L85_s]
    have e9 : ((10 : Int32) < nI k) = (10 < k) := propext (nI_ltI (a := 10) (by omega) (by omega))
    have e5 : nI k + 1 = nI (k + 1) := nI_1 k
    have e7 : (40 : Int32) * nI r + nI i = nI (40 * r + i) := by
      rw [show (40 : Int32) = nI 40 from rfl, pk_mul, nI_add]
    rw [e5, e7]
    simp only [e9]
    by_cases hk : k = 11
    · subst hk
      rw [if_pos (by omega), if_pos (by omega)]
      exact ⟨acc, rfl, rfl⟩
    · obtain ⟨b, b1, b2⟩ := fd_weigh hs hc h hg hr hin ha (show k ≤ 10 by omega) (f_X7_keepsFound_L85 sz it s2 st (nI g) (nI r) (nI i) f) s2 (nI r) (nI i) acc (sz := sz) bs_F 0 (Nat.zero_le _) (by have := h.2.2.2.1; unfold bs_F; omega)
      have c1 : f_X4_plainWeigh (nI (A 3)) gv lk kd sd (G r) (nI g) (nI k) (nI i) = some (if b = true then 1 else 0) := b1
      have c2 : f_X7_keepsFound_L106 (f_X7_keepsFound_L85 sz it s2 st (nI g) (nI r) (nI i) f) sz it s2 st (nI g) (nI r) (nI i) acc (nI k) bs_F 1 (nI (40 * r + i)) 0 = if (true && b) = true then f_X7_keepsFound_L85 sz it s2 st (nI g) (nI r) (nI i) f (acc ||| ((1 : Int32) <<< (nI k &&& 31))) (nI (k + 1)) else f_X7_keepsFound_L85 sz it s2 st (nI g) (nI r) (nI i) f acc (nI (k + 1)) := b2 true
      have hk10 : ¬ 10 < k := by omega
      rw [if_neg hk10, if_neg hk10, if_pos (bs_inN hr (by omega)), nI_clamp (by omega), c1, c2, Option.bind_some, Bool.true_and]
      cases b with
      | false =>
        rw [if_pos fd_z0, if_neg (by decide)]
        exact ih (k + 1) acc (by omega) (by omega)
      | true =>
        rw [if_neg fd_z1, if_pos rfl]
        exact ih (k + 1) _ (by omega) (by omega)
