/-! rows -/
def R_rows (la le : Nat → Int32) (G : Nat → Nat → Int32) (ln sz it : Nat → Int32) : Prop := ∀ r, r < 8 → la r = ln r ∧ le r = sz r ∧ (le r = -1 ∨ ∃ k : Nat, k ≤ 40 ∧ le r = nI k) ∧ ∀ i, i < 40 → G r i = it (40 * r + i)
theorem rw_m1 {k : Nat} (h : k < 2 ^ 31) : ¬ nI k = -1 := by
  intro hh
  have : (-1 : Int32).toInt = (nI k).toInt := by rw [hh]
  rw [nI_toInt h] at this
  have e : (-1 : Int32).toInt = -1 := by decide
  omega
theorem rw_sub {k : Nat} (hk : k ≤ 1000) {x : Int32} (hx : 0 ≤ x.toInt) : (nI k - x).toInt = k - x.toInt := by
  have h1 := Int32.toInt_lt x
  rw [Int32.toInt_sub, nI_toInt (by omega)]
  unfold Int.bmod
  simp only []
  split <;> omega
theorem rw_subL {k : Nat} (hk : k ≤ 1000) (x : Int32) : ((nI k).toInt64 - x.toInt64).toInt = k - x.toInt := by
  have h1 := Int32.toInt_lt x
  have h2 := Int32.le_toInt x
  rw [Int64.toInt_sub, sm_t64, sm_t64, nI_toInt (by omega)]
  unfold Int.bmod
  simp only []
  split <;> omega
theorem rw_miss {le : Nat → Int32} {r : Nat} (hr : r < 8) : f_X3_isMissing le (nI r) = some (if le r = -1 then 1 else 0) := by
  unfold f_X3_isMissing
  rw [if_pos (bs_inN hr (by omega)), nI_clamp (by omega)]
  split <;> rfl
/-- what a run of a row lacks: 1 the row, 2 a place -/
theorem rw_run {le : Nat → Int32} {r k : Nat} (hr : r < 8) (hk : k ≤ 40) (hle : le r = nI k) (i n : Int32) : f_X3_findingOfRun le (nI r) i n = some (if 0 ≤ i.toInt ∧ 0 ≤ n.toInt ∧ i.toInt ≤ k - n.toInt then 0 else 2) := by
  unfold f_X3_findingOfRun
  rw [rw_miss hr, hle, if_neg (rw_m1 (by omega)), Option.bind_some, if_pos rfl, nI_clamp (by omega), hle]
  simp only [Int32.lt_iff_toInt_lt, Int32.le_iff_toInt_le, Int32.toInt_zero]
  by_cases h1 : i.toInt < 0
  · rw [if_pos h1, if_neg (by omega)]
  · rw [if_neg h1]
    by_cases h2 : n.toInt < 0
    · rw [if_pos h2, if_neg (by omega)]
    · rw [if_neg h2, if_pos (bs_inN hr (by omega)), rw_sub (by omega) (by omega)]
      by_cases h3 : i.toInt ≤ k - n.toInt
      · rw [if_pos h3, if_pos (by omega)]
      · rw [if_neg h3, if_neg (by omega)]
theorem rw_run0 {le : Nat → Int32} {r : Nat} (hr : r < 8) (hle : le r = -1) (i n : Int32) : f_X3_findingOfRun le (nI r) i n = some 1 := by
  unfold f_X3_findingOfRun
  rw [rw_miss hr, if_pos hle, Option.bind_some, if_neg (by decide)]
theorem rw_neg {k : Nat} (hk : k < 2 ^ 31) : (0 : Int32) ≤ nI k := nI_pos' hk
theorem rw_m10 : ¬ (0 : Int32) ≤ -1 := by decide
theorem rw_make_L (la le : Nat → Int32) {r : Nat} (hr : r < 8) : ∀ (n i : Nat) (G : Nat → Nat → Int32), i ≤ 40 → 40 - i < n → ∃ G' : Nat → Nat → Int32, (∀ j, j ≠ r → G' j = G j) ∧ (∀ j, i ≤ j → j < 40 → G' r j = 0) ∧ (∀ j, j < i → G' r j = G r j) ∧ f_X3_make_L17 la le (nI r) n G (nI i) = some (G', la, le) := by
  intro n
  induction n with
  | zero => intro i G _ h2; omega
  | succ n ih =>
    intro i G h1 h2
    rw [f_X3_make_L17_s]
    have e9 : ((40 : Int32) ≤ nI i) = (40 ≤ i) := propext (nI_leI (a := 40) (by omega) (by omega))
    have e5 : nI i + 1 = nI (i + 1) := nI_1 i
    rw [e5]
    simp only [e9]
    by_cases hi : i = 40
    · subst hi
      rw [if_pos (by omega)]
      exact ⟨G, fun _ _ => rfl, fun j a b => by omega, fun _ _ => rfl, rfl⟩
    · rw [if_neg (by omega), if_pos (bs_inN hr (by omega)), if_pos (bs_inN (by omega) (by omega)), nI_clamp (by omega), nI_clamp (by omega)]
      obtain ⟨G', a1, a2, a3, a4⟩ := ih (i + 1) (bs_up2 G r (upd (G r) i 0)) (by omega) (by omega)
      have er : bs_up2 G r (upd (G r) i 0) r = upd (G r) i 0 := if_pos rfl
      refine ⟨G', fun j hj => (a1 j hj).trans (if_neg hj), fun j j1 j2 => ?_, fun j hj => ?_, a4⟩
      · by_cases hji : j = i
        · subst hji
          rw [a3 j (by omega), er, pk_us]
        · exact a2 j (by omega) j2
      · rw [a3 j (by omega), er, pk_un (by omega)]
theorem rw_rowM_L (la sz : Nat → Int32) (s nn : Int32) {r : Nat} (hr : r < 8) : ∀ (n i : Nat) (it : Nat → Int32), i ≤ 40 → 40 - i < n → ∃ it' : Nat → Int32, (∀ j, (j < 40 * r + i ∨ 40 * r + 40 ≤ j) → it' j = it j) ∧ (∀ j, i ≤ j → j < 40 → it' (40 * r + j) = 0) ∧ f_X7_row_L55 la sz s (nI r) nn n it (nI i) = some (nn, la, sz, it', 0) := by
  intro n
  induction n with
  | zero => intro i it _ h2; omega
  | succ n ih =>
    intro i it h1 h2
    rw [f_X7_row_L55_s]
    have e9 : ((40 : Int32) ≤ nI i) = (40 ≤ i) := propext (nI_leI (a := 40) (by omega) (by omega))
    have e5 : nI i + 1 = nI (i + 1) := nI_1 i
    have e7 : (40 : Int32) * nI r + nI i = nI (40 * r + i) := by
      rw [show (40 : Int32) = nI 40 from rfl, pk_mul, nI_add]
    rw [e5, e7]
    simp only [e9]
    by_cases hi : i = 40
    · subst hi
      rw [if_pos (by omega)]
      exact ⟨it, fun _ _ => rfl, fun j a b => by omega, rfl⟩
    · rw [if_neg (by omega), if_pos (bs_inN (by omega) (by omega)), nI_clamp (by omega)]
      obtain ⟨it', a1, a2, a3⟩ := ih (i + 1) (upd it (40 * r + i) 0) (by omega) (by omega)
      refine ⟨it', fun j hj => ?_, fun j j1 j2 => ?_, a3⟩
      · rw [a1 j (by omega), pk_un (by omega)]
      · by_cases hji : j = i
        · subst hji
          rw [a1 _ (by omega), pk_us]
        · exact a2 j (by omega) j2
theorem e_row {la le : Nat → Int32} {G : Nat → Nat → Int32} {ln sz it : Nat → Int32} (h : R_rows la le G ln sz it) (s p1 p2 p3 : Int32) : ∃ (z : Int32 × Int32 × (Nat → Nat → Int32) × (Nat → Int32) × (Nat → Int32)) (w : Int32 × (Nat → Int32) × (Nat → Int32) × (Nat → Int32) × Int32), f_X6_row s G la le p1 p2 p3 = some z ∧ f_X7_row ln sz it s p1 p2 p3 = some w ∧ z.1 = w.1 ∧ z.2.1 = w.2.2.2.2 ∧ R_rows z.2.2.2.1 z.2.2.2.2 z.2.2.1 w.2.1 w.2.2.1 w.2.2.2.1 := by
  unfold f_X6_row f_X7_row
  rw [e6_isRow, e7_isRow, Option.bind_some, Option.bind_some]
  simp only [sm_z]
  by_cases h1 : 0 ≤ p1.toInt ∧ p1.toInt ≤ 7
  · obtain ⟨r, r1, r2, rfl⟩ := sm_nat h1
    have hr : r < 8 := by omega
    rw [if_neg (not_not_intro h1), if_neg (not_not_intro h1), e6_isWithin, e7_in, sm_t64, Option.bind_some, Option.bind_some]
    have ez : (0 : Int32).toInt = 0 := by decide
    have ez2 : (2 : Int32).toInt = 2 := by decide
    have el : (0 : Int64).toInt = 0 := by decide
    have el2 : (2 : Int64).toInt = 2 := by decide
    rw [ez, ez2, el, el2]
    simp only [sm_z]
    by_cases h2 : 0 ≤ p2.toInt ∧ p2.toInt ≤ 2
    · rw [if_neg (not_not_intro h2), if_neg (not_not_intro h2)]
      by_cases h3 : p3 ≤ 40
      · rw [if_pos h3, if_pos h3]
        by_cases h4 : 0 ≤ p3
        · rw [if_pos h4, if_pos h4]
          have h5 : 0 ≤ p3.toInt ∧ p3.toInt ≤ 40 := by
            rw [Int32.le_iff_toInt_le] at h3 h4
            rw [Int32.toInt_zero] at h4
            have e40 : (40 : Int32).toInt = 40 := by decide
            omega
          obtain ⟨n, n1, n2, rfl⟩ := sm_nat h5
          unfold f_X3_make
          rw [if_pos (bs_inN hr (by omega)), if_pos (bs_inN hr (by omega)), if_pos (bs_inN hr (by omega)), if_pos (bs_inN hr (by omega)), nI_clamp (by omega)]
          obtain ⟨G', a1, a2, a3, a4⟩ := rw_make_L (upd la r p2) (upd le r (nI n)) hr bs_F 0 G (by omega) (by unfold bs_F; omega)
          obtain ⟨it', c1, c2, c3⟩ := rw_rowM_L (upd ln r p2) (upd sz r (nI n)) s (nI n) hr bs_F 0 it (by omega) (by unfold bs_F; omega)
          have a4' : f_X3_make_L17 (upd la r p2) (upd le r (nI n)) (nI r) bs_F G 0 = some (G', upd la r p2, upd le r (nI n)) := a4
          rw [a4', Option.bind_some]
          refine ⟨_, _, rfl, c3, rfl, rfl, fun q hq => ?_⟩
          show upd la r p2 q = upd ln r p2 q ∧ upd le r (nI n) q = upd sz r (nI n) q ∧ (upd le r (nI n) q = -1 ∨ ∃ k : Nat, k ≤ 40 ∧ upd le r (nI n) q = nI k) ∧ ∀ i, i < 40 → G' q i = it' (40 * q + i)
          by_cases hqr : q = r
          · subst hqr
            exact ⟨by simp only [pk_us], by simp only [pk_us], Or.inr ⟨n, by omega, by simp only [pk_us]⟩, fun i hi => by rw [a2 i (Nat.zero_le _) hi, c2 i (Nat.zero_le _) hi]⟩
          · simp only [pk_un hqr]
            obtain ⟨d1, d2, d3, d4⟩ := h q hq
            exact ⟨d1, d2, d3, fun i hi => by rw [a1 q hqr, c1 _ (by omega)]; exact d4 i hi⟩
        · rw [if_neg h4, if_neg h4]
          exact ⟨_, _, rfl, rfl, rfl, rfl, h⟩
      · rw [if_neg h3, if_neg h3]
        exact ⟨_, _, rfl, rfl, rfl, rfl, h⟩
    · rw [if_pos h2, if_pos h2]
      exact ⟨_, _, rfl, rfl, rfl, rfl, h⟩
  · rw [if_pos h1, if_pos h1]
    exact ⟨_, _, rfl, rfl, rfl, rfl, h⟩
theorem rw_b8 (x : Int32) : (x <<< ((24 : Int32) &&& 31)) >>> ((24 : Int32) &&& 31) = x.toInt8.toInt32 := by
  apply Int32.toInt_inj.mp
  rw [pk_shr _ _ 24 (by decide), Int8.toInt_toInt32, Int32.toInt_toInt8, Int.shiftRight_eq_div_pow]
  have h1 := pk_shl x ((24 : Int32) &&& 31) 24 (by decide)
  have h2 : x.toBitVec.toNat < 4294967296 := x.toBitVec.isLt
  have h3 : (x <<< ((24 : Int32) &&& 31)).toInt = (x <<< ((24 : Int32) &&& 31)).toBitVec.toInt := rfl
  have h4 : x.toInt = x.toBitVec.toInt := rfl
  rw [h3, h4, BitVec.toInt_eq_toNat_cond, BitVec.toInt_eq_toNat_cond, h1]
  unfold Int.bmod
  simp only []
  (repeat' split) <;> omega
theorem rw_b16 (x : Int32) : (x <<< ((16 : Int32) &&& 31)) >>> ((16 : Int32) &&& 31) = x.toInt16.toInt32 := by
  apply Int32.toInt_inj.mp
  rw [pk_shr _ _ 16 (by decide), Int16.toInt_toInt32, Int32.toInt_toInt16, Int.shiftRight_eq_div_pow]
  have h1 := pk_shl x ((16 : Int32) &&& 31) 16 (by decide)
  have h2 : x.toBitVec.toNat < 4294967296 := x.toBitVec.isLt
  have h3 : (x <<< ((16 : Int32) &&& 31)).toInt = (x <<< ((16 : Int32) &&& 31)).toBitVec.toInt := rfl
  have h4 : x.toInt = x.toBitVec.toInt := rfl
  rw [h3, h4, BitVec.toInt_eq_toNat_cond, BitVec.toInt_eq_toNat_cond, h1]
  unfold Int.bmod
  simp only []
  (repeat' split) <;> omega
def rw_lane (l v : Int32) : Int32 := if l = 0 then v.toInt8.toInt32 else if l = 1 then v.toInt16.toInt32 else v
theorem rw_asLane (l v : Int32) : f_X7_asLane l v = some (rw_lane l v) := by
  unfold f_X7_asLane rw_lane
  rw [rw_b8, rw_b16]
  (repeat' split) <;> rfl
theorem rw_put {G : Nat → Nat → Int32} {la : Nat → Int32} {r i : Nat} (hr : r < 8) (hi : i < 40) (v : Int32) : f_X3_put G la (nI r) (nI i) v = some (rw_lane (la r) v, bs_up2 G r (upd (G r) i (rw_lane (la r) v))) := by
  unfold f_X3_put rw_lane
  have h1 : bs_in (nI r) 8 = true := bs_inN hr (by omega)
  have h2 : bs_in (nI i) 40 = true := bs_inN hi (by omega)
  simp only [h1, h2, if_true, nI_clamp (show r < 2 ^ 31 by omega), nI_clamp (show i < 2 ^ 31 by omega)]
  (repeat' split) <;> rfl
theorem e_set {la le : Nat → Int32} {G : Nat → Nat → Int32} {ln sz it : Nat → Int32} (h : R_rows la le G ln sz it) (s p1 p2 p3 : Int32) : ∃ (z : Int32 × Int32 × (Nat → Nat → Int32)) (w : Int32 × (Nat → Int32) × Int32), f_X6_set s G la le p1 p2 p3 = some z ∧ f_X7_set ln sz it s p1 p2 p3 = some w ∧ z.1 = w.1 ∧ z.2.1 = w.2.2 ∧ R_rows la le z.2.2 ln sz w.2.1 := by
  unfold f_X6_set f_X7_set
  rw [e6_isRow, e7_isRow, Option.bind_some, Option.bind_some]
  simp only [sm_z]
  by_cases h1 : 0 ≤ p1.toInt ∧ p1.toInt ≤ 7
  · obtain ⟨r, r1, r2, rfl⟩ := sm_nat h1
    have hr : r < 8 := by omega
    obtain ⟨d1, d2, d3, d4⟩ := h r hr
    have hb : bs_in (nI r) 8 = true := bs_inN hr (by omega)
    rw [if_neg (not_not_intro h1), if_neg (not_not_intro h1)]
    simp only [hb, if_true, nI_clamp (show r < 2 ^ 31 by omega), ← d1, ← d2]
    rcases d3 with d3 | ⟨k, k1, k2⟩
    · rw [rw_run0 hr d3, Option.bind_some, if_neg (by decide), d3, if_neg rw_m10]
      exact ⟨_, _, rfl, rfl, rfl, rfl, h⟩
    · have e1 : (1 : Int32).toInt = 1 := by decide
      have el : (0 : Int64).toInt = 0 := by decide
      have e2 : (nI k - 1).toInt64.toInt = (k : Int) - 1 := by
        rw [sm_t64, rw_sub (by omega) (by omega), e1]
      rw [rw_run hr k1 k2, k2, if_pos (rw_neg (by omega)), Option.bind_some, e7_in, e2, sm_t64, el, e1, Option.bind_some]
      by_cases h2 : 0 ≤ p2.toInt ∧ p2.toInt ≤ (k : Int) - 1
      · have h2' : 0 ≤ p2.toInt ∧ (0 : Int) ≤ 1 ∧ p2.toInt ≤ (k : Int) - 1 := ⟨h2.1, by omega, h2.2⟩
        obtain ⟨i, i1, i2, rfl⟩ := sm_nat h2
        have hi : i < 40 := by omega
        have e7 : (40 : Int32) * nI r + nI i = nI (40 * r + i) := by
          rw [show (40 : Int32) = nI 40 from rfl, pk_mul, nI_add]
        have hb2 : bs_in (nI (40 * r + i)) 320 = true := bs_inN (by omega) (by omega)
        rw [if_pos h2', if_pos rfl, if_pos h2, if_neg (by decide), rw_put hr hi, Option.bind_some, rw_asLane, Option.bind_some, e7]
        simp only [hb2, if_true, nI_clamp (show 40 * r + i < 2 ^ 31 by omega)]
        refine ⟨_, _, rfl, rfl, ?_, rfl, fun q hq => ?_⟩
        · show rw_lane (la r) p3 = upd it (40 * r + i) (rw_lane (la r) p3) (40 * r + i)
          rw [pk_us]
        · obtain ⟨c1, c2, c3, c4⟩ := h q hq
          refine ⟨c1, c2, c3, fun j hj => ?_⟩
          show bs_up2 G r (upd (G r) i (rw_lane (la r) p3)) q j = upd it (40 * r + i) (rw_lane (la r) p3) (40 * q + j)
          by_cases hqr : q = r
          · subst hqr
            have er : bs_up2 G q (upd (G q) i (rw_lane (la q) p3)) q = upd (G q) i (rw_lane (la q) p3) := if_pos rfl
            rw [er]
            by_cases hji : j = i
            · subst hji
              rw [pk_us, pk_us]
            · rw [pk_un hji, pk_un (by omega)]
              exact c4 j hj
          · have er : bs_up2 G r (upd (G r) i (rw_lane (la r) p3)) q = G q := if_neg hqr
            rw [er, pk_un (by omega)]
            exact c4 j hj
      · have h2' : ¬ (0 ≤ p2.toInt ∧ (0 : Int) ≤ 1 ∧ p2.toInt ≤ (k : Int) - 1) := fun z => h2 ⟨z.1, z.2.2⟩
        rw [if_neg h2', if_neg (by decide), if_neg h2, if_pos rfl]
        exact ⟨_, _, rfl, rfl, rfl, rfl, h⟩
  · rw [if_pos h1, if_pos h1]
    exact ⟨_, _, rfl, rfl, rfl, rfl, h⟩
theorem e_drop {la le : Nat → Int32} {G : Nat → Nat → Int32} {ln sz it : Nat → Int32} (h : R_rows la le G ln sz it) (s p1 : Int32) : ∃ (z : Int32 × Int32 × (Nat → Int32)) (w : Int32 × (Nat → Int32) × Int32), f_X6_drop s le p1 = some z ∧ f_X7_drop sz s p1 = some w ∧ z.1 = w.1 ∧ z.2.1 = w.2.2 ∧ R_rows la z.2.2 G ln w.2.1 it := by
  unfold f_X6_drop f_X7_drop
  rw [e6_isRow, e7_isRow, Option.bind_some, Option.bind_some]
  simp only [sm_z]
  by_cases h1 : 0 ≤ p1.toInt ∧ p1.toInt ≤ 7
  · obtain ⟨r, r1, r2, rfl⟩ := sm_nat h1
    have hr : r < 8 := by omega
    obtain ⟨d1, d2, d3, d4⟩ := h r hr
    have hb : bs_in (nI r) 8 = true := bs_inN hr (by omega)
    rw [if_neg (not_not_intro h1), if_neg (not_not_intro h1), rw_miss hr, Option.bind_some]
    unfold f_X3_remove
    simp only [hb, if_true, nI_clamp (show r < 2 ^ 31 by omega), ← d2]
    rcases d3 with d3 | ⟨k, k1, k2⟩
    · rw [if_pos d3, if_neg (by decide), d3, if_neg rw_m10]
      exact ⟨_, _, rfl, rfl, rfl, rfl, h⟩
    · have hk : ¬ le r = -1 := by rw [k2]; exact rw_m1 (by omega)
      have hk0 : (0 : Int32) ≤ le r := by rw [k2]; exact rw_neg (by omega)
      rw [if_neg hk, if_pos rfl, if_pos hk0]
      refine ⟨_, _, rfl, rfl, rfl, rfl, fun q hq => ?_⟩
      obtain ⟨c1, c2, c3, c4⟩ := h q hq
      show la q = ln q ∧ upd le r (-1) q = upd sz r (-1) q ∧ (upd le r (-1) q = -1 ∨ ∃ k : Nat, k ≤ 40 ∧ upd le r (-1) q = nI k) ∧ ∀ i, i < 40 → G q i = it (40 * q + i)
      by_cases hqr : q = r
      · subst hqr
        exact ⟨c1, by simp only [pk_us], Or.inl (by simp only [pk_us]), c4⟩
      · simp only [pk_un hqr]
        exact ⟨c1, c2, c3, c4⟩
  · rw [if_pos h1, if_pos h1]
    exact ⟨_, _, rfl, rfl, rfl, rfl, h⟩
theorem rw_cp1 (ln sz it : Nat → Int32) (s : Int32) {a i n : Nat} (b j : Int32) (ha : a < 8) (hin : i + n ≤ 40) : ∀ (f k : Nat) (mv : Nat → Int32), k ≤ n → n - k < f → (∀ q, q < k → mv q = it (40 * a + i + q)) → ∃ mv' : Nat → Int32, (∀ q, q < n → mv' q = it (40 * a + i + q)) ∧ f_X7_copy_L117 ln sz it s (nI a) (nI i) b j (nI n) f mv (nI k) = f_X7_copy_L154 ln sz s mv' b j (nI n) bs_F it 0 := by
  intro f
  induction f with
  | zero => intro k mv _ h2; omega
  | succ f ih =>
    intro k mv h1 h2 h3
    rw [f_X7_copy_L117_s]
    have e9 : (nI n ≤ nI k) = (n ≤ k) := propext (nI_leI (by omega) (by omega))
    have e5 : nI k + 1 = nI (k + 1) := nI_1 k
    have e7 : (40 : Int32) * nI a + nI i + nI k = nI (40 * a + i + k) := by
      rw [show (40 : Int32) = nI 40 from rfl, pk_mul, nI_add, nI_add]
    rw [e5, e7]
    simp only [e9]
    by_cases hk : k = n
    · subst hk
      rw [if_pos (by omega)]
      exact ⟨mv, h3, rfl⟩
    · rw [if_neg (by omega), if_pos (bs_inN (by omega) (by omega)), if_pos (bs_inN (by omega) (by omega)), nI_clamp (by omega), nI_clamp (by omega)]
      refine ih (k + 1) _ (by omega) (by omega) (fun q hq => ?_)
      by_cases hqk : q = k
      · subst hqk
        rw [pk_us]
      · rw [pk_un hqk]
        exact h3 q (by omega)
theorem rw_cp2 (ln sz mv : Nat → Int32) (s : Int32) {b j n : Nat} (hb : b < 8) (hjn : j + n ≤ 40) : ∀ (f k : Nat) (it : Nat → Int32), k ≤ n → n - k < f → ∃ it' : Nat → Int32, (∀ q, k ≤ q → q < n → it' (40 * b + j + q) = mv q) ∧ (∀ q, (q < 40 * b + j + k ∨ 40 * b + j + n ≤ q) → it' q = it q) ∧ f_X7_copy_L154 ln sz s mv (nI b) (nI j) (nI n) f it (nI k) = some (nI n, it', 0, mv) := by
  intro f
  induction f with
  | zero => intro k it _ h2; omega
  | succ f ih =>
    intro k it h1 h2
    rw [f_X7_copy_L154_s]
    have e9 : (nI n ≤ nI k) = (n ≤ k) := propext (nI_leI (by omega) (by omega))
    have e5 : nI k + 1 = nI (k + 1) := nI_1 k
    have e7 : (40 : Int32) * nI b + nI j + nI k = nI (40 * b + j + k) := by
      rw [show (40 : Int32) = nI 40 from rfl, pk_mul, nI_add, nI_add]
    rw [e5, e7]
    simp only [e9]
    by_cases hk : k = n
    · subst hk
      rw [if_pos (by omega)]
      exact ⟨it, fun q a c => by omega, fun _ _ => rfl, rfl⟩
    · rw [if_neg (by omega), if_pos (bs_inN (by omega) (by omega)), if_pos (bs_inN (by omega) (by omega)), nI_clamp (by omega), nI_clamp (by omega)]
      obtain ⟨it', a1, a2, a3⟩ := ih (k + 1) (upd it (40 * b + j + k) (mv k)) (by omega) (by omega)
      refine ⟨it', fun q q1 q2 => ?_, fun q hq => ?_, a3⟩
      · by_cases hqk : q = k
        · subst hqk
          rw [a2 _ (by omega), pk_us]
        · exact a1 q (by omega) q2
      · rw [a2 q (by omega), pk_un (by omega)]
theorem e_copy {la le : Nat → Int32} {G : Nat → Nat → Int32} {ln sz it : Nat → Int32} (h : R_rows la le G ln sz it) (mv : Nat → Int32) (s p1 p2 p3 p4 p5 : Int32) : ∃ (z : Int32 × Int32 × (Nat → Nat → Int32)) (w : Int32 × (Nat → Int32) × Int32 × (Nat → Int32)), f_X6_copy s G la le p1 p2 p3 p4 p5 = some z ∧ f_X7_copy ln sz it s mv p1 p2 p3 p4 p5 = some w ∧ z.1 = w.1 ∧ z.2.1 = w.2.2.1 ∧ R_rows la le z.2.2 ln sz w.2.1 := by
  unfold f_X6_copy f_X7_copy
  rw [e6_isRow, e7_isRow, Option.bind_some, Option.bind_some]
  simp only [sm_z]
  by_cases h1 : 0 ≤ p1.toInt ∧ p1.toInt ≤ 7
  · obtain ⟨a, a1, a2, rfl⟩ := sm_nat h1
    have ha : a < 8 := by omega
    rw [if_neg (not_not_intro h1), if_neg (not_not_intro h1), e6_isRow, e7_isRow, Option.bind_some, Option.bind_some]
    simp only [sm_z]
    by_cases h2 : 0 ≤ p3.toInt ∧ p3.toInt ≤ 7
    · obtain ⟨b, b1, b2, rfl⟩ := sm_nat h2
      have hb : b < 8 := by omega
      obtain ⟨c1, c2, c3, c4⟩ := h a ha
      obtain ⟨d1, d2, d3, d4⟩ := h b hb
      have ea : bs_in (nI a) 8 = true := bs_inN ha (by omega)
      have eb : bs_in (nI b) 8 = true := bs_inN hb (by omega)
      rw [if_neg (not_not_intro h2), if_neg (not_not_intro h2)]
      unfold f_X3_findingOfCopy
      simp only [ea, eb, if_true, nI_clamp (show a < 2 ^ 31 by omega), nI_clamp (show b < 2 ^ 31 by omega), ← c1, ← c2, ← d1, ← d2]
      rw [rw_miss ha, Option.bind_some]
      rcases c3 with c3 | ⟨k, k1, k2⟩
      · have hk0 : le a < 0 := by rw [c3]; decide
        rw [if_pos c3, if_neg (by decide), Option.bind_some, if_neg (by decide), if_pos hk0]
        exact ⟨_, _, rfl, rfl, rfl, rfl, h⟩
      · have hk : ¬ le a = -1 := by rw [k2]; exact rw_m1 (by omega)
        have hk0 : ¬ le a < 0 := by rw [k2]; exact nI_pos (by omega)
        rw [if_neg hk, if_pos rfl, if_neg hk0, rw_miss hb, Option.bind_some]
        rcases d3 with d3 | ⟨m, m1, m2⟩
        · have hm0 : ¬ (0 : Int32) ≤ le b := by rw [d3]; exact rw_m10
          rw [if_pos d3, if_neg (by decide), Option.bind_some, if_neg (by decide), if_neg hm0]
          exact ⟨_, _, rfl, rfl, rfl, rfl, h⟩
        · have hm : ¬ le b = -1 := by rw [m2]; exact rw_m1 (by omega)
          have hm0 : (0 : Int32) ≤ le b := by rw [m2]; exact rw_neg (by omega)
          rw [if_neg hm, if_pos rfl, if_pos hm0]
          by_cases hl : la a = la b
          · rw [if_pos hl, if_pos hl, rw_run ha k1 k2, Option.bind_some]
            have e0 : (0 : Int64).toInt = 0 := by decide
            rw [k2, m2, e7_in, sm_t64, rw_subL (by omega), e0, Option.bind_some, e7_in, sm_t64, rw_subL (by omega), e0, Option.bind_some]
            by_cases hn : p5 < 0
            · have hn' : p5.toInt < 0 := by
                rw [Int32.lt_iff_toInt_lt, Int32.toInt_zero] at hn
                exact hn
              have hx : ¬ (0 ≤ p2.toInt ∧ 0 ≤ p5.toInt ∧ p2.toInt ≤ (k : Int) - p5.toInt) := by omega
              rw [if_neg hx, if_neg (by decide), Option.bind_some, if_neg (by decide), if_pos hn]
              exact ⟨_, _, rfl, rfl, rfl, rfl, h⟩
            · have hn' : 0 ≤ p5.toInt := by
                rw [Int32.lt_iff_toInt_lt, Int32.toInt_zero] at hn
                omega
              rw [if_neg hn]
              simp only [sm_z]
              by_cases hi : 0 ≤ p2.toInt ∧ p2.toInt ≤ (k : Int) - p5.toInt
              · have hx : 0 ≤ p2.toInt ∧ 0 ≤ p5.toInt ∧ p2.toInt ≤ (k : Int) - p5.toInt := ⟨hi.1, hn', hi.2⟩
                rw [if_pos hx, if_pos rfl, if_neg (not_not_intro hi), rw_run hb m1 m2, Option.bind_some]
                by_cases hj : 0 ≤ p4.toInt ∧ p4.toInt ≤ (m : Int) - p5.toInt
                · have hy : 0 ≤ p4.toInt ∧ 0 ≤ p5.toInt ∧ p4.toInt ≤ (m : Int) - p5.toInt := ⟨hj.1, hn', hj.2⟩
                  rw [if_pos hy, Option.bind_some, if_pos rfl, if_neg (not_not_intro hj)]
                  obtain ⟨n, n1, n2, rfl⟩ := sm_nat (x := p5) (n := 40) ⟨hn', by omega⟩
                  obtain ⟨i, i1, i2, rfl⟩ := sm_nat (x := p2) (n := 40) ⟨hi.1, by omega⟩
                  obtain ⟨j, j1, j2, rfl⟩ := sm_nat (x := p4) (n := 40) ⟨hj.1, by omega⟩
                  rw [nI_toInt i2, nI_toInt n2] at hi
                  rw [nI_toInt j2, nI_toInt n2] at hj
                  unfold f_X3_move
                  simp only [ea, eb, if_true, nI_clamp (show a < 2 ^ 31 by omega), nI_clamp (show b < 2 ^ 31 by omega), nI_clamp i2, nI_clamp j2, nI_clamp n2]
                  rw [if_pos (nI_pos i2), if_pos (nI_pos j2), if_pos (nI_pos n2), if_pos (by omega), if_pos (by omega), Option.bind_some]
                  obtain ⟨mv', e1, e2⟩ := rw_cp1 ln sz it s (nI b) (nI j) ha (show i + n ≤ 40 by omega) bs_F 0 mv (Nat.zero_le _) (by unfold bs_F; omega) (fun q hq => by omega)
                  obtain ⟨it', g1, g2, g3⟩ := rw_cp2 ln sz mv' s hb (show j + n ≤ 40 by omega) bs_F 0 it (Nat.zero_le _) (by unfold bs_F; omega)
                  refine ⟨_, _, rfl, e2.trans g3, rfl, rfl, fun q hq => ?_⟩
                  obtain ⟨f1, f2, f3, f4⟩ := h q hq
                  refine ⟨f1, f2, f3, fun t ht => ?_⟩
                  show bs_up2 G b (va_cpy (G a) (G b) i j n) q t = it' (40 * q + t)
                  by_cases hqb : q = b
                  · subst hqb
                    have er : bs_up2 G q (va_cpy (G a) (G q) i j n) q = va_cpy (G a) (G q) i j n := if_pos rfl
                    rw [er]
                    by_cases htj : j ≤ t ∧ t < j + n
                    · rw [pk_cpy_in htj.1 htj.2, c4 _ (by omega), show 40 * q + t = 40 * q + j + (t - j) by omega, g1 _ (Nat.zero_le _) (by omega), e1 _ (by omega)]
                      exact congrArg it (by omega)
                    · rw [pk_cpy_out (by omega), g2 _ (by omega)]
                      exact f4 t ht
                  · have er : bs_up2 G b (va_cpy (G a) (G b) i j n) q = G q := if_neg hqb
                    rw [er, g2 _ (by omega)]
                    exact f4 t ht
                · have hy : ¬ (0 ≤ p4.toInt ∧ 0 ≤ p5.toInt ∧ p4.toInt ≤ (m : Int) - p5.toInt) := fun z => hj ⟨z.1, z.2.2⟩
                  rw [if_neg hy, Option.bind_some, if_neg (by decide), if_pos hj]
                  exact ⟨_, _, rfl, rfl, rfl, rfl, h⟩
              · have hx : ¬ (0 ≤ p2.toInt ∧ 0 ≤ p5.toInt ∧ p2.toInt ≤ (k : Int) - p5.toInt) := fun z => hi ⟨z.1, z.2.2⟩
                rw [if_neg hx, if_neg (by decide), Option.bind_some, if_neg (by decide), if_pos hi]
                exact ⟨_, _, rfl, rfl, rfl, rfl, h⟩
          · rw [if_neg hl, if_neg hl, Option.bind_some, if_neg (by decide)]
            exact ⟨_, _, rfl, rfl, rfl, rfl, h⟩
    · rw [if_pos h2, if_pos h2]
      exact ⟨_, _, rfl, rfl, rfl, rfl, h⟩
  · rw [if_pos h1, if_pos h1]
    exact ⟨_, _, rfl, rfl, rfl, rfl, h⟩
