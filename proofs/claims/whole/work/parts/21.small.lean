/-! the small methods of both sides -/
theorem sm_10 : ((1 : Int32) = 0) = False := by decide
theorem sm_01 : ((0 : Int32) = 1) = False := by decide
theorem sm_t64 (x : Int32) : x.toInt64.toInt = x.toInt := by simp
theorem sm_lt (x y : Int64) : (lg_cmp x y < 0) ↔ x.toInt < y.toInt := by
  rw [← Int64.lt_iff_toInt_lt]
  unfold lg_cmp
  by_cases h1 : x > y
  · have h2 : ¬ x < y := by
      intro h
      rw [gt_iff_lt, Int64.lt_iff_toInt_lt] at h1
      rw [Int64.lt_iff_toInt_lt] at h
      omega
    simp only [h1, h2, if_true]
    decide
  · by_cases h3 : x = y
    · subst h3
      have h2 : ¬ x < x := by
        intro h
        rw [Int64.lt_iff_toInt_lt] at h
        omega
      simp only [h2, if_true]
      split <;> simp_all
    · have h2 : x < y := by
        rw [Int64.lt_iff_toInt_lt]
        rw [gt_iff_lt, Int64.lt_iff_toInt_lt] at h1
        have : x.toInt ≠ y.toInt := fun e => h3 (Int64.toInt_inj.mp e)
        omega
      simp only [h1, h3, h2, if_false]
      decide
theorem sm_gt (x y : Int64) : (0 < lg_cmp x y) ↔ y.toInt < x.toInt := by
  unfold lg_cmp
  by_cases h1 : x > y
  · simp only [h1, if_true]
    rw [gt_iff_lt, Int64.lt_iff_toInt_lt] at h1
    simp only [h1, iff_true]
    decide
  · have h2 := h1
    rw [gt_iff_lt, Int64.lt_iff_toInt_lt] at h2
    simp only [h1, if_false, h2, iff_false]
    by_cases h3 : x = y
    · simp only [h3, if_true]
      decide
    · simp only [h3, if_false]
      decide
theorem e7_in (x lo hi : Int64) : f_X7_in x lo hi = some (if lo.toInt ≤ x.toInt ∧ x.toInt ≤ hi.toInt then 1 else 0) := by
  unfold f_X7_in
  simp only [sm_lt, sm_gt]
  by_cases h1 : x.toInt < lo.toInt
  · rw [if_pos h1, if_neg (by omega)]
  · rw [if_neg h1]
    by_cases h2 : hi.toInt < x.toInt
    · rw [if_pos h2, if_neg (by omega)]
    · rw [if_neg h2, if_pos (by omega)]
theorem e6_isWithin (x lo hi : Int32) : f_X6_isWithin x lo hi = some (if lo.toInt ≤ x.toInt ∧ x.toInt ≤ hi.toInt then 1 else 0) := by
  unfold f_X6_isWithin
  simp only [Int32.lt_iff_toInt_lt]
  by_cases h1 : x.toInt < lo.toInt
  · rw [if_pos h1, if_neg (by omega)]
  · rw [if_neg h1]
    by_cases h2 : hi.toInt < x.toInt
    · rw [if_pos h2, if_neg (by omega)]
    · rw [if_neg h2, if_pos (by omega)]
/-- a number within 0 .. n is a natural one -/
theorem sm_nat {x : Int32} {n : Int} (h : 0 ≤ x.toInt ∧ x.toInt ≤ n) : ∃ k : Nat, (k : Int) ≤ n ∧ k < 2 ^ 31 ∧ x = nI k := by
  have hx : ¬ x < 0 := by
    rw [Int32.lt_iff_toInt_lt, Int32.toInt_zero]
    omega
  obtain ⟨j, h1, rfl⟩ := nI_of hx
  rw [nI_toInt h1] at h
  exact ⟨j, h.2, h1, rfl⟩
theorem sm_gn {c : Prop} [Decidable c] : (if c then (1 : Int32) else 0) = 0 ∨ (if c then (1 : Int32) else 0) = 1 := by
  split
  · exact Or.inr rfl
  · exact Or.inl rfl
theorem sm_z {c : Prop} [Decidable c] : ((if c then (1 : Int32) else 0) = 0) = ¬ c := by
  by_cases h : c
  · simp only [h, if_true, sm_10, not_true]
  · simp only [h, if_false, not_false_eq_true]
theorem sm_o {c : Prop} [Decidable c] : ((if c then (1 : Int32) else 0) = 1) = c := by
  by_cases h : c
  · simp only [h, if_true]
  · simp only [h, if_false, sm_01]
theorem e7_isRow (x : Int32) : f_X7_isRow x = some (if 0 ≤ x.toInt ∧ x.toInt ≤ 7 then 1 else 0) := by
  unfold f_X7_isRow
  rw [e7_in, sm_t64, Option.bind_some]
  show (if _ then some (if 0 ≤ x.toInt ∧ x.toInt ≤ 7 then (1 : Int32) else 0) else none) = _
  rw [if_pos sm_gn]
theorem e6_isRow (x : Int32) : f_X6_isRow x = some (if 0 ≤ x.toInt ∧ x.toInt ≤ 7 then 1 else 0) := by
  unfold f_X6_isRow
  rw [e6_isWithin, Option.bind_some]
  show (if _ then some (if 0 ≤ x.toInt ∧ x.toInt ≤ 7 then (1 : Int32) else 0) else none) = _
  rw [if_pos sm_gn]
theorem e6_isEither (x : Int32) : f_X6_isEither x = some (if 0 ≤ x.toInt ∧ x.toInt ≤ 1 then 1 else 0) := by
  unfold f_X6_isEither
  by_cases h : x = 0
  · subst h
    rfl
  · by_cases h1 : x = 1
    · subst h1
      rfl
    · rw [if_neg h, if_neg h1, if_neg]
      intro h2
      have a : x.toInt ≠ 0 := fun e => h (Int32.toInt_inj.mp e)
      have b : x.toInt ≠ 1 := fun e => h1 (Int32.toInt_inj.mp e)
      omega
theorem e7_isPromise {st : Nat → Int32} {A : Nat → Nat} (hs : sp_at st A) (h : sp_iv A) (x : Int32) : f_X7_isPromise st x = some (if 0 ≤ x.toInt ∧ x.toInt < A 3 then 1 else 0) := by
  have h3 := h.2.2.2.1
  have e : (st 3 - 1).toInt64.toInt = (A 3 : Int) - 1 := by
    rw [sm_t64, hs 3 (by omega)]
    exact pk_sub_toInt (b := 1) (by omega) (by omega)
  unfold f_X7_isPromise
  rw [e7_in, sm_t64, e, Option.bind_some, if_pos sm_gn]
  congr 1
  by_cases hx : 0 ≤ x.toInt ∧ x.toInt < A 3
  · rw [if_pos hx, if_pos (by exact ⟨hx.1, by omega⟩)]
  · rw [if_neg hx, if_neg]
    intro h4
    exact hx ⟨h4.1, by omega⟩
theorem e7_isGiver {st : Nat → Int32} {A : Nat → Nat} (hs : sp_at st A) (h : sp_iv A) (x : Int32) : f_X7_isGiver st x = some (if 0 ≤ x.toInt ∧ x.toInt < A 2 then 1 else 0) := by
  have h3 := h.2.2.1
  have e : (st 2 - 1).toInt64.toInt = (A 2 : Int) - 1 := by
    rw [sm_t64, hs 2 (by omega)]
    exact pk_sub_toInt (b := 1) (by omega) (by omega)
  unfold f_X7_isGiver
  rw [e7_in, sm_t64, e, Option.bind_some, if_pos sm_gn]
  congr 1
  by_cases hx : 0 ≤ x.toInt ∧ x.toInt < A 2
  · rw [if_pos hx, if_pos (by exact ⟨hx.1, by omega⟩)]
  · rw [if_neg hx, if_neg]
    intro h4
    exact hx ⟨h4.1, by omega⟩
theorem e6_isPromise {n : Nat} (hn : n < 2 ^ 31) (x : Int32) : f_X6_isPromise (nI n) x = some (if 0 ≤ x.toInt ∧ x.toInt < n then 1 else 0) := by
  unfold f_X6_isPromise
  simp only [Int32.lt_iff_toInt_lt, Int32.le_iff_toInt_le, nI_toInt hn, Int32.toInt_zero]
  by_cases h1 : x.toInt < 0
  · rw [if_pos h1, if_neg (by omega)]
  · rw [if_neg h1]
    by_cases h2 : (n : Int) ≤ x.toInt
    · rw [if_pos h2, if_neg (by omega)]
    · rw [if_neg h2, if_pos (by omega)]
theorem e6_isGiver {n : Nat} (hn : n < 2 ^ 31) (x : Int32) : f_X6_isGiver (nI n) x = some (if 0 ≤ x.toInt ∧ x.toInt < n then 1 else 0) := e6_isPromise hn x
/-! what the class's Scales hold of a state -/
def sp_c (A : Nat → Nat) (kp gv lk kd sd : Nat → Int32) : Prop := (∀ g, g < A 2 → kp g = nI (A (5 + g))) ∧ ∀ p, p < A 3 → gv p = nI (A (17 + p)) ∧ lk p = nI (A (41 + p)) ∧ kd p = nI (A (9 + p)) ∧ sd p = nI (A (49 + p))
def sp_d (A : Nat → Nat) (dd dy : Nat → Int32) : Prop := ∀ p, p < A 3 → dd p = nI (A (25 + p)) ∧ dy p = nI (A (33 + p))
theorem e4_isSettled {sd : Nat → Int32} {A : Nat → Nat} {p : Nat} (hs : sd p = nI (A (49 + p))) (hp : p < 8) (ha : A (49 + p) ≤ 2) : f_X4_isSettled sd (nI p) = some (if A (49 + p) = 0 then 0 else 1) := by
  unfold f_X4_isSettled
  simp (disch := omega) only [nI_clamp, bs_inN, hs, if_true, bs_lits, nI_eq]
  split <;> rfl
theorem e4_plainWeight {lk : Nat → Int32} {A : Nat → Nat} {p k : Nat} (hs : lk p = nI (A (41 + p))) (hp : p < 8) (hm : A (41 + p) * k < 2 ^ 31) : f_X4_plainWeight lk (nI p) (nI k) = some (nI (A (41 + p) * k / 10)) := by
  unfold f_X4_plainWeight
  simp (disch := omega) only [nI_clamp, bs_inN, hs, if_true, bs_lits, pk_mul, pk_div]
theorem e4_weightIf {kp gv lk kd sd : Nat → Int32} {A : Nat → Nat} (hc : sp_c A kp gv lk kd sd) (h : sp_iv A) {p k b : Nat} (hp : p < A 3) (hk : k < 2 ^ 31) (hb : b ≤ 20) : f_X4_weightIf kp gv lk (nI p) (nI k) (nI b) = some (nI (sp_as A p k b)) := by
  obtain ⟨hm, hg, h8⟩ := sp_mul h hp
  have h1 := sp_plain_le h hp
  have h2 := Nat.mul_le_mul h1 hb
  obtain ⟨a1, a2, a3, a4⟩ := hc.2 p hp
  have hr := h.2.2.2.2.2.2 p hp
  have hkp := hc.1 (A (17 + p)) hr.2.2.1
  have e := e4_plainWeight (A := A) (k := A (5 + A (17 + p))) a2 (by omega) (by omega)
  unfold f_X4_weightIf sp_as
  simp (disch := omega) only [nI_clamp, bs_inN, a1, hkp, if_true]
  rw [e, Option.bind_some]
  have e2 : A (41 + p) * A (5 + A (17 + p)) / 10 = sp_plain A p := rfl
  rw [e2]
  simp (disch := omega) only [bs_lits, nI_add, pk_mul, pk_div, pk_sub, nI_eq, nI_ltI]
  (repeat' split) <;> first | rfl | (congr 2; omega) | omega
theorem e4_weightAfter {kp gv lk kd sd : Nat → Int32} {A : Nat → Nat} (hc : sp_c A kp gv lk kd sd) (h : sp_iv A) {p b : Nat} (hp : p < A 3) (hb : b ≤ 20) : f_X4_weightAfter kp gv lk kd sd (nI p) (nI b) = some (nI (sp_st A p b)) := by
  have hr := h.2.2.2.2.2.2 p hp
  have h8 := h.2.2.2.1
  obtain ⟨a1, a2, a3, a4⟩ := hc.2 p hp
  unfold f_X4_weightAfter sp_st
  rw [e4_isSettled a4 (by omega) hr.2.2.2.2.2.2, Option.bind_some]
  by_cases h0 : A (49 + p) = 0
  · rw [if_pos h0, if_pos h0, if_pos rfl]
    simp (disch := omega) only [nI_clamp, bs_inN, a3, if_true]
    rw [e4_weightIf hc h hp (by omega) hb]
    rfl
  · rw [if_neg h0, if_neg h0, if_neg (by decide)]
    simp (disch := omega) only [nI_clamp, bs_inN, a4, if_true, bs_lits, nI_eq]
    split <;> rfl
theorem e4_weightOf_L {kp gv lk kd sd : Nat → Int32} {A : Nat → Nat} (hc : sp_c A kp gv lk kd sd) (h : sp_iv A) {p : Nat} (hp : p < A 3) : ∀ (n q : Nat), q ≤ p + 1 → p + 1 - q < n → f_X4_weightOf_L4 kp gv lk kd sd (nI p) n (nI (sp_v A q)) (nI q) = some (nI (sp_v A (p + 1))) := by
  intro n
  have h3 := h.2.2.2.1
  induction n with
  | zero => intro q _ h2; omega
  | succ n ih =>
    intro q h1 h2
    have hv := sp_v_le h q (by omega)
    rw [f_X4_weightOf_L4_s]
    by_cases hq : q = p + 1
    · subst hq
      simp (disch := omega) only [nI_ltI]
      rw [if_pos (by omega)]
    · simp (disch := omega) only [nI_ltI]
      rw [if_neg (by omega), e4_weightAfter hc h (by omega) hv, Option.bind_some]
      simp only [bs_lits, nI_add]
      exact ih (q + 1) (by omega) (by omega)
theorem e4_weightOf {kp gv lk kd sd : Nat → Int32} {A : Nat → Nat} (hc : sp_c A kp gv lk kd sd) (h : sp_iv A) {p : Nat} (hp : p < A 3) : f_X4_weightOf kp gv lk kd sd (nI p) = some (nI (sp_v A (p + 1))) := e4_weightOf_L hc h hp bs_F 0 (by omega) (by have := h.2.2.2.1; unfold bs_F; omega)
theorem e4_weightBy {kp gv lk kd sd : Nat → Int32} {A : Nat → Nat} (hc : sp_c A kp gv lk kd sd) (h : sp_iv A) {p k : Nat} (hp : p < A 3) (hk : k < 2 ^ 31) : f_X4_weightBy kp gv lk kd sd (nI p) (nI k) = some (nI (sp_as A p k (sp_v A p))) := by
  have h3 := h.2.2.2.1
  unfold f_X4_weightBy
  by_cases h0 : p = 0
  · subst h0
    rw [if_pos (by rfl), show (0 : Int32) = nI 0 from rfl, e4_weightIf hc h hp hk (Nat.zero_le _)]
    rfl
  · obtain ⟨q, rfl⟩ : ∃ q, p = q + 1 := ⟨p - 1, by omega⟩
    simp (disch := omega) only [bs_lits, nI_eq]
    rw [if_neg (by omega), pk_sub (by omega), Nat.add_sub_cancel, e4_weightOf hc h (by omega), Option.bind_some, e4_weightIf hc h hp hk (sp_v_le h (q + 1) (by omega))]
    rfl
/-! sums and readings -/
def sp_b (s p : Nat) : Nat := s / 2 ^ p % 2
def sp_sum (A : Nat → Nat) (s : Nat) : Nat → Nat
  | 0 => 0
  | p + 1 => sp_sum A s p + (if sp_b s p = 1 then sp_v A (p + 1) else 0)
theorem sp_sum_le {A : Nat → Nat} (h : sp_iv A) (s : Nat) : ∀ p, p ≤ A 3 → sp_sum A s p ≤ 20 * p
  | 0, _ => Nat.zero_le _
  | p + 1, hp => by
    have h1 := sp_sum_le h s p (by omega)
    have h2 := sp_v_le h (p + 1) hp
    unfold sp_sum
    split <;> omega
theorem e7_has {s p : Nat} (hs : s < 256) (hp : p < 8) : f_X7_has (nI s) (nI p) = some (if sp_b s p = 1 then 1 else 0) := by
  have h2 : s / 2 ^ p % 2 < 2 := Nat.mod_lt _ (by omega)
  unfold f_X7_has sp_b
  simp only [bs_lits]
  rw [nm_bit s hs p hp]
  simp (disch := omega) only [nI_eq]
  split <;> rfl
theorem e7_sumOf_L {st : Nat → Int32} {A : Nat → Nat} (hs : sp_at st A) (h : sp_iv A) {s : Nat} (hl : s < 256) : ∀ (n q : Nat), q ≤ A 3 → A 3 - q < n → f_X7_sumOf_L4 st (nI s) n (nI (sp_sum A s q)) (nI q) = some (nI (sp_sum A s (A 3))) := by
  intro n
  have h3 := h.2.2.2.1
  induction n with
  | zero => intro q _ h2; omega
  | succ n ih =>
    intro q h1 h2
    have e : sp_sum A s (q + 1) = sp_sum A s q + (if sp_b s q = 1 then sp_v A (q + 1) else 0) := rfl
    rw [f_X7_sumOf_L4_s, hs 3 (by omega)]
    by_cases hq : q = A 3
    · rw [hq, if_pos (by rw [nI_leI (by omega) (by omega)]; exact Nat.le_refl _)]
    · rw [if_neg (by rw [nI_leI (by omega) (by omega)]; omega), e7_has hl (by omega), Option.bind_some]
      have ih2 := ih (q + 1) (by omega) (by omega)
      rw [e] at ih2
      by_cases hb : sp_b s q = 1
      · rw [if_pos hb] at ih2 ⊢
        rw [if_neg (by decide), e7_weightOf hs h (by omega), Option.bind_some]
        simp only [bs_lits, nI_add]
        exact ih2
      · rw [if_neg hb] at ih2 ⊢
        rw [if_pos rfl]
        simp only [bs_lits, nI_add]
        exact ih2
theorem e7_sumOf {st : Nat → Int32} {A : Nat → Nat} (hs : sp_at st A) (h : sp_iv A) {s : Nat} (hl : s < 256) : f_X7_sumOf st (nI s) = some (nI (sp_sum A s (A 3))) := e7_sumOf_L hs h hl bs_F 0 (Nat.zero_le _) (by have := h.2.2.2.1; unfold bs_F; omega)
def sp_rd (t k : Nat) : Nat := t - t % k
theorem e7_readBy {a b k : Nat} (h0 : 0 < k) (hk : k < 100) (ha : a + b < 2 ^ 20) : f_X7_readBy (nI a) (nI b) (nI k) = some (nI (sp_rd (a + b) k)) := by
  have h1 : (a + b) % k ≤ a + b := Nat.mod_le _ _
  unfold f_X7_readBy sp_rd
  rw [if_pos (by rw [show (0 : Int32) = nI 0 from rfl, nI_eq (by omega) (by omega)]; omega), nI_add, pk_rem (by omega) h0 (by omega), pk_sub h1]
theorem e6_reading {a k : Nat} (h0 : 0 < k) (hk : k < 100) (ha : a < 2 ^ 20) : f_X6_reading (nI a) (nI k) = some (nI (sp_rd a k)) := by
  have h1 : a % k ≤ a := Nat.mod_le _ _
  unfold f_X6_reading sp_rd
  rw [if_pos (by rw [show (1 : Int32) = nI 1 from rfl, nI_leI (by omega) (by omega)]; omega), if_pos (by rw [show (0 : Int32) = nI 0 from rfl, nI_eq (by omega) (by omega)]; omega), pk_rem (by omega) h0 (by omega), pk_sub h1]
theorem e7_readOf {st : Nat → Int32} {A : Nat → Nat} (hs : sp_at st A) (h : sp_iv A) (h1 : 1 ≤ A 1) {s : Nat} (hl : s < 256) : f_X7_readOf st (nI s) = some (nI (sp_rd (sp_sum A s (A 3) + A 0) (A 1))) := by
  have h2 := sp_sum_le h s (A 3) (Nat.le_refl _)
  have h3 := h.2.2.2.1
  have h4 := h.1
  have h5 := h.2.1
  unfold f_X7_readOf
  rw [e7_sumOf hs h hl, Option.bind_some, hs 0 (by omega), hs 1 (by omega), e7_readBy (by omega) (by omega) (by omega)]
  rfl
theorem e4_readingOf_L {kp gv lk kd sd : Nat → Int32} {A : Nat → Nat} (hc : sp_c A kp gv lk kd sd) (h : sp_iv A) (h1 : 1 ≤ A 1) (wx : Int32) {s : Nat} (hl : s < 256) : ∀ (n q : Nat), q ≤ A 3 → A 3 - q < n → f_X4_readingOf_L10 wx (nI (A 1)) (nI (A 3)) kp gv lk kd sd (nI s) n (nI (A 0 + sp_sum A s q)) (nI (sp_v A q)) (nI q) = some (nI (sp_rd (sp_sum A s (A 3) + A 0) (A 1))) := by
  intro n
  have h3 := h.2.2.2.1
  have h4 := h.1
  have h5 := h.2.1
  induction n with
  | zero => intro q _ h2; omega
  | succ n ih =>
    intro q g1 g2
    have e : sp_sum A s (q + 1) = sp_sum A s q + (if sp_b s q = 1 then sp_v A (q + 1) else 0) := rfl
    have ev : sp_v A (q + 1) = sp_st A q (sp_v A q) := rfl
    have hsl := sp_sum_le h s q g1
    rw [f_X4_readingOf_L10_s]
    by_cases hq : q = A 3
    · subst hq
      rw [if_pos (by rw [nI_leI (by omega) (by omega)]; exact Nat.le_refl _), e6_reading (by omega) (by omega) (by omega), Nat.add_comm]
      rfl
    · have hv := sp_v_le h q g1
      have h2 : s / 2 ^ q % 2 < 2 := Nat.mod_lt _ (by omega)
      rw [if_neg (by rw [nI_leI (by omega) (by omega)]; omega), e4_weightAfter hc h (by omega) hv, Option.bind_some]
      have ih2 := ih (q + 1) (by omega) (by omega)
      rw [e] at ih2
      simp only [bs_lits]
      rw [nm_bit s hl q (by omega)]
      simp (disch := omega) only [nI_eq]
      simp only [nI_add]
      rw [ev] at ih2
      by_cases hb : sp_b s q = 1
      · have hb2 : s / 2 ^ q % 2 = 1 := hb
        rw [if_pos hb] at ih2
        rw [if_pos hb2, Nat.add_assoc]
        exact ih2
      · have hb2 : ¬ s / 2 ^ q % 2 = 1 := hb
        rw [if_neg hb] at ih2
        rw [if_neg hb2, Nat.add_assoc]
        exact ih2
theorem e4_readingOf {kp gv lk kd sd : Nat → Int32} {A : Nat → Nat} (hc : sp_c A kp gv lk kd sd) (h : sp_iv A) (h1 : 1 ≤ A 1) {s : Nat} (hl : s < 256) : f_X4_readingOf (nI (A 0)) (nI (A 1)) (nI (A 3)) kp gv lk kd sd (nI s) = some (nI (sp_rd (sp_sum A s (A 3) + A 0) (A 1))) := e4_readingOf_L hc h h1 _ hl bs_F 0 (Nat.zero_le _) (by have := h.2.2.2.1; unfold bs_F; omega)
