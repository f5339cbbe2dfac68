/-! numbers: everything as nI of a natural number; what a state is (57 naturals), what is read off it -/
theorem bs_lits : (0 : Int32) = nI 0 ∧ (1 : Int32) = nI 1 ∧ (2 : Int32) = nI 2 ∧ (3 : Int32) = nI 3 ∧ (4 : Int32) = nI 4 ∧ (5 : Int32) = nI 5 ∧ (6 : Int32) = nI 6 ∧ (7 : Int32) = nI 7 ∧ (8 : Int32) = nI 8 ∧ (9 : Int32) = nI 9 ∧ (10 : Int32) = nI 10 ∧ (11 : Int32) = nI 11 ∧ (12 : Int32) = nI 12 ∧ (13 : Int32) = nI 13 ∧ (14 : Int32) = nI 14 ∧ (15 : Int32) = nI 15 ∧ (16 : Int32) = nI 16 ∧ (17 : Int32) = nI 17 ∧ (18 : Int32) = nI 18 ∧ (19 : Int32) = nI 19 ∧ (20 : Int32) = nI 20 ∧ (21 : Int32) = nI 21 ∧ (22 : Int32) = nI 22 ∧ (23 : Int32) = nI 23 ∧ (24 : Int32) = nI 24 ∧ (25 : Int32) = nI 25 ∧ (26 : Int32) = nI 26 ∧ (27 : Int32) = nI 27 ∧ (28 : Int32) = nI 28 ∧ (29 : Int32) = nI 29 ∧ (30 : Int32) = nI 30 ∧ (31 : Int32) = nI 31 ∧ (32 : Int32) = nI 32 ∧ (33 : Int32) = nI 33 ∧ (34 : Int32) = nI 34 ∧ (35 : Int32) = nI 35 ∧ (36 : Int32) = nI 36 ∧ (37 : Int32) = nI 37 ∧ (38 : Int32) = nI 38 ∧ (39 : Int32) = nI 39 ∧ (40 : Int32) = nI 40 ∧ (41 : Int32) = nI 41 ∧ (42 : Int32) = nI 42 ∧ (43 : Int32) = nI 43 ∧ (44 : Int32) = nI 44 ∧ (45 : Int32) = nI 45 ∧ (46 : Int32) = nI 46 ∧ (47 : Int32) = nI 47 ∧ (48 : Int32) = nI 48 ∧ (49 : Int32) = nI 49 ∧ (50 : Int32) = nI 50 ∧ (51 : Int32) = nI 51 ∧ (52 : Int32) = nI 52 ∧ (53 : Int32) = nI 53 ∧ (54 : Int32) = nI 54 ∧ (55 : Int32) = nI 55 ∧ (56 : Int32) = nI 56 ∧ (57 : Int32) = nI 57 ∧ (58 : Int32) = nI 58 ∧ (59 : Int32) = nI 59 ∧ (60 : Int32) = nI 60 ∧ (97 : Int32) = nI 97 ∧ (99 : Int32) = nI 99 ∧ (100 : Int32) = nI 100 ∧ (103 : Int32) = nI 103 ∧ (105 : Int32) = nI 105 ∧ (108 : Int32) = nI 108 ∧ (109 : Int32) = nI 109 ∧ (111 : Int32) = nI 111 ∧ (112 : Int32) = nI 112 ∧ (115 : Int32) = nI 115 ∧ (116 : Int32) = nI 116 ∧ (120 : Int32) = nI 120 ∧ (122 : Int32) = nI 122 ∧ (200 : Int32) = nI 200 ∧ (255 : Int32) = nI 255 ∧ (320 : Int32) = nI 320 ∧ (999 : Int32) = nI 999 ∧ (1000 : Int32) = nI 1000 := ⟨rfl, rfl, rfl, rfl, rfl, rfl, rfl, rfl, rfl, rfl, rfl, rfl, rfl, rfl, rfl, rfl, rfl, rfl, rfl, rfl, rfl, rfl, rfl, rfl, rfl, rfl, rfl, rfl, rfl, rfl, rfl, rfl, rfl, rfl, rfl, rfl, rfl, rfl, rfl, rfl, rfl, rfl, rfl, rfl, rfl, rfl, rfl, rfl, rfl, rfl, rfl, rfl, rfl, rfl, rfl, rfl, rfl, rfl, rfl, rfl, rfl, rfl, rfl, rfl, rfl, rfl, rfl, rfl, rfl, rfl, rfl, rfl, rfl, rfl, rfl, rfl, rfl, rfl, rfl⟩
theorem nm_bit : ∀ s, s < 256 → ∀ k, k < 8 → (nI s >>> (nI k &&& nI 31)) &&& nI 1 = nI (s / 2 ^ k % 2) := by decide +kernel
theorem nm_shl : ∀ k, k < 9 → nI 1 <<< (nI k &&& nI 31) = nI (2 ^ k) := by decide +kernel
def sp_at (st : Nat → Int32) (A : Nat → Nat) : Prop := ∀ i, i < 57 → st i = nI (A i)
def sp_iv (A : Nat → Nat) : Prop := A 0 ≤ 9 ∧ A 1 ≤ 5 ∧ A 2 ≤ 4 ∧ A 3 ≤ 8 ∧ A 4 < 256 ∧ (∀ g, g < 4 → A (5 + g) ≤ 10) ∧ ∀ p, p < A 3 → A (9 + p) ≤ 5 ∧ 1 ≤ A (9 + p) ∧ A (17 + p) < A 2 ∧ A (25 + p) ≤ 5 ∧ A (33 + p) ≤ 9 ∧ A (41 + p) ≤ 20 ∧ A (49 + p) ≤ 2
def sp_plain (A : Nat → Nat) (p : Nat) : Nat := A (41 + p) * A (5 + A (17 + p)) / 10
def sp_as (A : Nat → Nat) (p k b : Nat) : Nat := if k = 2 then (if p = 0 then sp_plain A p else sp_plain A p * b / 20) else if k = 3 then (sp_plain A p + 1) / 2 else if k = 4 then (if sp_plain A p ≤ 10 then 2 * sp_plain A p else 20) else if k = 5 then (if p = 0 then 20 else 20 - b) else sp_plain A p
def sp_st (A : Nat → Nat) (p b : Nat) : Nat := if A (49 + p) = 0 then sp_as A p (A (9 + p)) b else if A (49 + p) = 1 then 20 else 0
/-- the weight of the one before place p -/
def sp_v (A : Nat → Nat) : Nat → Nat
  | 0 => 0
  | p + 1 => sp_st A p (sp_v A p)
theorem sp_mul {A : Nat → Nat} (h : sp_iv A) {p : Nat} (hp : p < A 3) : A (41 + p) * A (5 + A (17 + p)) ≤ 200 ∧ A (17 + p) < 4 ∧ A 3 ≤ 8 := by
  obtain ⟨h0, h1, h2, h3, h4, h5, h6⟩ := h
  obtain ⟨a1, a2, a3, a4, a5, a6, a7⟩ := h6 p hp
  have hg := h5 (A (17 + p)) (by omega)
  have := Nat.mul_le_mul a6 hg
  exact ⟨this, by omega, h3⟩
theorem sp_plain_le {A : Nat → Nat} (h : sp_iv A) {p : Nat} (hp : p < A 3) : sp_plain A p ≤ 20 := by
  have := (sp_mul h hp).1
  unfold sp_plain
  omega
theorem sp_as_le {A : Nat → Nat} (h : sp_iv A) {p : Nat} (hp : p < A 3) (k : Nat) {b : Nat} (hb : b ≤ 20) : sp_as A p k b ≤ 20 := by
  have h1 := sp_plain_le h hp
  have h2 := Nat.mul_le_mul h1 hb
  unfold sp_as
  (repeat' split) <;> omega
theorem sp_st_le {A : Nat → Nat} (h : sp_iv A) {p : Nat} (hp : p < A 3) {b : Nat} (hb : b ≤ 20) : sp_st A p b ≤ 20 := by
  unfold sp_st
  split
  · exact sp_as_le h hp _ hb
  · split <;> omega
theorem sp_v_le {A : Nat → Nat} (h : sp_iv A) : ∀ p, p ≤ A 3 → sp_v A p ≤ 20
  | 0, _ => Nat.zero_le _
  | p + 1, hp => sp_st_le h hp (sp_v_le h p (by omega))
theorem e7_plainOf {st : Nat → Int32} {A : Nat → Nat} (hs : sp_at st A) (h : sp_iv A) {p : Nat} (hp : p < A 3) : f_X7_plainOf st (nI p) = some (nI (sp_plain A p)) := by
  obtain ⟨hm, hg, h8⟩ := sp_mul h hp
  unfold f_X7_plainOf sp_plain
  unfold sp_at at hs
  simp (disch := omega) only [bs_lits, nI_add, nI_clamp, bs_inN, hs, pk_mul, pk_div, if_true]
theorem e7_weightAs {st : Nat → Int32} {A : Nat → Nat} (hs : sp_at st A) (h : sp_iv A) {p k b : Nat} (hp : p < A 3) (hk : k < 2 ^ 31) (hb : b ≤ 20) : f_X7_weightAs st (nI p) (nI k) (nI b) = some (nI (sp_as A p k b)) := by
  have h1 := sp_plain_le h hp
  have h2 := Nat.mul_le_mul h1 hb
  have h3 := h.2.2.2.1
  unfold f_X7_weightAs sp_as
  rw [e7_plainOf hs h hp]
  simp (disch := omega) only [Option.bind_some, bs_lits, nI_add, pk_mul, pk_div, pk_sub, nI_eq, nI_leI]
  (repeat' split) <;> first | rfl | omega
theorem e7_isOpen {st : Nat → Int32} {A : Nat → Nat} (hs : sp_at st A) (h : sp_iv A) {p : Nat} (hp : p < A 3) : f_X7_isOpen st (nI p) = some (if A (49 + p) = 0 then nI 1 else nI 0) := by
  have h3 := h.2.2.2.1
  have h4 := (h.2.2.2.2.2.2 p hp).2.2.2.2.2.2
  unfold f_X7_isOpen
  unfold sp_at at hs
  simp (disch := omega) only [bs_lits, nI_add, nI_clamp, bs_inN, hs, nI_eq, if_true]
  split <;> rfl
theorem e7_weightOf_L {st : Nat → Int32} {A : Nat → Nat} (hs : sp_at st A) (h : sp_iv A) {p : Nat} (hp : p < A 3) : ∀ (n q : Nat), q ≤ p + 1 → p + 1 - q < n → f_X7_weightOf_L4 st (nI p) n (nI (sp_v A q)) (nI q) = some (nI (sp_v A (p + 1))) := by
  intro n
  have h3 := h.2.2.2.1
  induction n with
  | zero => intro q _ h2; omega
  | succ n ih =>
    intro q h1 h2
    have hv := sp_v_le h q (by omega)
    rw [f_X7_weightOf_L4_s]
    by_cases hq : q = p + 1
    · subst hq
      simp (disch := omega) only [nI_ltI]
      rw [if_pos (by omega)]
    · have hqp : q < A 3 := by omega
      have hr := h.2.2.2.2.2.2 q hqp
      have ih2 := ih (q + 1) (by omega) (by omega)
      rw [e7_isOpen hs h hqp]
      unfold sp_at at hs
      simp (disch := omega) only [Option.bind_some, bs_lits, nI_ltI, nI_add, nI_clamp, bs_inN, hs, nI_eq, if_true]
      rw [if_neg (by omega)]
      have e : sp_v A (q + 1) = sp_st A q (sp_v A q) := rfl
      by_cases h0 : A (49 + q) = 0
      · simp only [if_pos h0, nI_eq]
        rw [if_neg (by decide), e7_weightAs (by unfold sp_at; exact hs) h hqp (by omega) hv]
        rw [e, sp_st, if_pos h0] at ih2
        exact ih2
      · simp only [if_neg h0, if_true]
        rw [e, sp_st, if_neg h0] at ih2
        by_cases h5 : A (49 + q) = 1
        · rw [if_pos h5] at ih2 ⊢
          exact ih2
        · rw [if_neg h5] at ih2 ⊢
          exact ih2
theorem e7_weightOf {st : Nat → Int32} {A : Nat → Nat} (hs : sp_at st A) (h : sp_iv A) {p : Nat} (hp : p < A 3) : f_X7_weightOf st (nI p) = some (nI (sp_v A (p + 1))) := by
  have h3 := h.2.2.2.1
  have := e7_weightOf_L hs h hp bs_F 0 (by omega) (by unfold bs_F; omega)
  exact this
