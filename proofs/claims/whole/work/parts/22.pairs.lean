/-! pairs that clash, sets without a clash -/
def sp_cl (A : Nat → Nat) (p q : Nat) : Bool := decide (A (49 + p) = 0 ∧ A (49 + q) = 0 ∧ A (17 + p) = A (17 + q) ∧ A (33 + p) = A (33 + q) ∧ ¬ A (25 + p) = A (25 + q))
theorem sp_cl_sym (A : Nat → Nat) (p q : Nat) : sp_cl A p q = sp_cl A q p := by
  unfold sp_cl
  congr 1
  apply propext
  constructor <;> rintro ⟨h1, h2, h3, h4, h5⟩ <;> exact ⟨h2, h1, h3.symm, h4.symm, fun e => h5 e.symm⟩
theorem sp_cl_self (A : Nat → Nat) (p : Nat) : sp_cl A p p = false := by
  unfold sp_cl
  simp
theorem e7_clashes {st : Nat → Int32} {A : Nat → Nat} (hs : sp_at st A) (h : sp_iv A) {p q : Nat} (hp : p < A 3) (hq : q < A 3) : f_X7_clashes st (nI p) (nI q) = some (if sp_cl A p q = true then nI 1 else nI 0) := by
  have h8 := h.2.2.2.1
  have h2 := h.2.2.1
  have hr := h.2.2.2.2.2.2 p hp
  have hr2 := h.2.2.2.2.2.2 q hq
  unfold f_X7_clashes sp_cl
  rw [e7_isOpen hs h hp, e7_isOpen hs h hq, Option.bind_some, Option.bind_some]
  unfold sp_at at hs
  by_cases h1 : A (49 + p) = 0
  · by_cases h2 : A (49 + q) = 0
    · rw [if_pos h1, if_pos h2, if_neg (by decide), if_neg (by decide)]
      simp (disch := omega) only [bs_lits, nI_add, nI_clamp, bs_inN, hs, nI_eq, if_true, decide_eq_true_eq]
      (repeat' split) <;> simp_all
    · rw [if_pos h1, if_neg h2, if_neg (by decide), if_pos (by decide), if_neg (by simp [h2])]
      rfl
  · rw [if_neg h1, if_pos (by decide), if_neg (by simp [h1])]
    rfl
theorem e4_doClash {kp gv lk kd sd dd dy : Nat → Int32} {A : Nat → Nat} (hc : sp_c A kp gv lk kd sd) (hd : sp_d A dd dy) (h : sp_iv A) {p q : Nat} (hp : p < A 3) (hq : q < A 3) : f_X4_doClash gv dd dy sd (nI p) (nI q) = some (if sp_cl A p q = true then nI 1 else nI 0) := by
  have h8 := h.2.2.2.1
  have h2 := h.2.2.1
  have hr := h.2.2.2.2.2.2 p hp
  have hr2 := h.2.2.2.2.2.2 q hq
  obtain ⟨a1, a2, a3, a4⟩ := hc.2 p hp
  obtain ⟨b1, b2, b3, b4⟩ := hc.2 q hq
  obtain ⟨c1, c2⟩ := hd p hp
  obtain ⟨d1, d2⟩ := hd q hq
  unfold f_X4_doClash sp_cl
  rw [e4_isSettled a4 (by omega) hr.2.2.2.2.2.2, e4_isSettled b4 (by omega) hr2.2.2.2.2.2.2, Option.bind_some, Option.bind_some]
  by_cases h1 : A (49 + p) = 0
  · by_cases h2 : A (49 + q) = 0
    · rw [if_pos h1, if_pos h2, if_pos rfl, if_pos rfl]
      simp (disch := omega) only [bs_lits, nI_clamp, bs_inN, a1, b1, c1, c2, d1, d2, nI_eq, if_true, decide_eq_true_eq]
      (repeat' split) <;> simp_all
    · rw [if_pos h1, if_neg h2, if_pos rfl, if_neg (by decide), if_neg (by simp [h2])]
      rfl
  · rw [if_neg h1, if_neg (by decide), if_neg (by simp [h1])]
    rfl
def sp_S (f : Nat → Nat) : Nat → Nat
  | 0 => 0
  | n + 1 => sp_S f n + f n
theorem sp_S_le {f : Nat → Nat} {m : Nat} (h : ∀ i, f i ≤ m) : ∀ n, sp_S f n ≤ m * n
  | 0 => Nat.zero_le _
  | n + 1 => by
    have h1 := sp_S_le h n
    have h2 := h n
    unfold sp_S
    rw [Nat.mul_succ]
    omega
theorem sp_S_mono {f : Nat → Nat} : ∀ {a b : Nat}, a ≤ b → sp_S f a ≤ sp_S f b := by
  intro a b h
  obtain ⟨k, rfl⟩ := Nat.exists_eq_add_of_le h
  induction k with
  | zero => exact Nat.le_refl _
  | succ k ih => exact Nat.le_trans (ih (by omega)) (by show sp_S f (a + k) ≤ sp_S f (a + k) + f (a + k); omega)
/-- of one row: the pairs p, j with p < j -/
def sp_one (A : Nat → Nat) (p j : Nat) : Nat := if p < j ∧ sp_cl A p j = true then 1 else 0
def sp_rowc (A : Nat → Nat) (p : Nat) : Nat := sp_S (sp_one A p) (A 3)
def sp_all (A : Nat → Nat) : Nat := sp_S (sp_rowc A) (A 3)
theorem sp_one_le (A : Nat → Nat) (p j : Nat) : sp_one A p j ≤ 1 := by
  unfold sp_one
  split <;> omega
theorem sp_rowc_le (A : Nat → Nat) (p : Nat) : sp_rowc A p ≤ A 3 := by
  have := sp_S_le (sp_one_le A p) (A 3)
  unfold sp_rowc
  omega
theorem sp_low (A : Nat → Nat) (p : Nat) : ∀ n, n ≤ p + 1 → sp_S (sp_one A p) n = 0
  | 0, _ => rfl
  | n + 1, h => by
    show sp_S (sp_one A p) n + sp_one A p n = 0
    rw [sp_low A p n (by omega)]
    unfold sp_one
    rw [if_neg (by omega)]
theorem e4_pairs_in {kp gv lk kd sd dd dy : Nat → Int32} {A : Nat → Nat} (hc : sp_c A kp gv lk kd sd) (hd : sp_d A dd dy) (h : sp_iv A) (r : Int32 → Int32 → Option Int32) {p : Nat} (hp : p < A 3) (m : Nat) : ∀ (n q : Nat), p < q → q ≤ A 3 → A 3 - q < n → f_X4_howManyPairs_L16 r (nI (A 3)) gv dd dy sd (nI p) n (nI (m + sp_S (sp_one A p) q)) (nI q) = r (nI (m + sp_rowc A p)) (nI (p + 1)) := by
  intro n
  have h3 := h.2.2.2.1
  induction n with
  | zero => intro q _ _ h2; omega
  | succ n ih =>
    intro q g0 g1 g2
    rw [f_X4_howManyPairs_L16_s]
    by_cases hq : q = A 3
    · rw [hq, if_pos (by rw [nI_leI (by omega) (by omega)]; exact Nat.le_refl _)]
      simp only [bs_lits, nI_add]
      rfl
    · have ih2 := ih (q + 1) (by omega) (by omega) (by omega)
      have e : sp_S (sp_one A p) (q + 1) = sp_S (sp_one A p) q + sp_one A p q := rfl
      rw [if_neg (by rw [nI_leI (by omega) (by omega)]; omega), e4_doClash hc hd h hp (by omega), Option.bind_some]
      rw [e, ← Nat.add_assoc] at ih2
      by_cases hb : sp_cl A p q = true
      · rw [if_pos hb, if_neg (by decide)]
        simp only [bs_lits, nI_add]
        rw [show sp_one A p q = 1 from if_pos ⟨g0, hb⟩] at ih2
        exact ih2
      · rw [if_neg hb, if_pos (by decide)]
        simp only [bs_lits, nI_add]
        rw [show sp_one A p q = 0 from if_neg (fun z => hb z.2)] at ih2
        exact ih2
theorem e4_pairs_out {kp gv lk kd sd dd dy : Nat → Int32} {A : Nat → Nat} (hc : sp_c A kp gv lk kd sd) (hd : sp_d A dd dy) (h : sp_iv A) : ∀ (n p : Nat), p ≤ A 3 → A 3 - p < n → f_X4_howManyPairs_L4 (nI (A 3)) gv dd dy sd n (nI (sp_S (sp_rowc A) p)) (nI p) = some (nI (sp_all A)) := by
  intro n
  have h3 := h.2.2.2.1
  induction n with
  | zero => intro p _ h2; omega
  | succ n ih =>
    intro p g1 g2
    rw [f_X4_howManyPairs_L4_s]
    by_cases hp : p = A 3
    · rw [hp, if_pos (by rw [nI_leI (by omega) (by omega)]; exact Nat.le_refl _)]
      rfl
    · rw [if_neg (by rw [nI_leI (by omega) (by omega)]; omega)]
      have e := e4_pairs_in hc hd h (f_X4_howManyPairs_L4 (nI (A 3)) gv dd dy sd n) (p := p) (by omega) (sp_S (sp_rowc A) p) bs_F (p + 1) (by omega) (by omega) (by unfold bs_F; omega)
      rw [sp_low A p (p + 1) (by omega), Nat.add_zero] at e
      simp only [bs_lits, nI_add]
      rw [e]
      exact ih (p + 1) (by omega) (by omega)
theorem e4_howManyPairs {kp gv lk kd sd dd dy : Nat → Int32} {A : Nat → Nat} (hc : sp_c A kp gv lk kd sd) (hd : sp_d A dd dy) (h : sp_iv A) : f_X4_howManyPairs (nI (A 3)) gv dd dy sd = some (nI (sp_all A)) := e4_pairs_out hc hd h bs_F 0 (Nat.zero_le _) (by have := h.2.2.2.1; unfold bs_F; omega)
/-- the first q from a place on, of d places, with which p clashes -/
def sp_fq (A : Nat → Nat) (p : Nat) : Nat → Nat → Option Nat
  | 0, _ => none
  | d + 1, q => if sp_cl A p q = true then some q else sp_fq A p d (q + 1)
def sp_fp (A : Nat → Nat) : Nat → Nat → Option Nat
  | 0, _ => none
  | d + 1, p => match sp_fq A p (A 3 - (p + 1)) (p + 1) with
    | some q => some (8 * p + q)
    | none => sp_fp A d (p + 1)
def sp_or (x : Option Nat) : Int32 := match x with
  | some v => nI v
  | none => -1000000
theorem e4_first_in {kp gv lk kd sd dd dy : Nat → Int32} {A : Nat → Nat} (hc : sp_c A kp gv lk kd sd) (hd : sp_d A dd dy) (h : sp_iv A) (r : Int32 → Option Int32) {p : Nat} (hp : p < A 3) : ∀ (n q : Nat), q ≤ A 3 → A 3 - q < n → f_X4_firstPair_L14 r (nI (A 3)) gv dd dy sd (nI p) n (nI q) = match sp_fq A p (A 3 - q) q with
    | some v => some (nI (8 * p + v))
    | none => r (nI (p + 1)) := by
  intro n
  have h3 := h.2.2.2.1
  induction n with
  | zero => intro q _ h2; omega
  | succ n ih =>
    intro q g1 g2
    rw [f_X4_firstPair_L14_s]
    by_cases hq : q = A 3
    · subst hq
      rw [if_pos (by rw [nI_leI (by omega) (by omega)]; exact Nat.le_refl _), Nat.sub_self]
      simp only [bs_lits, nI_add]
      rfl
    · have ih2 := ih (q + 1) (by omega) (by omega)
      rw [if_neg (by rw [nI_leI (by omega) (by omega)]; omega), e4_doClash hc hd h hp (by omega), Option.bind_some]
      obtain ⟨d, hd2⟩ : ∃ d, A 3 - q = d + 1 := ⟨A 3 - q - 1, by omega⟩
      rw [hd2]
      rw [show A 3 - (q + 1) = d by omega] at ih2
      by_cases hb : sp_cl A p q = true
      · rw [if_pos hb, if_neg (by decide)]
        simp only [bs_lits, pk_mul, nI_add]
        unfold sp_fq
        rw [if_pos hb]
      · rw [if_neg hb, if_pos (by decide)]
        simp only [bs_lits, nI_add]
        rw [ih2]
        conv => rhs; unfold sp_fq
        rw [if_neg hb]
theorem e4_first_out {kp gv lk kd sd dd dy : Nat → Int32} {A : Nat → Nat} (hc : sp_c A kp gv lk kd sd) (hd : sp_d A dd dy) (h : sp_iv A) : ∀ (n p : Nat), p ≤ A 3 → A 3 - p < n → f_X4_firstPair_L2 (nI (A 3)) gv dd dy sd n (nI p) = some (sp_or (sp_fp A (A 3 - p) p)) := by
  intro n
  have h3 := h.2.2.2.1
  induction n with
  | zero => intro p _ h2; omega
  | succ n ih =>
    intro p g1 g2
    rw [f_X4_firstPair_L2_s]
    by_cases hp : p = A 3
    · subst hp
      rw [if_pos (by rw [nI_leI (by omega) (by omega)]; exact Nat.le_refl _), Nat.sub_self]
      rfl
    · rw [if_neg (by rw [nI_leI (by omega) (by omega)]; omega)]
      have e := e4_first_in hc hd h (f_X4_firstPair_L2 (nI (A 3)) gv dd dy sd n) (p := p) (by omega) bs_F (p + 1) (by omega) (by unfold bs_F; omega)
      simp only [bs_lits, nI_add]
      rw [e, ih (p + 1) (by omega) (by omega)]
      obtain ⟨d, hd2⟩ : ∃ d, A 3 - p = d + 1 := ⟨A 3 - p - 1, by omega⟩
      rw [hd2, show A 3 - (p + 1) = d by omega]
      conv => rhs; unfold sp_fp
      rw [show A 3 - (p + 1) = d by omega]
      cases sp_fq A p d (p + 1) <;> rfl
theorem e4_firstPair {kp gv lk kd sd dd dy : Nat → Int32} {A : Nat → Nat} (hc : sp_c A kp gv lk kd sd) (hd : sp_d A dd dy) (h : sp_iv A) : f_X4_firstPair (nI (A 3)) gv dd dy sd = some (sp_or (sp_fp A (A 3) 0)) := e4_first_out hc hd h bs_F 0 (Nat.zero_le _) (by have := h.2.2.2.1; unfold bs_F; omega)
/-- the model's: from above down; b1 is one more than the number at hand -/
def sp_fz (x : Option Nat) (z : Int32) (p : Nat) : Int32 := match x with
  | some v => nI (8 * p + v)
  | none => z
theorem e7_clash_in {st : Nat → Int32} {A : Nat → Nat} (hs : sp_at st A) (h : sp_iv A) (r : Int32 → Int32 → Int32 → Option Int32) (th w : Int32) {p : Nat} (hp : p < A 3) (m : Nat) (z : Int32) : ∀ (n b : Nat), p < b → b ≤ A 3 → b - p < n + 1 → f_X7_clash_L53 r th st w (nI p) n (nI (m + (sp_rowc A p - sp_S (sp_one A p) b))) (sp_fz (sp_fq A p (A 3 - b) b) z p) (nI b - 1) = r (nI (m + sp_rowc A p)) (sp_fz (sp_fq A p (A 3 - (p + 1)) (p + 1)) z p) (nI p + (-1)) := by
  intro n
  have h3 := h.2.2.2.1
  induction n with
  | zero => intro b h1 _ h2; omega
  | succ n ih =>
    intro b g0 g1 g2
    obtain ⟨c, rfl⟩ : ∃ c, b = c + 1 := ⟨b - 1, by omega⟩
    rw [f_X7_clash_L53_s]
    rw [show nI (c + 1) - 1 = nI c from nI_pred c]
    by_cases hq : c = p
    · subst hq
      rw [if_pos (by rw [nI_leI (by omega) (by omega)]; exact Nat.le_refl _), sp_low A c (c + 1) (Nat.le_refl _), Nat.sub_zero]
    · have ih2 := ih c (by omega) (by omega) (by omega)
      have e : sp_S (sp_one A p) (c + 1) = sp_S (sp_one A p) c + sp_one A p c := rfl
      have hm : sp_S (sp_one A p) (c + 1) ≤ sp_rowc A p := sp_S_mono g1
      have ef : sp_fq A p (A 3 - c) c = if sp_cl A p c = true then some c else sp_fq A p (A 3 - (c + 1)) (c + 1) := by
        rw [show A 3 - c = (A 3 - (c + 1)) + 1 by omega]
        rfl
      rw [if_neg (by rw [nI_leI (by omega) (by omega)]; omega), e7_clashes hs h hp (by omega), Option.bind_some]
      rw [show nI c + (-1) = nI c - 1 by rw [Int32.sub_eq_add_neg]]
      rw [ef] at ih2
      by_cases hb : sp_cl A p c = true
      · have e1 : sp_one A p c = 1 := if_pos ⟨by omega, hb⟩
        rw [if_pos hb] at ih2 ⊢
        rw [if_neg (by decide), Option.bind_some, if_neg (by decide)]
        rw [← ih2]
        simp only [bs_lits, pk_mul, nI_add, sp_fz]
        rw [show m + (sp_rowc A p - sp_S (sp_one A p) (c + 1)) + 1 = m + (sp_rowc A p - sp_S (sp_one A p) c) by omega]
      · have e1 : sp_one A p c = 0 := if_neg (fun z => hb z.2)
        rw [if_neg hb] at ih2 ⊢
        rw [if_pos (by decide), Option.bind_some, if_pos (by decide)]
        rw [← ih2]
        simp only [bs_lits, nI_add]
        rw [show m + (sp_rowc A p - sp_S (sp_one A p) (c + 1)) + 0 = m + (sp_rowc A p - sp_S (sp_one A p) c) by omega]
theorem e7_clash_out {st : Nat → Int32} {A : Nat → Nat} (hs : sp_at st A) (h : sp_iv A) (th w : Int32) : ∀ (n b : Nat), b ≤ A 3 → b < n → f_X7_clash_L38 th st w n (nI (sp_all A - sp_S (sp_rowc A) b)) (sp_or (sp_fp A (A 3 - b) b)) (nI b - 1) = some (if w = 0 then nI (sp_all A) else sp_or (sp_fp A (A 3) 0)) := by
  intro n
  have h3 := h.2.2.2.1
  induction n with
  | zero => intro b h1 h2; omega
  | succ n ih =>
    intro b g1 g2
    rw [f_X7_clash_L38_s]
    cases b with
    | zero =>
      rw [if_pos (by decide)]
      show (if w = 0 then some (nI (sp_all A - 0)) else some (sp_or (sp_fp A (A 3 - 0) 0))) = _
      rw [Nat.sub_zero, Nat.sub_zero]
      split <;> rfl
    | succ c =>
      have hm : sp_S (sp_rowc A) (c + 1) ≤ sp_all A := sp_S_mono g1
      have e : sp_S (sp_rowc A) (c + 1) = sp_S (sp_rowc A) c + sp_rowc A c := rfl
      have ih2 := ih c (by omega) (by omega)
      rw [show nI (c + 1) - 1 = nI c from nI_pred c, if_neg (by exact nI_pos (by omega)), hs 3 (by omega)]
      have ei := e7_clash_in hs h (f_X7_clash_L38 th st w n) th w (p := c) (by omega) (sp_all A - sp_S (sp_rowc A) (c + 1)) (sp_or (sp_fp A (A 3 - (c + 1)) (c + 1))) bs_F (A 3) (by omega) (Nat.le_refl _) (by unfold bs_F; omega)
      rw [show sp_rowc A c - sp_S (sp_one A c) (A 3) = 0 from Nat.sub_self _, Nat.add_zero, Nat.sub_self] at ei
      have ef : sp_fz (sp_fq A c (A 3 - (c + 1)) (c + 1)) (sp_or (sp_fp A (A 3 - (c + 1)) (c + 1))) c = sp_or (sp_fp A (A 3 - c) c) := by
        obtain ⟨d, hd⟩ : ∃ d, A 3 - c = d + 1 := ⟨A 3 - c - 1, by omega⟩
        rw [hd, show A 3 - (c + 1) = d by omega]
        conv => rhs; unfold sp_fp
        rw [show A 3 - (c + 1) = d by omega]
        cases sp_fq A c d (c + 1) <;> rfl
      rw [ef, show sp_all A - sp_S (sp_rowc A) (c + 1) + sp_rowc A c = sp_all A - sp_S (sp_rowc A) c by omega] at ei
      rw [show nI c + (-1) = nI c - 1 by rw [Int32.sub_eq_add_neg]] at ei
      rw [ih2] at ei
      exact ei
theorem e7_clash {st : Nat → Int32} {A : Nat → Nat} (hs : sp_at st A) (h : sp_iv A) (th w : Int32) : f_X7_clash_L38 th st w bs_F 0 (-1000000) (st 3 - 1) = some (if w = 0 then nI (sp_all A) else sp_or (sp_fp A (A 3) 0)) := by
  have h3 := h.2.2.2.1
  have e := e7_clash_out hs h th w bs_F (A 3) (Nat.le_refl _) (by unfold bs_F; omega)
  rw [show sp_all A - sp_S (sp_rowc A) (A 3) = 0 from Nat.sub_self _, Nat.sub_self] at e
  rw [hs 3 (by omega)]
  exact e
