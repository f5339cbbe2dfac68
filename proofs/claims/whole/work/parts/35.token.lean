/-! the tape's tokens: one scan, on both sides -/
def tk_fig (c : Nat) : Bool := decide (48 ≤ c ∧ c ≤ 57)
theorem tk_figT {c : Nat} : tk_fig c = true ↔ 48 ≤ c ∧ c ≤ 57 := by
  unfold tk_fig
  exact decide_eq_true_iff
def tk_run (t : Nat → Nat) : Nat → Nat → Nat
  | 0, _ => 0
  | d + 1, p => if tk_fig (t p) = true then tk_run t d (p + 1) + 1 else 0
theorem tk_run_le (t : Nat → Nat) : ∀ d p, tk_run t d p ≤ d := by
  intro d
  induction d with
  | zero => intro p; exact Nat.le_refl _
  | succ d ih =>
    intro p
    unfold tk_run
    have := ih (p + 1)
    split <;> omega
theorem tk_run_fig (t : Nat → Nat) : ∀ d p j, j < tk_run t d p → 48 ≤ t (p + j) ∧ t (p + j) ≤ 57 := by
  intro d
  induction d with
  | zero => intro p j h; exact absurd h (Nat.not_lt_zero _)
  | succ d ih =>
    intro p j h
    unfold tk_run at h
    by_cases hf : tk_fig (t p) = true
    · rw [if_pos hf] at h
      cases j with
      | zero => exact tk_figT.mp hf
      | succ j =>
        have := ih (p + 1) j (by omega)
        rw [show p + (j + 1) = p + 1 + j by omega]
        exact this
    · rw [if_neg hf] at h
      exact absurd h (Nat.not_lt_zero _)
def tk_acc (t : Nat → Nat) : Nat → Nat → Nat → Nat
  | 0, _, v => v
  | r + 1, p, v => if v ≤ 99 then tk_acc t r (p + 1) (10 * v + t p - 48) else tk_acc t r (p + 1) v
def tk_let (c : Nat) : Bool := decide (97 ≤ c ∧ c ≤ 122 ∨ c = 44 ∨ c = 59)
def tk_pl (b : Nat) (t : Nat → Nat) (p : Nat) : Nat := if p = b then b else if tk_run t (b - p) p = 0 then p + 1 else p + tk_run t (b - p) p
def tk_tk (b : Nat) (t : Nat → Nat) (p : Nat) : Int32 := if p = b then 3 else if tk_run t (b - p) p = 0 then (if tk_let (t p) = true then 1 else 0) else if tk_run t (b - p) p ≤ 2 then 2 else 0
def tk_vl (b : Nat) (t : Nat → Nat) (p : Nat) : Int32 := if p = b then 0 else if tk_run t (b - p) p = 0 then nI (t p) else nI (tk_acc t (tk_run t (b - p) p) p 0)
section TK
variable {b : Nat} {t : Nat → Nat} {T : Nat → Int32}
theorem tk_inL (c : Nat) (hc : c < 2 ^ 31) (lo hi : Int64) (l h : Nat) (hl : lo.toInt = (l : Int)) (hh : hi.toInt = (h : Int)) : f_X7_in (nI c).toInt64 lo hi = some (if l ≤ c ∧ c ≤ h then 1 else 0) := by
  rw [e7_in, sm_t64, nI_toInt hc, hl, hh]
  by_cases q : l ≤ c ∧ c ≤ h
  · rw [if_pos q, if_pos (by omega)]
  · rw [if_neg q, if_neg (by omega)]
theorem tk_L33 (hb : b ≤ 120) (hT : ∀ i, i < b → T i = nI (t i) ∧ t i ≤ 255) (tok : Int32) {p : Nat} : ∀ (n d q v : Nat), d = b - q → d < n → p ≤ q → q ≤ b → v ≤ 999 → p < q + tk_run t d q → f_X7_nextToken_L33 T (nI b) tok (nI p) n (nI q) (nI v) = some (nI (q + tk_run t d q), if q + tk_run t d q - p ≤ 2 then 2 else 0, nI (tk_acc t (tk_run t d q) q v), nI p) := by
  intro n
  induction n with
  | zero => intro d q v _ h; omega
  | succ n ih =>
    intro d q v hd h1 h2 h3 hv h4
    have e1 : (nI b ≤ nI q) = (b ≤ q) := propext (nI_leI (by omega) (by omega))
    have e2 : (nI q ≤ nI p) = (q ≤ p) := propext (nI_leI (by omega) (by omega))
    rw [f_X7_nextToken_L33_s]
    simp only [e1, e2]
    have fin : tk_run t d q = 0 → p < q ∧ (nI q - nI p = nI (q - p)) := fun z => ⟨by omega, pk_sub (by omega)⟩
    by_cases hq : b ≤ q
    · have hd0 : d = 0 := by omega
      subst hd0
      have hr : tk_run t 0 q = 0 := rfl
      obtain ⟨f1, f2⟩ := fin hr
      rw [if_pos hq, if_neg (by omega), f2, hr]
      have e3 : (nI (q - p) ≤ (2 : Int32)) = (q - p ≤ 2) := propext (nI_leI (b := 2) (by omega) (by omega))
      simp only [e3, Nat.add_zero]
      by_cases h5 : q - p ≤ 2
      · rw [if_pos h5, if_pos h5]
        rfl
      · rw [if_neg h5, if_neg h5]
        rfl
    · obtain ⟨d', rfl⟩ : ∃ d', d = d' + 1 := ⟨d - 1, by omega⟩
      obtain ⟨t1, t2⟩ := hT q (by omega)
      rw [if_neg hq, if_pos (bs_inN (by omega) (by omega)), nI_clamp (by omega), t1, tk_inL (t q) (by omega) 48 57 48 57 (by decide) (by decide)]
      simp only [Option.bind_some, sm_z]
      by_cases hf : 48 ≤ t q ∧ t q ≤ 57
      · have hr : tk_run t (d' + 1) q = tk_run t d' (q + 1) + 1 := if_pos (tk_figT.mpr hf)
        have hg := ih d' (q + 1)
        rw [hr] at h4 ⊢
        have e4 : (nI v ≤ (99 : Int32)) = (v ≤ 99) := propext (nI_leI (b := 99) (by omega) (by omega))
        have e5 : (10 : Int32) * nI v + nI (t q) - 48 = nI (10 * v + t q - 48) := by
          rw [show (10 : Int32) = nI 10 from rfl, show (48 : Int32) = nI 48 from rfl, pk_mul, nI_add, pk_sub (by omega)]
        rw [if_neg (not_not_intro hf), if_pos (bs_inN (by omega) (by omega)), e5, nI_1]
        simp only [e4]
        have ea : tk_acc t (tk_run t d' (q + 1) + 1) q v = if v ≤ 99 then tk_acc t (tk_run t d' (q + 1)) (q + 1) (10 * v + t q - 48) else tk_acc t (tk_run t d' (q + 1)) (q + 1) v := rfl
        rw [ea]
        by_cases h9 : v ≤ 99
        · rw [if_pos h9, if_pos h9, hg (10 * v + t q - 48) (by omega) (by omega) (by omega) (by omega) (by omega) (by omega), show q + 1 + tk_run t d' (q + 1) = q + (tk_run t d' (q + 1) + 1) by omega]
        · rw [if_neg h9, if_neg h9, hg v (by omega) (by omega) (by omega) (by omega) (by omega) (by omega), show q + 1 + tk_run t d' (q + 1) = q + (tk_run t d' (q + 1) + 1) by omega]
      · have hr : tk_run t (d' + 1) q = 0 := if_neg (fun z => hf (tk_figT.mp z))
        obtain ⟨f1, f2⟩ := fin hr
        rw [if_pos hf, if_neg (by omega), f2, hr]
        have e3 : (nI (q - p) ≤ (2 : Int32)) = (q - p ≤ 2) := propext (nI_leI (b := 2) (by omega) (by omega))
        simp only [e3, Nat.add_zero]
        by_cases h5 : q - p ≤ 2
        · rw [if_pos h5, if_pos h5]
          rfl
        · rw [if_neg h5, if_neg h5]
          rfl
theorem tk_next (hb : b ≤ 120) (hT : ∀ i, i < b → T i = nI (t i) ∧ t i ≤ 255) {p : Nat} (hp : p ≤ b) (tok val beg : Int32) : f_X7_nextToken T (nI b) (nI p) tok val beg = some (nI (tk_pl b t p), tk_tk b t p, tk_vl b t p, nI p) := by
  have e0 : (nI p = nI b) = (p = b) := propext (nI_eq (by omega) (by omega))
  unfold f_X7_nextToken tk_pl tk_tk tk_vl
  simp only [e0]
  by_cases h0 : p = b
  · subst h0
    rw [if_pos rfl, if_pos rfl, if_pos rfl, if_pos rfl, show bs_F = 99999 + 1 from rfl, f_X7_nextToken_L33_s, if_pos (by rw [nI_leI (by omega) (by omega)]; exact Nat.le_refl _), if_pos (by rw [nI_leI (by omega) (by omega)]; exact Nat.le_refl _), if_neg (by decide)]
  · rw [if_neg h0, if_neg h0, if_neg h0, if_neg h0]
    by_cases hr : tk_run t (b - p) p = 0
    · rw [if_pos hr, if_pos hr, if_pos hr]
      have hpb : p < b := by omega
      obtain ⟨t1, t2⟩ := hT p hpb
      have hnf : ¬ (48 ≤ t p ∧ t p ≤ 57) := by
        intro z
        obtain ⟨d', hd⟩ : ∃ d', b - p = d' + 1 := ⟨b - p - 1, by omega⟩
        rw [hd] at hr
        have : tk_run t (d' + 1) p = tk_run t d' (p + 1) + 1 := if_pos (tk_figT.mpr z)
        omega
      have hnb : ¬ nI b ≤ nI p := by rw [nI_leI (by omega) (by omega)]; omega
      have hpp : nI p ≤ nI p := by rw [nI_leI (by omega) (by omega)]; exact Nat.le_refl _
      have hbp : bs_in (nI p) 120 = true := bs_inN (by omega) (by omega)
      have e44 : (nI (t p) = (44 : Int32)) = (t p = 44) := propext (nI_eq (b := 44) (by omega) (by omega))
      have e59 : (nI (t p) = (59 : Int32)) = (t p = 59) := propext (nI_eq (b := 59) (by omega) (by omega))
      rw [show bs_F = 99999 + 1 from rfl, f_X7_nextToken_L33_s, if_neg hnb, if_pos hbp, nI_clamp (by omega), t1, tk_inL (t p) (by omega) 48 57 48 57 (by decide) (by decide), Option.bind_some, if_pos (if_neg hnf), if_pos hpp, if_pos rfl, if_pos hbp, tk_inL (t p) (by omega) 97 122 97 122 (by decide) (by decide), Option.bind_some, nI_1]
      simp only [sm_z, e44, e59]
      unfold tk_let
      by_cases k1 : 97 ≤ t p ∧ t p ≤ 122
      · rw [if_neg (not_not_intro k1), if_pos (decide_eq_true (Or.inl k1))]
      · rw [if_pos k1]
        by_cases k2 : t p = 44
        · rw [if_pos k2, if_pos (decide_eq_true (Or.inr (Or.inl k2)))]
        · rw [if_neg k2]
          by_cases k3 : t p = 59
          · rw [if_pos k3, if_pos (decide_eq_true (Or.inr (Or.inr k3)))]
          · rw [if_neg k3, if_neg (fun z => by rcases of_decide_eq_true z with z | z | z; exact k1 z; exact k2 z; exact k3 z)]
    · rw [if_neg hr, if_neg hr, if_neg hr]
      have q := tk_L33 hb hT 0 (p := p) bs_F (b - p) p 0 rfl (by unfold bs_F; omega) (Nat.le_refl _) hp (by omega) (by omega)
      rw [show p + tk_run t (b - p) p - p = tk_run t (b - p) p by omega] at q
      exact q
/-! the class's side -/
variable {L : Nat → Int32}
theorem tk_figs (hb : b ≤ 120) (hL : ∀ i, i < b → L i = nI (t i) ∧ t i ≤ 255) {p : Nat} : ∀ (n d q : Nat), d = b - q → d < n → p ≤ q → q ≤ b → f_X5_figuresFrom_L2 L (nI b) (nI p) n (nI q) = some (nI (q + tk_run t d q - p)) := by
  intro n
  induction n with
  | zero => intro d q _ h; omega
  | succ n ih =>
    intro d q hd h1 h2 h3
    have e1 : (nI b ≤ nI q) = (b ≤ q) := propext (nI_leI (by omega) (by omega))
    have e2 : nI q - nI p = nI (q - p) := pk_sub (by omega)
    rw [f_X5_figuresFrom_L2_s, nI_1, e2]
    simp only [e1]
    by_cases hq : b ≤ q
    · have hd0 : d = 0 := by omega
      subst hd0
      rw [if_pos hq]
      rfl
    · obtain ⟨d', rfl⟩ : ∃ d', d = d' + 1 := ⟨d - 1, by omega⟩
      obtain ⟨t1, t2⟩ := hL q (by omega)
      have hbq : bs_in (nI q) 120 = true := bs_inN (by omega) (by omega)
      have e48 : (nI (t q) < (48 : Int32)) = (t q < 48) := propext (nI_ltI (b := 48) (by omega) (by omega))
      have e57 : ((57 : Int32) < nI (t q)) = (57 < t q) := propext (nI_ltI (a := 57) (by omega) (by omega))
      rw [if_neg hq, if_pos hbq, if_pos hbq, nI_clamp (by omega), t1]
      simp only [e48, e57]
      by_cases hf : 48 ≤ t q ∧ t q ≤ 57
      · have hr : tk_run t (d' + 1) q = tk_run t d' (q + 1) + 1 := if_pos (tk_figT.mpr hf)
        rw [if_neg (by omega), if_neg (by omega), ih d' (q + 1) (by omega) (by omega) (by omega) (by omega), hr, show q + 1 + tk_run t d' (q + 1) = q + (tk_run t d' (q + 1) + 1) by omega]
      · have hr : tk_run t (d' + 1) q = 0 := if_neg (fun z => hf (tk_figT.mp z))
        rw [hr]
        by_cases h48 : t q < 48
        · rw [if_pos h48]
          rfl
        · rw [if_neg h48, if_pos (by omega)]
          rfl
/-- what a number of one or two figures is -/
def tk_num (t : Nat → Nat) (r p : Nat) : Nat := if r = 1 then t p - 48 else 10 * (t p - 48) + (t (p + 1) - 48)
theorem tk_num_acc {d p r : Nat} (hr : r = tk_run t d p) (h1 : 1 ≤ r) (h2 : r ≤ 2) : tk_acc t r p 0 = tk_num t r p ∧ tk_num t r p ≤ 99 := by
  have f0 := tk_run_fig t d p 0 (by omega)
  unfold tk_num
  rcases (by omega : r = 1 ∨ r = 2) with h | h
  · rw [h, if_pos rfl]
    constructor
    · show (if 0 ≤ 99 then 10 * 0 + t p - 48 else 0) = _
      rw [if_pos (by omega)]
      omega
    · rw [Nat.add_zero] at f0
      omega
  · have f1 := tk_run_fig t d p 1 (by omega)
    rw [Nat.add_zero] at f0
    rw [h, if_neg (by omega)]
    constructor
    · show (if 0 ≤ 99 then (if 10 * 0 + t p - 48 ≤ 99 then 10 * (10 * 0 + t p - 48) + t (p + 1) - 48 else 10 * 0 + t p - 48) else (if 0 ≤ 99 then 10 * 0 + t (p + 1) - 48 else 0)) = _
      rw [if_pos (by omega), if_pos (by omega)]
      omega
    · omega
theorem tk_sum (hb : b ≤ 120) (hL : ∀ i, i < b → L i = nI (t i) ∧ t i ≤ 255) {p : Nat} (hp : p ≤ b) (h1 : 1 ≤ tk_run t (b - p) p) (h2 : tk_run t (b - p) p ≤ 2) (fm lo hi : Int32) : f_X5_takeNumber_L44 L (nI b) (nI p) fm lo hi (nI (tk_run t (b - p) p)) bs_F 0 (nI p) = if nI (tk_num t (tk_run t (b - p) p) p) < lo then some (0, nI p, 2) else if nI (tk_num t (tk_run t (b - p) p) p) ≤ hi then some (nI (tk_num t (tk_run t (b - p) p) p), nI (p + tk_run t (b - p) p), fm) else some (0, nI p, 2) := by
  have hle := tk_run_le t (b - p) p
  have f0 := tk_run_fig t (b - p) p 0 (by omega)
  rw [Nat.add_zero] at f0
  obtain ⟨t0, _⟩ := hL p (by omega)
  have b0 : bs_in (nI p) 120 = true := bs_inN (by omega) (by omega)
  have e10 : (10 : Int32) * 0 + nI (t p) - 48 = nI (t p - 48) := by
    rw [show (10 : Int32) * 0 = nI 0 by decide, show (48 : Int32) = nI 48 from rfl, nI_add, pk_sub (by omega), Nat.zero_add]
  have ea : nI p + nI (tk_run t (b - p) p) = nI (p + tk_run t (b - p) p) := nI_add _ _
  have f1 := tk_run_fig t (b - p) p 1
  generalize tk_run t (b - p) p = r at *
  have s0 : ¬ nI (p + r) ≤ nI p := by rw [nI_leI (by omega) (by omega)]; omega
  rw [show bs_F = 99997 + 1 + 1 + 1 from rfl, f_X5_takeNumber_L44_s, ea, if_neg s0, if_pos b0, nI_clamp (n := p) (by omega), t0, e10, nI_1, f_X5_takeNumber_L44_s, ea]
  unfold tk_num
  rcases (by omega : r = 1 ∨ r = 2) with h | h
  · subst h
    rw [if_pos (show nI (p + 1) ≤ nI (p + 1) by rw [nI_leI (by omega) (by omega)]; exact Nat.le_refl _), if_pos rfl]
    rfl
  · subst h
    have f1 := f1 (by omega)
    obtain ⟨t1, _⟩ := hL (p + 1) (by omega)
    have b1 : bs_in (nI (p + 1)) 120 = true := bs_inN (by omega) (by omega)
    have e11 : (10 : Int32) * nI (t p - 48) + nI (t (p + 1)) - 48 = nI (10 * (t p - 48) + (t (p + 1) - 48)) := by
      rw [show (10 : Int32) = nI 10 from rfl, show (48 : Int32) = nI 48 from rfl, pk_mul, nI_add, pk_sub (by omega)]
      exact congrArg nI (by omega)
    rw [if_neg (show ¬ nI (p + 2) ≤ nI (p + 1) by rw [nI_leI (by omega) (by omega)]; omega), if_pos b1, nI_clamp (n := p + 1) (by omega), t1, e11, nI_1, f_X5_takeNumber_L44_s, ea, if_pos (show nI (p + 2) ≤ nI (p + 1 + 1) by rw [nI_leI (by omega) (by omega)]; omega), if_neg (show ¬ (2 = 1) by omega)]
    rfl
end TK
