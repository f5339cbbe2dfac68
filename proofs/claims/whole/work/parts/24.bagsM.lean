/-! the model's bags, counts of bits, bags and heaviest of both sides -/
theorem e7_isBag_in {st : Nat → Int32} {A : Nat → Nat} (hs : sp_at st A) (h : sp_iv A) (r : Int32 → Int32 → Option Int32) {s : Nat} (hl : s < 256) {p : Nat} (hp : p < A 3) : ∀ (n q : Nat) (b : Bool), q ≤ A 3 → A 3 - q < n → ∃ b' : Bool, f_X7_isBag_L45 r st (nI s) (nI p) n (if b = true then 1 else 0) (nI q) = r (if b' = true then 1 else 0) (nI (p + 1)) ∧ (b' = true ↔ b = true ∧ ∀ j, q ≤ j → j < A 3 → sp_b s p = 1 → sp_b s j = 1 → sp_cl A p j = false) := by
  intro n
  have h3 := h.2.2.2.1
  induction n with
  | zero => intro q b _ h2; omega
  | succ n ih =>
    intro q b h1 h2
    rw [f_X7_isBag_L45_s, hs 3 (by omega)]
    have e3 : nI q + 1 = nI (q + 1) := nI_1 q
    have e5 : nI p + 1 = nI (p + 1) := nI_1 p
    rw [e3, e5]
    by_cases hq : q = A 3
    · subst hq
      rw [if_pos (by rw [nI_leI (by omega) (by omega)]; exact Nat.le_refl _)]
      exact ⟨b, rfl, ⟨fun g => ⟨g, fun j a c => by omega⟩, fun g => g.1⟩⟩
    · rw [if_neg (by rw [nI_leI (by omega) (by omega)]; omega)]
      cases b with
      | false =>
        obtain ⟨b', c1, c2⟩ := ih (q + 1) false (by omega) (by omega)
        rw [if_pos (by rfl)]
        refine ⟨b', c1, ⟨fun g => ?_, fun g => ?_⟩⟩
        · exact absurd (c2.mp g).1 (by decide)
        · exact absurd g.1 (by decide)
      | true =>
        obtain ⟨bt, t1, t2⟩ := ih (q + 1) true (by omega) (by omega)
        obtain ⟨bf, f1, f2⟩ := ih (q + 1) false (by omega) (by omega)
        have t1' : f_X7_isBag_L45 r st (nI s) (nI p) n 1 (nI (q + 1)) = r (if bt = true then 1 else 0) (nI (p + 1)) := t1
        have f1' : f_X7_isBag_L45 r st (nI s) (nI p) n 0 (nI (q + 1)) = r (if bf = true then 1 else 0) (nI (p + 1)) := f1
        rw [if_neg (by decide), e7_has hl (by omega), Option.bind_some]
        by_cases hb : sp_b s p = 1
        · rw [if_pos hb, if_neg (by decide), e7_has hl (by omega), Option.bind_some]
          by_cases hb2 : sp_b s q = 1
          · rw [if_pos hb2, if_neg (by decide), e7_clashes hs h hp (by omega), Option.bind_some]
            by_cases hc : sp_cl A p q = true
            · rw [if_pos hc, if_neg (by decide), f1']
              refine ⟨bf, rfl, ⟨fun g => absurd (f2.mp g).1 (by decide), fun g => ?_⟩⟩
              have := g.2 q (Nat.le_refl _) (by omega) hb hb2
              rw [hc] at this
              cases this
            · rw [if_neg hc, if_pos (by decide), t1']
              refine ⟨bt, rfl, t2.trans ⟨fun g => ⟨g.1, fun j j1 j2 j3 j4 => ?_⟩, fun g => ⟨g.1, fun j j1 => g.2 j (by omega)⟩⟩⟩
              by_cases hj : j = q
              · subst hj
                simpa using hc
              · exact g.2 j (by omega) j2 j3 j4
          · rw [if_neg hb2, if_pos rfl, t1']
            refine ⟨bt, rfl, t2.trans ⟨fun g => ⟨g.1, fun j j1 j2 j3 j4 => ?_⟩, fun g => ⟨g.1, fun j j1 => g.2 j (by omega)⟩⟩⟩
            by_cases hj : j = q
            · subst hj
              exact absurd j4 hb2
            · exact g.2 j (by omega) j2 j3 j4
        · rw [if_neg hb, if_pos rfl, t1']
          refine ⟨bt, rfl, t2.trans ⟨fun g => ⟨g.1, fun j j1 j2 j3 j4 => absurd j3 hb⟩, fun g => ⟨g.1, fun j j1 => g.2 j (by omega)⟩⟩⟩
theorem e7_isBag_out {st : Nat → Int32} {A : Nat → Nat} (hs : sp_at st A) (h : sp_iv A) {s : Nat} (hl : s < 256) : ∀ (n p : Nat) (b : Bool), p ≤ A 3 → A 3 - p < n → ∃ b' : Bool, f_X7_isBag_L4 st (nI s) n (if b = true then 1 else 0) (nI p) = some (if b' = true then 1 else 0) ∧ (b' = true ↔ b = true ∧ ∀ k, p ≤ k → k < A 3 → sp_b s k = 1 → A (49 + k) = 0 ∧ ∀ j, k < j → j < A 3 → sp_b s j = 1 → sp_cl A k j = false) := by
  intro n
  have h3 := h.2.2.2.1
  induction n with
  | zero => intro q b _ h2; omega
  | succ n ih =>
    intro p b h1 h2
    rw [f_X7_isBag_L4_s, hs 3 (by omega)]
    have e5 : nI p + 1 = nI (p + 1) := nI_1 p
    rw [e5]
    by_cases hp : p = A 3
    · subst hp
      rw [if_pos (by rw [nI_leI (by omega) (by omega)]; exact Nat.le_refl _), if_pos (by cases b; exact Or.inl rfl; exact Or.inr rfl)]
      exact ⟨b, rfl, ⟨fun g => ⟨g, fun j a c => by omega⟩, fun g => g.1⟩⟩
    · have hpp : p < A 3 := by omega
      rw [if_neg (by rw [nI_leI (by omega) (by omega)]; omega)]
      have key : ∀ b0 : Bool, ∃ b' : Bool, f_X7_isBag_L45 (f_X7_isBag_L4 st (nI s) n) st (nI s) (nI p) bs_F (if b0 = true then 1 else 0) (nI (p + 1)) = some (if b' = true then 1 else 0) ∧ (b' = true ↔ (b0 = true ∧ ∀ j, p + 1 ≤ j → j < A 3 → sp_b s p = 1 → sp_b s j = 1 → sp_cl A p j = false) ∧ ∀ k, p + 1 ≤ k → k < A 3 → sp_b s k = 1 → A (49 + k) = 0 ∧ ∀ j, k < j → j < A 3 → sp_b s j = 1 → sp_cl A k j = false) := by
        intro b0
        obtain ⟨b1, c1, c2⟩ := e7_isBag_in hs h (f_X7_isBag_L4 st (nI s) n) hl hpp bs_F (p + 1) b0 (by omega) (by unfold bs_F; omega)
        obtain ⟨b2, d1, d2⟩ := ih (p + 1) b1 (by omega) (by omega)
        exact ⟨b2, c1.trans d1, d2.trans ⟨fun g => ⟨c2.mp g.1, g.2⟩, fun g => ⟨c2.mpr g.1, g.2⟩⟩⟩
      obtain ⟨bt, t1, t2⟩ := key true
      obtain ⟨bf, f1, f2⟩ := key false
      have t1' : f_X7_isBag_L45 (f_X7_isBag_L4 st (nI s) n) st (nI s) (nI p) bs_F 1 (nI (p + 1)) = some (if bt = true then 1 else 0) := t1
      have f1' : f_X7_isBag_L45 (f_X7_isBag_L4 st (nI s) n) st (nI s) (nI p) bs_F 0 (nI (p + 1)) = some (if bf = true then 1 else 0) := f1
      cases b with
      | false =>
        rw [if_pos (by rfl), f1']
        refine ⟨bf, rfl, ⟨fun g => absurd (f2.mp g).1.1 (by decide), fun g => absurd g.1 (by decide)⟩⟩
      | true =>
        rw [if_neg (by decide), e7_has hl (by omega), Option.bind_some]
        by_cases hb : sp_b s p = 1
        · rw [if_pos hb, if_neg (by decide), e7_isOpen hs h hpp, Option.bind_some]
          by_cases h0 : A (49 + p) = 0
          · rw [if_pos h0, if_neg (by decide), t1']
            refine ⟨bt, rfl, t2.trans ⟨fun g => ⟨rfl, fun k k1 k2 k3 => ?_⟩, fun g => ⟨⟨rfl, fun j j1 j2 j3 j4 => (g.2 p (Nat.le_refl _) hpp j3).2 j (by omega) j2 j4⟩, fun k k1 => g.2 k (by omega)⟩⟩⟩
            by_cases hk : k = p
            · subst hk
              exact ⟨h0, fun j j1 j2 j3 => g.1.2 j (by omega) j2 k3 j3⟩
            · exact g.2 k (by omega) k2 k3
          · rw [if_neg h0, if_pos (by decide), f1']
            refine ⟨bf, rfl, ⟨fun g => absurd (f2.mp g).1.1 (by decide), fun g => absurd (g.2 p (Nat.le_refl _) hpp hb).1 h0⟩⟩
        · rw [if_neg hb, if_pos rfl, t1']
          refine ⟨bt, rfl, t2.trans ⟨fun g => ⟨rfl, fun k k1 k2 k3 => ?_⟩, fun g => ⟨⟨rfl, fun j j1 j2 j3 j4 => absurd j3 hb⟩, fun k k1 => g.2 k (by omega)⟩⟩⟩
          by_cases hk : k = p
          · subst hk
            exact absurd k3 hb
          · exact g.2 k (by omega) k2 k3
theorem e7_isBag {st : Nat → Int32} {A : Nat → Nat} (hs : sp_at st A) (h : sp_iv A) {s : Nat} (hl : s < 256) : f_X7_isBag st (nI s) = some (if sp_bagB A s = true then 1 else 0) := by
  have h3 := h.2.2.2.1
  obtain ⟨b, b1, b2⟩ := e7_isBag_out hs h hl bs_F 0 true (Nat.zero_le _) (by unfold bs_F; omega)
  have b1' : f_X7_isBag st (nI s) = some (if b = true then 1 else 0) := b1
  rw [b1']
  have hbb : b = sp_bagB A s := by
    apply Bool.eq_iff_iff.mpr
    rw [b2, sp_bagB_iff]
    constructor
    · intro g p hp hb
      refine ⟨(g.2 p (Nat.zero_le _) hp hb).1, fun q hq hbq => ?_⟩
      rcases Nat.lt_trichotomy p q with e | e | e
      · exact (g.2 p (Nat.zero_le _) hp hb).2 q e hq hbq
      · subst e
        exact sp_cl_self A p
      · rw [sp_cl_sym]
        exact (g.2 q (Nat.zero_le _) hq hbq).2 p e hp hb
    · intro g
      exact ⟨rfl, fun k _ hk hb => ⟨(g k hk hb).1, fun j _ hj hbj => (g k hk hb).2 j hj hbj⟩⟩
  rw [hbb]
/-- how many bits -/
def sp_pc (s : Nat) : Nat := s % 2 + s / 2 % 2 + s / 4 % 2 + s / 8 % 2 + s / 16 % 2 + s / 32 % 2 + s / 64 % 2 + s / 128 % 2
theorem sp_pc_le (s : Nat) : sp_pc s ≤ 8 := by unfold sp_pc; omega
theorem sp_pc_t : ∀ s, s < 256 → f_J6_bitCount_0f7a4 (nI s) = some (nI (sp_pc s)) := by decide +kernel
theorem sp_pc_d : ∀ s, s < 256 → s = 0 ∨ (s &&& (s - 1) < s ∧ sp_pc (s &&& (s - 1)) + 1 = sp_pc s) := by decide +kernel
theorem e7_ones_L : ∀ (n s m : Nat), s < 256 → sp_pc s < n → f_X7_ones_L4 n (nI m) (nI s) = some (nI (m + sp_pc s)) := by
  intro n
  induction n with
  | zero => intro s m _ h2; omega
  | succ n ih =>
    intro s m h1 h2
    rw [f_X7_ones_L4_s]
    have e : (nI s = (0 : Int32)) = (s = 0) := propext (nI_eq (b := 0) (by omega) (by omega))
    simp only [e]
    rcases sp_pc_d s h1 with hz | ⟨h5, h6⟩
    · subst hz
      rw [if_pos rfl]
      rfl
    · rw [if_neg (by omega)]
      simp only [bs_lits]
      rw [pk_sub (by omega), nm_and, nI_add, ih _ _ (by omega) (by omega), ← h6]
      congr 2
      omega
theorem e7_ones {s : Nat} (h : s < 256) : f_X7_ones (nI s) = some (nI (sp_pc s)) := by
  have e := e7_ones_L bs_F s 0 h (by have := sp_pc_le s; unfold bs_F; omega)
  rw [Nat.zero_add] at e
  exact e
def sp_r (A : Nat → Nat) (s : Nat) : Nat := sp_rd (sp_sum A s (A 3) + A 0) (A 1)
theorem sp_r_le {A : Nat → Nat} (h : sp_iv A) (s : Nat) : sp_r A s ≤ 169 := by
  have h2 := sp_sum_le h s (A 3) (Nat.le_refl _)
  have h3 := h.2.2.2.1
  have h4 := h.1
  unfold sp_r sp_rd
  omega
theorem sp_pow {A : Nat → Nat} (h : sp_iv A) : 2 ^ A 3 ≤ 256 := by
  show 2 ^ A 3 ≤ 2 ^ 8
  exact Nat.pow_le_pow_right (by omega) h.2.2.2.1
/-- how many bags below m read v -/
noncomputable def sp_cnt (A : Nat → Nat) (v : Int32) : Nat → Nat
  | 0 => 0
  | m + 1 => sp_cnt A v m + (if sp_bagB A m = true ∧ nI (sp_r A m) = v then 1 else 0)
def sp_nine (x : Option Nat) : Nat := match x with
  | some b => sp_pc b
  | none => 9
noncomputable def sp_few (A : Nat → Nat) (v : Int32) : Nat → Option Nat
  | 0 => none
  | m + 1 => if sp_bagB A m = true ∧ nI (sp_r A m) = v ∧ sp_pc m < sp_nine (sp_few A v m) then some m else sp_few A v m
theorem sp_few_lt (A : Nat → Nat) (v : Int32) : ∀ m b, sp_few A v m = some b → b < m
  | 0, b, h => by cases h
  | m + 1, b, h => by
    unfold sp_few at h
    split at h
    · cases h
      exact Nat.lt_succ_self m
    · exact Nat.lt_succ_of_lt (sp_few_lt A v m b h)
theorem sp_cnt_le (A : Nat → Nat) (v : Int32) : ∀ m, sp_cnt A v m ≤ m
  | 0 => Nat.le_refl _
  | m + 1 => by
    have := sp_cnt_le A v m
    unfold sp_cnt
    split <;> omega
theorem e2_how_L {A : Nat → Nat} (h : sp_iv A) (h1 : 1 ≤ A 1) {w rv : Nat → Int32} (hw : ∀ p, p < A 3 → w p = nI (sp_v A (p + 1)) ∧ rv p = nI (sp_mk (sp_cl A p) (A 3))) (v : Int32) : ∀ (n m : Nat), m ≤ 2 ^ A 3 → 2 ^ A 3 - m < n → f_X2_howManyReading_L4 w rv (nI (A 3)) (nI (2 ^ A 3)) (nI (A 0)) (nI (A 1)) (nI (sp_mk (fun p => decide (¬ A (49 + p) = 0)) (A 3))) v n (nI (sp_cnt A v m)) (nI m) = some (nI (sp_cnt A v (2 ^ A 3))) := by
  intro n
  have h9 := sp_pow h
  induction n with
  | zero => intro m _ h2; omega
  | succ n ih =>
    intro m g1 g2
    rw [f_X2_howManyReading_L4_s]
    by_cases hm : m = 2 ^ A 3
    · rw [← hm, if_pos (by rw [nI_leI (by omega) (by omega)]; exact Nat.le_refl _)]
    · have ih2 := ih (m + 1) (by omega) (by omega)
      have e : sp_cnt A v (m + 1) = sp_cnt A v m + (if sp_bagB A m = true ∧ nI (sp_r A m) = v then 1 else 0) := rfl
      have e3 : nI m + 1 = nI (m + 1) := nI_1 m
      rw [if_neg (by rw [nI_leI (by omega) (by omega)]; omega), e2_isBag h (fun p hp => (hw p hp).2) (by omega), Option.bind_some, e3]
      rw [e] at ih2
      by_cases hb : sp_bagB A m = true
      · rw [if_pos hb, if_neg (by decide), e2_readingOf h h1 (fun p hp => (hw p hp).1) (by omega), Option.bind_some]
        by_cases hv : nI (sp_r A m) = v
        · rw [if_pos ⟨hb, hv⟩] at ih2
          have hv' : nI (sp_rd (sp_sum A m (A 3) + A 0) (A 1)) = v := hv
          rw [if_pos hv']
          simp only [bs_lits, nI_add]
          exact ih2
        · rw [if_neg (fun z => hv z.2)] at ih2
          have hv' : ¬ nI (sp_rd (sp_sum A m (A 3) + A 0) (A 1)) = v := hv
          rw [if_neg hv']
          simp only [bs_lits, nI_add]
          exact ih2
      · rw [if_neg (fun z => hb z.1)] at ih2
        rw [if_neg hb, if_pos rfl]
        simp only [bs_lits, nI_add]
        exact ih2
theorem e2_few_L {A : Nat → Nat} (h : sp_iv A) (h1 : 1 ≤ A 1) {w rv : Nat → Int32} (hw : ∀ p, p < A 3 → w p = nI (sp_v A (p + 1)) ∧ rv p = nI (sp_mk (sp_cl A p) (A 3))) (v : Int32) : ∀ (n m : Nat), m ≤ 2 ^ A 3 → 2 ^ A 3 - m < n → f_X2_fewestReading_L9 w rv (nI (A 3)) (nI (2 ^ A 3)) (nI (A 0)) (nI (A 1)) (nI (sp_mk (fun p => decide (¬ A (49 + p) = 0)) (A 3))) v n (sp_or (sp_few A v m)) (nI (sp_nine (sp_few A v m))) (nI m) = some (sp_or (sp_few A v (2 ^ A 3))) := by
  intro n
  have h9 := sp_pow h
  induction n with
  | zero => intro m _ h2; omega
  | succ n ih =>
    intro m g1 g2
    rw [f_X2_fewestReading_L9_s]
    by_cases hm : m = 2 ^ A 3
    · rw [← hm, if_pos (by rw [nI_leI (by omega) (by omega)]; exact Nat.le_refl _)]
    · have ih2 := ih (m + 1) (by omega) (by omega)
      have e3 : nI m + 1 = nI (m + 1) := nI_1 m
      have hpm := sp_pc_le m
      have hn9 : sp_nine (sp_few A v m) ≤ 9 := by
        unfold sp_nine
        split
        · have := sp_pc_le ‹Nat›
          omega
        · omega
      rw [if_neg (by rw [nI_leI (by omega) (by omega)]; omega), sp_pc_t m (by omega), Option.bind_some, e3]
      have e : sp_few A v (m + 1) = if sp_bagB A m = true ∧ nI (sp_r A m) = v ∧ sp_pc m < sp_nine (sp_few A v m) then some m else sp_few A v m := rfl
      by_cases hc : sp_nine (sp_few A v m) ≤ sp_pc m
      · rw [if_pos (by rw [nI_leI (by omega) (by omega)]; exact hc)]
        rw [e, if_neg (fun z => by have := z.2.2; omega)] at ih2
        exact ih2
      · rw [if_neg (by rw [nI_leI (by omega) (by omega)]; exact hc), e2_isBag h (fun p hp => (hw p hp).2) (by omega), Option.bind_some]
        by_cases hb : sp_bagB A m = true
        · rw [if_pos hb, if_neg (by decide), e2_readingOf h h1 (fun p hp => (hw p hp).1) (by omega), Option.bind_some]
          by_cases hv : nI (sp_r A m) = v
          · rw [e, if_pos ⟨hb, hv, by omega⟩] at ih2
            have hv' : nI (sp_rd (sp_sum A m (A 3) + A 0) (A 1)) = v := hv
            rw [if_pos hv', Option.bind_some]
            exact ih2
          · rw [e, if_neg (fun z => hv z.2.1)] at ih2
            have hv' : ¬ nI (sp_rd (sp_sum A m (A 3) + A 0) (A 1)) = v := hv
            rw [if_neg hv']
            exact ih2
        · rw [e, if_neg (fun z => hb z.1)] at ih2
          rw [if_neg hb, if_pos rfl]
          exact ih2
theorem e7_bags_L {st : Nat → Int32} {A : Nat → Nat} (hs : sp_at st A) (h : sp_iv A) (h1 : 1 ≤ A 1) (th v w : Int32) : ∀ (n m : Nat), m ≤ 2 ^ A 3 → 2 ^ A 3 - m < n → f_X7_bags_L44 th st v w n (nI (sp_cnt A v m)) (sp_or (sp_few A v m)) (nI m) = some (if w = 0 then nI (sp_cnt A v (2 ^ A 3)) else sp_or (sp_few A v (2 ^ A 3))) := by
  intro n
  have h9 := sp_pow h
  have h3 := h.2.2.2.1
  have eS : (1 : Int32) <<< (st 3 &&& 31) = nI (2 ^ A 3) := by
    rw [hs 3 (by omega)]
    exact nm_shl (A 3) (by omega)
  induction n with
  | zero => intro m _ h2; omega
  | succ n ih =>
    intro m g1 g2
    rw [f_X7_bags_L44_s, eS]
    by_cases hm : m = 2 ^ A 3
    · rw [← hm, if_pos (by rw [nI_leI (by omega) (by omega)]; exact Nat.le_refl _)]
      split <;> rfl
    · have ih2 := ih (m + 1) (by omega) (by omega)
      have e3 : nI m + 1 = nI (m + 1) := nI_1 m
      have ec : sp_cnt A v (m + 1) = sp_cnt A v m + (if sp_bagB A m = true ∧ nI (sp_r A m) = v then 1 else 0) := rfl
      have e : sp_few A v (m + 1) = if sp_bagB A m = true ∧ nI (sp_r A m) = v ∧ sp_pc m < sp_nine (sp_few A v m) then some m else sp_few A v m := rfl
      rw [if_neg (by rw [nI_leI (by omega) (by omega)]; omega), e7_readOf hs h h1 (by omega), Option.bind_some, e3]
      by_cases hv : nI (sp_r A m) = v
      · have hv' : nI (sp_rd (sp_sum A m (A 3) + A 0) (A 1)) = v := hv
        rw [if_pos hv', e7_isBag hs h (by omega), Option.bind_some]
        by_cases hb : sp_bagB A m = true
        · rw [if_pos hb, if_neg (by decide)]
          rw [ec, if_pos ⟨hb, hv⟩] at ih2
          have e4 : nI (sp_cnt A v m) + 1 = nI (sp_cnt A v m + 1) := nI_1 _
          rw [e4]
          cases hf : sp_few A v m with
          | none =>
            rw [e, hf, if_pos ⟨hb, hv, by show sp_pc m < 9; have := sp_pc_le m; omega⟩] at ih2
            rw [if_pos (by decide)]
            exact ih2
          | some b =>
            have hbm := sp_few_lt A v m b hf
            have hp1 := sp_pc_le m
            have hp2 := sp_pc_le b
            rw [if_neg (by exact nI_pos (by omega)), e7_ones (by omega), Option.bind_some]
            show (Option.bind (f_X7_ones (nI b)) _) = _
            rw [e7_ones (by omega), Option.bind_some]
            rw [e, hf] at ih2
            by_cases hlt : sp_pc m < sp_pc b
            · rw [if_pos ⟨hb, hv, hlt⟩] at ih2
              rw [if_neg (by rw [nI_leI (by omega) (by omega)]; omega)]
              exact ih2
            · rw [if_neg (fun z => hlt z.2.2)] at ih2
              rw [if_pos (by rw [nI_leI (by omega) (by omega)]; omega)]
              exact ih2
        · rw [if_neg hb, if_pos rfl]
          rw [ec, if_neg (fun z => hb z.1), e, if_neg (fun z => hb z.1)] at ih2
          exact ih2
      · have hv' : ¬ nI (sp_rd (sp_sum A m (A 3) + A 0) (A 1)) = v := hv
        rw [if_neg hv']
        rw [ec, if_neg (fun z => hv z.2), e, if_neg (fun z => hv z.2.1)] at ih2
        exact ih2
/-- the heaviest of at most k below m (m from 1 on) -/
noncomputable def sp_hv (A : Nat → Nat) (k : Int32) : Nat → Nat
  | 0 => 0
  | m + 1 => if nI (sp_pc m) ≤ k ∧ sp_bagB A m = true ∧ sp_r A (sp_hv A k m) < sp_r A m then m else sp_hv A k m
theorem sp_hv_lt (A : Nat → Nat) (k : Int32) : ∀ m, sp_hv A k m ≤ m
  | 0 => Nat.le_refl _
  | m + 1 => by
    have := sp_hv_lt A k m
    unfold sp_hv
    split <;> omega
theorem e2_heavy_L {A : Nat → Nat} (h : sp_iv A) (h1 : 1 ≤ A 1) {w rv : Nat → Int32} (hw : ∀ p, p < A 3 → w p = nI (sp_v A (p + 1)) ∧ rv p = nI (sp_mk (sp_cl A p) (A 3))) (k : Int32) : ∀ (n m : Nat), m ≤ 2 ^ A 3 → 2 ^ A 3 - m < n → f_X2_heaviestOf_L4 w rv (nI (A 3)) (nI (2 ^ A 3)) (nI (A 0)) (nI (A 1)) (nI (sp_mk (fun p => decide (¬ A (49 + p) = 0)) (A 3))) k n (nI (sp_hv A k m)) (nI m) = some (nI (sp_hv A k (2 ^ A 3))) := by
  intro n
  have h9 := sp_pow h
  induction n with
  | zero => intro m _ h2; omega
  | succ n ih =>
    intro m g1 g2
    rw [f_X2_heaviestOf_L4_s]
    by_cases hm : m = 2 ^ A 3
    · rw [← hm, if_pos (by rw [nI_leI (by omega) (by omega)]; exact Nat.le_refl _)]
    · have ih2 := ih (m + 1) (by omega) (by omega)
      have e3 : nI m + 1 = nI (m + 1) := nI_1 m
      have hhl := sp_hv_lt A k m
      have hr1 := sp_r_le h m
      have hr2 := sp_r_le h (sp_hv A k m)
      have e : sp_hv A k (m + 1) = if nI (sp_pc m) ≤ k ∧ sp_bagB A m = true ∧ sp_r A (sp_hv A k m) < sp_r A m then m else sp_hv A k m := rfl
      rw [if_neg (by rw [nI_leI (by omega) (by omega)]; omega), sp_pc_t m (by omega), Option.bind_some, e3]
      rw [e] at ih2
      by_cases hc : k < nI (sp_pc m)
      · rw [if_pos hc]
        rw [if_neg (fun z => by
          have a1 := z.1
          rw [Int32.le_iff_toInt_le] at a1
          rw [Int32.lt_iff_toInt_lt] at hc
          omega)] at ih2
        exact ih2
      · have hc2 : nI (sp_pc m) ≤ k := by
          rw [Int32.le_iff_toInt_le]
          rw [Int32.lt_iff_toInt_lt] at hc
          omega
        rw [if_neg hc, e2_isBag h (fun p hp => (hw p hp).2) (by omega), Option.bind_some]
        by_cases hb : sp_bagB A m = true
        · rw [if_pos hb, if_neg (by decide), e2_readingOf h h1 (fun p hp => (hw p hp).1) (by omega), Option.bind_some, e2_readingOf h h1 (fun p hp => (hw p hp).1) (by omega), Option.bind_some]
          show (if nI (sp_r A m) ≤ nI (sp_r A (sp_hv A k m)) then _ else _) = _
          by_cases hv : sp_r A (sp_hv A k m) < sp_r A m
          · rw [if_pos ⟨hc2, hb, hv⟩] at ih2
            rw [if_neg (by rw [nI_leI (by omega) (by omega)]; omega)]
            exact ih2
          · rw [if_neg (fun z => hv z.2.2)] at ih2
            rw [if_pos (by rw [nI_leI (by omega) (by omega)]; omega)]
            exact ih2
        · rw [if_neg hb, if_pos rfl]
          rw [if_neg (fun z => hb z.2.1)] at ih2
          exact ih2
theorem e7_heavy_L {st : Nat → Int32} {A : Nat → Nat} (hs : sp_at st A) (h : sp_iv A) (h1 : 1 ≤ A 1) (th k w : Int32) : ∀ (n m : Nat), m ≤ 2 ^ A 3 → 2 ^ A 3 - m < n → f_X7_heaviest_L47 th st k w n (nI (sp_hv A k m)) (nI (sp_r A (sp_hv A k m))) (nI m) = some (if w = 0 then nI (sp_r A (sp_hv A k (2 ^ A 3))) else nI (sp_hv A k (2 ^ A 3))) := by
  intro n
  have h9 := sp_pow h
  have h3 := h.2.2.2.1
  have eS : (1 : Int32) <<< (st 3 &&& 31) = nI (2 ^ A 3) := by
    rw [hs 3 (by omega)]
    exact nm_shl (A 3) (by omega)
  induction n with
  | zero => intro m _ h2; omega
  | succ n ih =>
    intro m g1 g2
    rw [f_X7_heaviest_L47_s, eS]
    by_cases hm : m = 2 ^ A 3
    · rw [← hm, if_pos (by rw [nI_leI (by omega) (by omega)]; exact Nat.le_refl _)]
      split <;> rfl
    · have ih2 := ih (m + 1) (by omega) (by omega)
      have e3 : nI m + 1 = nI (m + 1) := nI_1 m
      have hr1 := sp_r_le h m
      have hr2 := sp_r_le h (sp_hv A k m)
      have e : sp_hv A k (m + 1) = if nI (sp_pc m) ≤ k ∧ sp_bagB A m = true ∧ sp_r A (sp_hv A k m) < sp_r A m then m else sp_hv A k m := rfl
      rw [if_neg (by rw [nI_leI (by omega) (by omega)]; omega), e7_ones (by omega), Option.bind_some, e3]
      rw [e] at ih2
      by_cases hc : k < nI (sp_pc m)
      · rw [if_pos hc]
        rw [if_neg (fun z => by
          have a1 := z.1
          rw [Int32.le_iff_toInt_le] at a1
          rw [Int32.lt_iff_toInt_lt] at hc
          omega)] at ih2
        exact ih2
      · have hc2 : nI (sp_pc m) ≤ k := by
          rw [Int32.le_iff_toInt_le]
          rw [Int32.lt_iff_toInt_lt] at hc
          omega
        rw [if_neg hc, e7_readOf hs h h1 (by omega), Option.bind_some]
        show (if nI (sp_r A m) ≤ nI (sp_r A (sp_hv A k m)) then _ else _) = _
        by_cases hv : sp_r A (sp_hv A k m) < sp_r A m
        · rw [if_neg (by rw [nI_leI (by omega) (by omega)]; omega), e7_isBag hs h (by omega), Option.bind_some]
          by_cases hb : sp_bagB A m = true
          · rw [if_pos ⟨hc2, hb, hv⟩] at ih2
            rw [if_pos hb, if_neg (by decide), Option.bind_some]
            exact ih2
          · rw [if_neg (fun z => hb z.2.1)] at ih2
            rw [if_neg hb, if_pos rfl]
            exact ih2
        · rw [if_neg (fun z => hv z.2.2)] at ih2
          rw [if_pos (by rw [nI_leI (by omega) (by omega)]; omega)]
          exact ih2
