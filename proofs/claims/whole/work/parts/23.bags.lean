/-! sets as numbers below 256; bags -/
theorem nm_or (a b : Nat) : nI a ||| nI b = nI (a ||| b) := by
  apply Int32.toBitVec_inj.1
  show BitVec.ofNat 32 a ||| BitVec.ofNat 32 b = BitVec.ofNat 32 (a ||| b)
  apply BitVec.eq_of_getLsbD_eq
  intro i hi
  simp [hi]
theorem nm_and (a b : Nat) : nI a &&& nI b = nI (a &&& b) := by
  apply Int32.toBitVec_inj.1
  show BitVec.ofNat 32 a &&& BitVec.ofNat 32 b = BitVec.ofNat 32 (a &&& b)
  apply BitVec.eq_of_getLsbD_eq
  intro i hi
  simp [hi]
theorem sp_b_tb (s p : Nat) : (sp_b s p = 1) ↔ s.testBit p = true := by
  unfold sp_b
  rw [Nat.testBit_eq_decide_div_mod_eq, decide_eq_true_eq]
/-- the set of those below n of which P is true -/
def sp_mk (P : Nat → Bool) : Nat → Nat
  | 0 => 0
  | n + 1 => sp_mk P n ||| (if P n = true then 2 ^ n else 0)
theorem sp_mk_tb (P : Nat → Bool) : ∀ n k, (sp_mk P n).testBit k = (decide (k < n) && P k)
  | 0, k => by simp [sp_mk]
  | n + 1, k => by
    unfold sp_mk
    rw [Nat.testBit_or, sp_mk_tb P n k]
    by_cases hP : P n = true
    · rw [if_pos hP, Nat.testBit_two_pow]
      by_cases hk : k = n
      · subst hk
        simp [hP]
      · have h1 : (decide (k < n + 1)) = decide (k < n) := by
          congr 1
          apply propext
          omega
        have h2 : decide (n = k) = false := decide_eq_false (fun e => hk e.symm)
        rw [h1, h2, Bool.or_false]
    · rw [if_neg hP, Nat.zero_testBit, Bool.or_false]
      by_cases hk : k = n
      · subst hk
        simp only [Bool.not_eq_true] at hP
        simp [hP]
      · have h1 : (decide (k < n + 1)) = decide (k < n) := by
          congr 1
          apply propext
          omega
        rw [h1]
theorem sp_mk_lt (P : Nat → Bool) : ∀ n, n ≤ 8 → sp_mk P n < 256
  | 0, _ => Nat.zero_lt_succ 255
  | n + 1, h => by
    have h1 := sp_mk_lt P n (by omega)
    have h2 : (2 : Nat) ^ n < 2 ^ 8 := Nat.pow_lt_pow_right (by omega) (by omega)
    unfold sp_mk
    refine Nat.or_lt_two_pow (n := 8) h1 ?_
    split
    · exact h2
    · decide
theorem sp_and0 (s m : Nat) : (s &&& m = 0) ↔ ∀ k, s.testBit k = true → m.testBit k = false := by
  constructor
  · intro h k h1
    have h2 : (s &&& m).testBit k = false := by rw [h]; exact Nat.zero_testBit k
    rw [Nat.testBit_and, h1, Bool.true_and] at h2
    exact h2
  · intro h
    apply Nat.eq_of_testBit_eq
    intro k
    rw [Nat.testBit_and, Nat.zero_testBit]
    cases h1 : s.testBit k with
    | false => rfl
    | true => rw [h k h1]; rfl
theorem sp_and_lt {s m : Nat} (h : s < 256) : s &&& m < 256 := Nat.lt_of_le_of_lt Nat.and_le_left h
/-- a bag: those in it are open, no two of them clash -/
def sp_bag (A : Nat → Nat) (s : Nat) : Prop := ∀ p, p < A 3 → sp_b s p = 1 → A (49 + p) = 0 ∧ ∀ q, q < A 3 → sp_b s q = 1 → sp_cl A p q = false
noncomputable def sp_bagB (A : Nat → Nat) (s : Nat) : Bool := @decide (sp_bag A s) (Classical.propDecidable _)
theorem sp_bagB_iff (A : Nat → Nat) (s : Nat) : sp_bagB A s = true ↔ sp_bag A s := by
  unfold sp_bagB
  exact @decide_eq_true_iff _ (Classical.propDecidable _)
/-- what a Bags holds once it has looked at a state -/
def sp_sk (A : Nat → Nat) (w rv : Nat → Int32) (pr se wx sk sd : Int32) : Prop := (∀ p, p < A 3 → w p = nI (sp_v A (p + 1)) ∧ rv p = nI (sp_mk (sp_cl A p) (A 3))) ∧ pr = nI (A 3) ∧ se = nI (2 ^ A 3) ∧ wx = nI (A 0) ∧ sk = nI (A 1) ∧ sd = nI (sp_mk (fun p => decide (¬ A (49 + p) = 0)) (A 3))
theorem e2_look_in {kp gv lk kd sd dd dy : Nat → Int32} {A : Nat → Nat} (hc : sp_c A kp gv lk kd sd) (hd : sp_d A dd dy) (h : sp_iv A) (r : (Nat → Int32) → (Nat → Int32) → Int32 → Int32 → Int32 → Option ((Nat → Int32) × (Nat → Int32) × Int32 × Int32 × Int32 × Int32 × Int32)) (w : Nat → Int32) (se wx sk so bw bs bp z : Int32) {p : Nat} (hp : p < A 3) : ∀ (n q : Nat) (rv : Nat → Int32), q ≤ A 3 → A 3 - q < n → rv p = nI (sp_mk (sp_cl A p) q) → ∃ rv' : Nat → Int32, (∀ j, j ≠ p → rv' j = rv j) ∧ rv' p = nI (sp_mk (sp_cl A p) (A 3)) ∧ f_X2_lookAt_L99 r w (nI (A 3)) se wx sk so bw bs bp kp gv dd dy lk kd sd z (nI p) n rv (nI q) = r w rv' so z (nI (p + 1)) := by
  intro n
  have h3 := h.2.2.2.1
  induction n with
  | zero => intro q rv _ h2; omega
  | succ n ih =>
    intro q rv g1 g2 g3
    rw [f_X2_lookAt_L99_s]
    by_cases hq : q = A 3
    · subst hq
      rw [if_pos (by rw [nI_leI (by omega) (by omega)]; exact Nat.le_refl _)]
      refine ⟨rv, fun _ _ => rfl, g3, ?_⟩
      simp only [bs_lits, nI_add]
    · have hpow : (2 : Nat) ^ q < 2 ^ 31 := Nat.pow_lt_pow_right (by omega) (by omega)
      have e : sp_mk (sp_cl A p) (q + 1) = sp_mk (sp_cl A p) q ||| (if sp_cl A p q = true then 2 ^ q else 0) := rfl
      rw [if_neg (by rw [nI_leI (by omega) (by omega)]; omega), if_pos (bs_inN (by omega) (by omega)), e4_doClash hc hd h hp (by omega), Option.bind_some]
      by_cases hb : sp_cl A p q = true
      · rw [if_pos hb, if_neg (by decide), if_pos (bs_inN (by omega) (by omega)), nI_clamp (by omega), g3]
        simp only [bs_lits]
        rw [nm_shl q (by omega), nm_or, nI_add]
        obtain ⟨rv', a1, a2, a3⟩ := ih (q + 1) (upd rv p (nI (sp_mk (sp_cl A p) q ||| 2 ^ q))) (by omega) (by omega) (by rw [pk_us, e, if_pos hb])
        exact ⟨rv', fun j hj => by rw [a1 j hj, pk_un hj], a2, a3⟩
      · rw [if_neg hb, if_pos (by decide), if_pos (bs_inN (by omega) (by omega)), nI_clamp (by omega), g3]
        simp only [bs_lits]
        rw [nm_or, nI_add]
        obtain ⟨rv', a1, a2, a3⟩ := ih (q + 1) (upd rv p (nI (sp_mk (sp_cl A p) q ||| 0))) (by omega) (by omega) (by rw [pk_us, e, if_neg hb])
        exact ⟨rv', fun j hj => by rw [a1 j hj, pk_un hj], a2, a3⟩
theorem e2_look_out {kp gv lk kd sd dd dy : Nat → Int32} {A : Nat → Nat} (hc : sp_c A kp gv lk kd sd) (hd : sp_d A dd dy) (h : sp_iv A) (se wx sk bw bs bp : Int32) : ∀ (n p : Nat) (w rv : Nat → Int32), p ≤ A 3 → A 3 - p < n → (∀ j, j < p → w j = nI (sp_v A (j + 1)) ∧ rv j = nI (sp_mk (sp_cl A j) (A 3))) → ∃ w' rv' : Nat → Int32, (∀ j, j < A 3 → w' j = nI (sp_v A (j + 1)) ∧ rv' j = nI (sp_mk (sp_cl A j) (A 3))) ∧ f_X2_lookAt_L43 (nI (A 3)) se wx sk bw bs bp kp gv dd dy lk kd sd n w rv (nI (sp_mk (fun p => decide (¬ A (49 + p) = 0)) p)) (nI (sp_v A p)) (nI p) = some (w', rv', nI (A 3), se, wx, sk, nI (sp_mk (fun p => decide (¬ A (49 + p) = 0)) (A 3))) := by
  intro n
  have h3 := h.2.2.2.1
  induction n with
  | zero => intro p w rv _ h2; omega
  | succ n ih =>
    intro p w rv g1 g2 g3
    rw [f_X2_lookAt_L43_s]
    by_cases hp : p = A 3
    · subst hp
      rw [if_pos (by rw [nI_leI (by omega) (by omega)]; exact Nat.le_refl _)]
      exact ⟨w, rv, g3, rfl⟩
    · have hpp : p < A 3 := by omega
      have hv := sp_v_le h p g1
      have hr := h.2.2.2.2.2.2 p hpp
      obtain ⟨b1, b2, b3, b4⟩ := hc.2 p hpp
      have ev : sp_v A (p + 1) = sp_st A p (sp_v A p) := rfl
      have e : sp_mk (fun p => decide (¬ A (49 + p) = 0)) (p + 1) = sp_mk (fun p => decide (¬ A (49 + p) = 0)) p ||| (if decide (¬ A (49 + p) = 0) = true then 2 ^ p else 0) := rfl
      rw [if_neg (by rw [nI_leI (by omega) (by omega)]; omega), e4_weightAfter hc h hpp hv, Option.bind_some, if_pos (bs_inN (by omega) (by omega)), e4_isSettled b4 (by omega) hr.2.2.2.2.2.2, Option.bind_some, nI_clamp (by omega)]
      by_cases h0 : A (49 + p) = 0
      · rw [if_pos h0, if_pos rfl, if_pos (bs_inN (by omega) (by omega))]
        obtain ⟨rv', a1, a2, a3⟩ := e2_look_in hc hd h (f_X2_lookAt_L43 (nI (A 3)) se wx sk bw bs bp kp gv dd dy lk kd sd n) (upd w p (nI (sp_st A p (sp_v A p)))) se wx sk (nI (sp_mk (fun p => decide (¬ A (49 + p) = 0)) p) ||| 0) bw bs bp (nI (sp_st A p (sp_v A p))) hpp bs_F 0 (upd rv p 0) (Nat.zero_le _) (by unfold bs_F; omega) (by rw [pk_us]; rfl)
        obtain ⟨w2, rv2, c1, c2⟩ := ih (p + 1) (upd w p (nI (sp_st A p (sp_v A p)))) rv' (by omega) (by omega) (fun j hj => by
          by_cases hjp : j = p
          · subst hjp
            exact ⟨by rw [pk_us, ev], a2⟩
          · exact ⟨by rw [pk_un hjp]; exact (g3 j (by omega)).1, by rw [a1 j hjp, pk_un hjp]; exact (g3 j (by omega)).2⟩)
        refine ⟨w2, rv2, c1, ?_⟩
        rw [e, if_neg (by simp [h0]), ev] at c2
        rw [← c2, ← nm_or]
        exact a3
      · rw [if_neg h0, if_neg (by decide), if_pos (bs_inN (by omega) (by omega))]
        obtain ⟨rv', a1, a2, a3⟩ := e2_look_in hc hd h (f_X2_lookAt_L43 (nI (A 3)) se wx sk bw bs bp kp gv dd dy lk kd sd n) (upd w p (nI (sp_st A p (sp_v A p)))) se wx sk (nI (sp_mk (fun p => decide (¬ A (49 + p) = 0)) p) ||| nI (2 ^ p)) bw bs bp (nI (sp_st A p (sp_v A p))) hpp bs_F 0 (upd rv p 0) (Nat.zero_le _) (by unfold bs_F; omega) (by rw [pk_us]; rfl)
        obtain ⟨w2, rv2, c1, c2⟩ := ih (p + 1) (upd w p (nI (sp_st A p (sp_v A p)))) rv' (by omega) (by omega) (fun j hj => by
          by_cases hjp : j = p
          · subst hjp
            exact ⟨by rw [pk_us, ev], a2⟩
          · exact ⟨by rw [pk_un hjp]; exact (g3 j (by omega)).1, by rw [a1 j hjp, pk_un hjp]; exact (g3 j (by omega)).2⟩)
        refine ⟨w2, rv2, c1, ?_⟩
        rw [e, if_pos (by simp [h0]), ev] at c2
        rw [← c2, ← nm_or]
        have e9 : (1 : Int32) <<< (nI p &&& 31) = nI (2 ^ p) := nm_shl p (by omega)
        rw [e9]
        exact a3
theorem e2_lookAt {kp gv lk kd sd dd dy : Nat → Int32} {A : Nat → Nat} (hc : sp_c A kp gv lk kd sd) (hd : sp_d A dd dy) (h : sp_iv A) (w rv : Nat → Int32) (pr se wx sk so : Int32) : ∃ z : (Nat → Int32) × (Nat → Int32) × Int32 × Int32 × Int32 × Int32 × Int32, f_X2_lookAt w rv pr se wx sk so (nI (A 0)) (nI (A 1)) (nI (A 3)) kp gv dd dy lk kd sd = some z ∧ sp_sk A z.1 z.2.1 z.2.2.1 z.2.2.2.1 z.2.2.2.2.1 z.2.2.2.2.2.1 z.2.2.2.2.2.2 := by
  have h3 := h.2.2.2.1
  obtain ⟨w', rv', a1, a2⟩ := e2_look_out hc hd h ((1 : Int32) <<< (nI (A 3) &&& 31)) (nI (A 0)) (nI (A 1)) (nI (A 0)) (nI (A 1)) (nI (A 3)) bs_F 0 w rv (Nat.zero_le _) (by unfold bs_F; omega) (fun j hj => by omega)
  refine ⟨_, a2, a1, rfl, ?_, rfl, rfl, rfl⟩
  exact nm_shl (A 3) (by omega)
theorem e2_weightOf_L {A : Nat → Nat} (h : sp_iv A) {w : Nat → Int32} (hw : ∀ p, p < A 3 → w p = nI (sp_v A (p + 1))) {s : Nat} (hl : s < 256) : ∀ (n q : Nat), q ≤ A 3 → A 3 - q < n → f_X2_weightOf_L4 w (nI (A 3)) (nI s) n (nI (sp_sum A s q)) (nI q) = some (nI (sp_sum A s (A 3))) := by
  intro n
  have h3 := h.2.2.2.1
  induction n with
  | zero => intro q _ h2; omega
  | succ n ih =>
    intro q h1 h2
    have e : sp_sum A s (q + 1) = sp_sum A s q + (if sp_b s q = 1 then sp_v A (q + 1) else 0) := rfl
    rw [f_X2_weightOf_L4_s]
    by_cases hq : q = A 3
    · rw [hq, if_pos (by rw [nI_leI (by omega) (by omega)]; exact Nat.le_refl _)]
    · have h5 : s / 2 ^ q % 2 < 2 := Nat.mod_lt _ (by omega)
      have ih2 := ih (q + 1) (by omega) (by omega)
      rw [e] at ih2
      rw [if_neg (by rw [nI_leI (by omega) (by omega)]; omega)]
      simp only [bs_lits]
      rw [nm_bit s hl q (by omega)]
      simp (disch := omega) only [nI_eq]
      by_cases hb : sp_b s q = 1
      · have hb2 : s / 2 ^ q % 2 = 1 := hb
        rw [if_pos hb] at ih2
        rw [if_pos hb2, if_pos (bs_inN (by omega) (by omega)), nI_clamp (by omega), hw q (by omega)]
        simp only [nI_add]
        exact ih2
      · have hb2 : ¬ s / 2 ^ q % 2 = 1 := hb
        rw [if_neg hb] at ih2
        rw [if_neg hb2]
        simp only [nI_add]
        exact ih2
theorem e2_weightOf {A : Nat → Nat} (h : sp_iv A) {w : Nat → Int32} (hw : ∀ p, p < A 3 → w p = nI (sp_v A (p + 1))) {s : Nat} (hl : s < 256) : f_X2_weightOf w (nI (A 3)) (nI s) = some (nI (sp_sum A s (A 3))) := e2_weightOf_L h hw hl bs_F 0 (Nat.zero_le _) (by have := h.2.2.2.1; unfold bs_F; omega)
theorem e2_readingOf {A : Nat → Nat} (h : sp_iv A) (h1 : 1 ≤ A 1) {w : Nat → Int32} (hw : ∀ p, p < A 3 → w p = nI (sp_v A (p + 1))) {s : Nat} (hl : s < 256) : f_X2_readingOf w (nI (A 3)) (nI (A 0)) (nI (A 1)) (nI s) = some (nI (sp_rd (sp_sum A s (A 3) + A 0) (A 1))) := by
  have h2 := sp_sum_le h s (A 3) (Nat.le_refl _)
  have h3 := h.2.2.2.1
  have h4 := h.1
  have h5 := h.2.1
  unfold f_X2_readingOf
  rw [e2_weightOf h hw hl, Option.bind_some, nI_add, e6_reading (by omega) (by omega) (by omega)]
  rfl
theorem e2_isBag_L {A : Nat → Nat} (h : sp_iv A) {rv : Nat → Int32} (hr : ∀ p, p < A 3 → rv p = nI (sp_mk (sp_cl A p) (A 3))) (so : Int32) {s : Nat} (hl : s < 256) : ∀ (n q : Nat), q ≤ A 3 → A 3 - q < n → ∃ b : Bool, f_X2_isBag_L13 rv (nI (A 3)) so (nI s) n (nI q) = some (if b = true then 1 else 0) ∧ (b = true ↔ ∀ p, q ≤ p → p < A 3 → sp_b s p = 1 → ∀ j, j < A 3 → sp_b s j = 1 → sp_cl A p j = false) := by
  intro n
  have h3 := h.2.2.2.1
  induction n with
  | zero => intro q _ h2; omega
  | succ n ih =>
    intro q h1 h2
    rw [f_X2_isBag_L13_s]
    by_cases hq : q = A 3
    · rw [hq, if_pos (by rw [nI_leI (by omega) (by omega)]; exact Nat.le_refl _)]
      exact ⟨true, rfl, ⟨fun _ p a b => by omega, fun _ => rfl⟩⟩
    · have h5 : s / 2 ^ q % 2 < 2 := Nat.mod_lt _ (by omega)
      obtain ⟨b, b1, b2⟩ := ih (q + 1) (by omega) (by omega)
      rw [if_neg (by rw [nI_leI (by omega) (by omega)]; omega)]
      have e1 : ((nI s >>> (nI q &&& 31)) &&& 1) = nI (s / 2 ^ q % 2) := nm_bit s hl q (by omega)
      have e2 : (nI (s / 2 ^ q % 2) = (1 : Int32)) = (s / 2 ^ q % 2 = 1) := propext (nI_eq (b := 1) (by omega) (by omega))
      have e3 : nI q + 1 = nI (q + 1) := nI_1 q
      rw [e1, e3]
      simp only [e2]
      by_cases hb : sp_b s q = 1
      · have hb2 : s / 2 ^ q % 2 = 1 := hb
        have ha := sp_and_lt (m := sp_mk (sp_cl A q) (A 3)) hl
        have e4 : (nI (s &&& sp_mk (sp_cl A q) (A 3)) = (0 : Int32)) = (s &&& sp_mk (sp_cl A q) (A 3) = 0) := propext (nI_eq (b := 0) (by omega) (by omega))
        rw [if_pos hb2, if_pos (bs_inN (by omega) (by omega)), nI_clamp (by omega), hr q (by omega), nm_and]
        simp only [e4]
        by_cases hz : s &&& sp_mk (sp_cl A q) (A 3) = 0
        · rw [if_pos hz]
          refine ⟨b, b1, b2.trans ⟨fun g p g1 g2 g3 j j1 j2 => ?_, fun g p g1 => g p (by omega)⟩⟩
          by_cases hpq : p = q
          · subst hpq
            have := (sp_and0 _ _).mp hz j ((sp_b_tb s j).mp j2)
            rw [sp_mk_tb, decide_eq_true j1, Bool.true_and] at this
            exact this
          · exact g p (by omega) g2 g3 j j1 j2
        · rw [if_neg hz]
          refine ⟨false, rfl, ⟨fun g => absurd g (by decide), fun g => ?_⟩⟩
          exact absurd ((sp_and0 _ _).mpr (fun k hk => by
            rw [sp_mk_tb]
            by_cases hk8 : k < A 3
            · rw [g q (Nat.le_refl _) (by omega) hb k hk8 ((sp_b_tb s k).mpr hk), Bool.and_false]
            · rw [decide_eq_false hk8, Bool.false_and])) hz
      · have hb2 : ¬ s / 2 ^ q % 2 = 1 := hb
        rw [if_neg hb2]
        refine ⟨b, b1, b2.trans ⟨fun g p g1 g2 g3 => ?_, fun g p g1 => g p (by omega)⟩⟩
        by_cases hpq : p = q
        · subst hpq
          exact absurd g3 hb
        · exact g p (by omega) g2 g3
theorem e2_isBag {A : Nat → Nat} (h : sp_iv A) {rv : Nat → Int32} (hr : ∀ p, p < A 3 → rv p = nI (sp_mk (sp_cl A p) (A 3))) {s : Nat} (hl : s < 256) : f_X2_isBag rv (nI (A 3)) (nI (sp_mk (fun p => decide (¬ A (49 + p) = 0)) (A 3))) (nI s) = some (if sp_bagB A s = true then 1 else 0) := by
  have h3 := h.2.2.2.1
  have ha := sp_and_lt (m := sp_mk (fun p => decide (¬ A (49 + p) = 0)) (A 3)) hl
  have e4 : (nI (s &&& sp_mk (fun p => decide (¬ A (49 + p) = 0)) (A 3)) = (0 : Int32)) = (s &&& sp_mk (fun p => decide (¬ A (49 + p) = 0)) (A 3) = 0) := propext (nI_eq (b := 0) (by omega) (by omega))
  unfold f_X2_isBag
  rw [nm_and]
  simp only [e4]
  by_cases hz : s &&& sp_mk (fun p => decide (¬ A (49 + p) = 0)) (A 3) = 0
  · rw [if_pos hz]
    obtain ⟨b, b1, b2⟩ := e2_isBag_L h hr (nI (sp_mk (fun p => decide (¬ A (49 + p) = 0)) (A 3))) hl bs_F 0 (Nat.zero_le _) (by unfold bs_F; omega)
    have b1' : f_X2_isBag_L13 rv (nI (A 3)) (nI (sp_mk (fun p => decide (¬ A (49 + p) = 0)) (A 3))) (nI s) bs_F 0 = some (if b = true then 1 else 0) := b1
    rw [b1']
    have hbb : b = sp_bagB A s := by
      apply Bool.eq_iff_iff.mpr
      rw [b2, sp_bagB_iff]
      constructor
      · intro g p hp hb
        refine ⟨?_, g p (Nat.zero_le _) hp hb⟩
        have := (sp_and0 _ _).mp hz p ((sp_b_tb s p).mp hb)
        rw [sp_mk_tb, decide_eq_true hp, Bool.true_and] at this
        have := of_decide_eq_false this
        omega
      · intro g p _ hp hb
        exact (g p hp hb).2
    rw [hbb]
  · rw [if_neg hz]
    have : sp_bagB A s = false := by
      apply Bool.eq_false_iff.mpr
      intro g
      rw [sp_bagB_iff] at g
      exact hz ((sp_and0 _ _).mpr (fun k hk => by
        rw [sp_mk_tb]
        by_cases hk8 : k < A 3
        · have := (g k hk8 ((sp_b_tb s k).mpr hk)).1
          simp [this]
        · rw [decide_eq_false hk8, Bool.false_and]))
    rw [this]
    rfl
