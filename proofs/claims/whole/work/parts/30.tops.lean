/-! one row a method: the class's and the model's answers agree -/
def R_N (A : Nat → Nat) (told wax stick givers promises pan : Int32) (kp gv dd dy lk kd sd : Nat → Int32) (th : Int32) (st : Nat → Int32) : Prop := sp_at st A ∧ sp_iv A ∧ sp_c A kp gv lk kd sd ∧ sp_d A dd dy ∧ wax = nI (A 0) ∧ stick = nI (A 1) ∧ givers = nI (A 2) ∧ promises = nI (A 3) ∧ pan = nI (A 4) ∧ told = th ∧ ((th = 0 ∧ A 3 = 0) ∨ (th = 1 ∧ 1 ≤ A 1))
theorem tp_nat {x : Int32} {n : Nat} (h : 0 ≤ x.toInt ∧ x.toInt < n) : ∃ k, k < n ∧ k < 2 ^ 31 ∧ x = nI k := by
  obtain ⟨k, k1, k2, k3⟩ := sm_nat (x := x) (n := (n : Int) - 1) ⟨h.1, by omega⟩
  exact ⟨k, by omega, k2, k3⟩
theorem tp_in {k n m : Nat} (h : k ≤ n) : 0 ≤ ((k : Nat) : Int) ∧ ((k : Nat) : Int) ≤ (n : Int) := ⟨by omega, by omega⟩
theorem tp_laid {s p : Nat} (hs : s < 256) (hp : p < 8) : (nI s >>> (nI p &&& 31)) &&& 1 = nI (sp_b s p) := nm_bit s hs p hp
theorem tp_b (s p : Nat) : sp_b s p = 0 ∨ sp_b s p = 1 := by
  unfold sp_b
  omega
theorem tp_isLaid {s p : Nat} (hs : s < 256) (hp : p < 8) : f_X4_isLaid (nI s) (nI p) = some (nI (sp_b s p)) := by
  unfold f_X4_isLaid
  rw [tp_laid hs hp]
  rcases tp_b s p with e | e <;> rw [e] <;> rfl
theorem fd_or00 (x : Int32) : x + 0 = x := by simp
theorem tp_same {α : Type} {x : Option α} (h : x.isSome = true) : ∃ r, x = some r ∧ x = some r := by
  cases x with
  | none => cases h
  | some r => exact ⟨r, rfl, rfl⟩
section TQ
variable {A : Nat → Nat} {told wax stick givers promises pan : Int32} {kp gv dd dy lk kd sd : Nat → Int32} {th : Int32} {st : Nat → Int32}
theorem tq_keeps (h : R_N A told wax stick givers promises pan kp gv dd dy lk kd sd th st) (p1 : Int32) : ∃ r, f_X6_keeps givers kp p1 = some r ∧ f_X7_keeps st p1 = some r := by
  obtain ⟨hs, hi, hc, hd, rfl, rfl, rfl, rfl, rfl, rfl, ht⟩ := h
  have h2 := hi.2.2.1
  unfold f_X6_keeps f_X7_keeps
  rw [e6_isGiver (by omega), e7_isGiver hs hi]
  simp only [Option.bind_some, sm_z]
  by_cases hg : 0 ≤ p1.toInt ∧ p1.toInt < (A 2 : Nat)
  · obtain ⟨k, k1, k2, rfl⟩ := tp_nat hg
    have e5 : (5 : Int32) + nI k = nI (5 + k) := nI_add 5 k
    rw [if_neg (not_not_intro hg), if_neg (not_not_intro hg), if_pos (bs_inN (by omega) (by omega)), e5, nI_clamp k2, hc.1 k k1, if_pos (bs_inN (by omega) (by omega)), nI_clamp (by omega), hs _ (by omega)]
    exact ⟨_, rfl, rfl⟩
  · rw [if_pos hg, if_pos hg]
    exact ⟨_, rfl, rfl⟩
theorem tq_kind (h : R_N A told wax stick givers promises pan kp gv dd dy lk kd sd th st) (p1 : Int32) : ∃ r, f_X6_kind promises kd p1 = some r ∧ f_X7_kind st p1 = some r := by
  obtain ⟨hs, hi, hc, hd, rfl, rfl, rfl, rfl, rfl, rfl, ht⟩ := h
  have h3 := hi.2.2.2.1
  unfold f_X6_kind f_X7_kind
  rw [e6_isPromise (by omega), e7_isPromise hs hi]
  simp only [Option.bind_some, sm_z]
  by_cases hg : 0 ≤ p1.toInt ∧ p1.toInt < (A 3 : Nat)
  · obtain ⟨k, k1, k2, rfl⟩ := tp_nat hg
    have e9 : (9 : Int32) + nI k = nI (9 + k) := nI_add 9 k
    rw [if_neg (not_not_intro hg), if_neg (not_not_intro hg), if_pos (bs_inN (by omega) (by omega)), e9, nI_clamp k2, (hc.2 k k1).2.2.1, if_pos (bs_inN (by omega) (by omega)), nI_clamp (by omega), hs _ (by omega)]
    exact ⟨_, rfl, rfl⟩
  · rw [if_pos hg, if_pos hg]
    exact ⟨_, rfl, rfl⟩
theorem tq_promise (h : R_N A told wax stick givers promises pan kp gv dd dy lk kd sd th st) (p1 p2 : Int32) : ∃ r, f_X6_promise promises pan kp gv dd dy lk kd sd p1 p2 = some r ∧ f_X7_promise st p1 p2 = some r := by
  obtain ⟨hs, hi, hc, hd, rfl, rfl, rfl, rfl, rfl, rfl, ht⟩ := h
  have h3 := hi.2.2.2.1
  have h4 := hi.2.2.2.2.1
  unfold f_X6_promise f_X7_promise
  rw [e6_isPromise (by omega), e7_isPromise hs hi]
  simp only [Option.bind_some, sm_z]
  by_cases hg : 0 ≤ p1.toInt ∧ p1.toInt < (A 3 : Nat)
  · obtain ⟨p, k1, k2, rfl⟩ := tp_nat hg
    obtain ⟨c1, c2, c3, c4⟩ := hc.2 p k1
    obtain ⟨d1, d2⟩ := hd p k1
    have e17 : (17 : Int32) + nI p = nI (17 + p) := nI_add 17 p
    have e25 : (25 : Int32) + nI p = nI (25 + p) := nI_add 25 p
    have e33 : (33 : Int32) + nI p = nI (33 + p) := nI_add 33 p
    have e41 : (41 : Int32) + nI p = nI (41 + p) := nI_add 41 p
    have e49 : (49 : Int32) + nI p = nI (49 + p) := nI_add 49 p
    have b8 : bs_in (nI p) 8 = true := bs_inN (by omega) (by omega)
    have b17 : bs_in (nI (17 + p)) 57 = true := bs_inN (by omega) (by omega)
    have b25 : bs_in (nI (25 + p)) 57 = true := bs_inN (by omega) (by omega)
    have b33 : bs_in (nI (33 + p)) 57 = true := bs_inN (by omega) (by omega)
    have b41 : bs_in (nI (41 + p)) 57 = true := bs_inN (by omega) (by omega)
    have b49 : bs_in (nI (49 + p)) 57 = true := bs_inN (by omega) (by omega)
    rw [if_neg (not_not_intro hg), if_neg (not_not_intro hg), e17, e25, e33, e41, e49, tp_isLaid h4 (by omega), hs 4 (by omega), tp_laid h4 (by omega), e4_weightOf hc hi k1, e7_weightOf hs hi k1]
    simp only [b8, b17, b25, b33, b41, b49, if_true, Option.bind_some]
    rw [nI_clamp (n := p) (by omega), nI_clamp (n := 17 + p) (by omega), nI_clamp (n := 25 + p) (by omega), nI_clamp (n := 33 + p) (by omega), nI_clamp (n := 41 + p) (by omega), nI_clamp (n := 49 + p) (by omega), hs (17 + p) (by omega), hs (25 + p) (by omega), hs (33 + p) (by omega), hs (41 + p) (by omega), hs (49 + p) (by omega), c1, c2, c4, d1, d2]
    have e : (if nI (sp_b (A 4) p) = (0 : Int32) then some (0 : Int32) else some 1) = some (nI (sp_b (A 4) p)) := by
      rcases tp_b (A 4) p with e | e <;> rw [e] <;> rfl
    rw [e]
    refine tp_same ?_
    repeat' split
    all_goals rfl
  · rw [if_pos hg, if_pos hg]
    exact ⟨_, rfl, rfl⟩
theorem tq_reads (h : R_N A told wax stick givers promises pan kp gv dd dy lk kd sd th st) (p1 : Int32) : ∃ r, f_X6_reads told wax stick promises kp gv lk kd sd p1 = some r ∧ f_X7_reads th st p1 = some r := by
  obtain ⟨hs, hi, hc, hd, rfl, rfl, rfl, rfl, rfl, rfl, ht⟩ := h
  have h3 := hi.2.2.2.1
  unfold f_X6_reads f_X7_reads
  rcases ht with ⟨rfl, h0⟩ | ⟨rfl, h1⟩
  · exact ⟨_, rfl, rfl⟩
  rw [if_neg (by decide), if_neg (by decide), fd_isSet4 h3, fd_isSet7 hs hi]
  simp only [Option.bind_some, sm_z]
  by_cases hg : 0 ≤ p1.toInt ∧ p1.toInt < (2 ^ A 3 : Nat)
  · obtain ⟨s, s1, rfl⟩ := fd_nat hi hg
    rw [if_neg (not_not_intro hg), if_neg (not_not_intro hg), e4_readingOf hc hi h1 s1, e7_readOf hs hi h1 s1]
    exact ⟨_, rfl, rfl⟩
  · rw [if_pos hg, if_pos hg]
    exact ⟨_, rfl, rfl⟩
theorem tq_clash (h : R_N A told wax stick givers promises pan kp gv dd dy lk kd sd th st) (p1 : Int32) : ∃ r, f_X6_clash told promises gv dd dy sd p1 = some r ∧ f_X7_clash th st p1 = some r := by
  obtain ⟨hs, hi, hc, hd, rfl, rfl, rfl, rfl, rfl, rfl, ht⟩ := h
  unfold f_X6_clash f_X7_clash
  by_cases h0 : told = 0
  · rw [if_pos h0, if_pos h0]
    exact ⟨_, rfl, rfl⟩
  have e0 : (0 : Int64).toInt = 0 := by decide
  have e1 : (1 : Int64).toInt = 1 := by decide
  rw [if_neg h0, if_neg h0, e6_isEither, e7_in, sm_t64, e0, e1]
  simp only [Option.bind_some, sm_z]
  by_cases hg : 0 ≤ p1.toInt ∧ p1.toInt ≤ 1
  · rw [if_neg (not_not_intro hg), if_neg (not_not_intro hg), e4_howManyPairs hc hd hi, e4_firstPair hc hd hi, e7_clash hs hi]
    by_cases hz : p1 = 0
    · rw [if_pos hz, if_pos hz]
      exact ⟨_, rfl, rfl⟩
    · rw [if_neg hz, if_neg hz]
      exact ⟨_, rfl, rfl⟩
  · rw [if_pos hg, if_pos hg]
    exact ⟨_, rfl, rfl⟩
theorem tq_bags (h : R_N A told wax stick givers promises pan kp gv dd dy lk kd sd th st) (w rv : Nat → Int32) (pr se wx sk so : Int32) (p1 p2 : Int32) : ∃ z r, f_X6_bags told wax stick promises kp gv dd dy lk kd sd w rv pr se wx sk so p1 p2 = some z ∧ z.1 = r ∧ f_X7_bags th st p1 p2 = some r := by
  obtain ⟨hs, hi, hc, hd, rfl, rfl, rfl, rfl, rfl, rfl, ht⟩ := h
  unfold f_X6_bags f_X7_bags
  rcases ht with ⟨rfl, h0⟩ | ⟨rfl, h1⟩
  · exact ⟨_, _, rfl, rfl, rfl⟩
  have e0 : (0 : Int64).toInt = 0 := by decide
  have e1 : (1 : Int64).toInt = 1 := by decide
  have e2 : (200 : Int64).toInt = 200 := by decide
  have i0 : (0 : Int32).toInt = 0 := by decide
  have i2 : (200 : Int32).toInt = 200 := by decide
  rw [if_neg (by decide), if_neg (by decide), e6_isWithin, i0, i2, e6_isEither, e7_in, e7_in, sm_t64, sm_t64, e0, e1, e2]
  simp only [Option.bind_some, sm_z]
  by_cases hg : 0 ≤ p1.toInt ∧ p1.toInt ≤ 200
  · rw [if_neg (not_not_intro hg), if_neg (not_not_intro hg)]
    by_cases hg2 : 0 ≤ p2.toInt ∧ p2.toInt ≤ 1
    · obtain ⟨⟨zw, zr, zp, zs, zx, zk, zo⟩, z1, z2⟩ := e2_lookAt hc hd hi w rv pr se wx sk so
      obtain ⟨q1, q2, q3, q4, q5, q6⟩ := z2
      dsimp only at q1 q2 q3 q4 q5 q6
      subst q2 q3 q4 q5 q6
      have h3 := hi.2.2.2.1
      have hpw := sp_pow hi
      have a1 := e2_how_L hi h1 q1 p1 bs_F 0 (Nat.zero_le _) (by unfold bs_F; omega)
      have a2 := e2_few_L hi h1 q1 p1 bs_F 0 (Nat.zero_le _) (by unfold bs_F; omega)
      have a3 := e7_bags_L hs hi h1 1 p1 p2 bs_F 0 (Nat.zero_le _) (by unfold bs_F; omega)
      have a1' : f_X2_howManyReading zw zr (nI (A 3)) (nI (2 ^ A 3)) (nI (A 0)) (nI (A 1)) (nI (sp_mk (fun p => decide (¬ A (49 + p) = 0)) (A 3))) p1 = some (nI (sp_cnt A p1 (2 ^ A 3))) := a1
      have a2' : f_X2_fewestReading zw zr (nI (A 3)) (nI (2 ^ A 3)) (nI (A 0)) (nI (A 1)) (nI (sp_mk (fun p => decide (¬ A (49 + p) = 0)) (A 3))) p1 = some (sp_or (sp_few A p1 (2 ^ A 3))) := a2
      have a3' : f_X7_bags_L44 1 st p1 p2 bs_F 0 (-1000000) 0 = some (if p2 = 0 then nI (sp_cnt A p1 (2 ^ A 3)) else sp_or (sp_few A p1 (2 ^ A 3))) := a3
      rw [if_neg (not_not_intro hg2), if_neg (not_not_intro hg2), z1, Option.bind_some, a3']
      dsimp only
      rw [a1', a2']
      by_cases hz : p2 = 0
      · rw [if_pos hz, if_pos hz]
        exact ⟨_, _, rfl, rfl, rfl⟩
      · rw [if_neg hz, if_neg hz]
        exact ⟨_, _, rfl, rfl, rfl⟩
    · rw [if_pos hg2, if_pos hg2]
      exact ⟨_, _, rfl, rfl, rfl⟩
  · rw [if_pos hg, if_pos hg]
    exact ⟨_, _, rfl, rfl, rfl⟩
theorem tq_heaviest (h : R_N A told wax stick givers promises pan kp gv dd dy lk kd sd th st) (w rv : Nat → Int32) (pr se wx sk so : Int32) (p1 p2 : Int32) : ∃ z r, f_X6_heaviest told wax stick promises kp gv dd dy lk kd sd w rv pr se wx sk so p1 p2 = some z ∧ z.1 = r ∧ f_X7_heaviest th st p1 p2 = some r := by
  obtain ⟨hs, hi, hc, hd, rfl, rfl, rfl, rfl, rfl, rfl, ht⟩ := h
  unfold f_X6_heaviest f_X7_heaviest
  rcases ht with ⟨rfl, h0⟩ | ⟨rfl, h1⟩
  · exact ⟨_, _, rfl, rfl, rfl⟩
  have e0 : (0 : Int64).toInt = 0 := by decide
  have e1 : (1 : Int64).toInt = 1 := by decide
  have e2 : (8 : Int64).toInt = 8 := by decide
  have i0 : (0 : Int32).toInt = 0 := by decide
  have i2 : (8 : Int32).toInt = 8 := by decide
  rw [if_neg (by decide), if_neg (by decide), e6_isWithin, i0, i2, e6_isEither, e7_in, e7_in, sm_t64, sm_t64, e0, e1, e2]
  simp only [Option.bind_some, sm_z]
  by_cases hg : 0 ≤ p1.toInt ∧ p1.toInt ≤ 8
  · rw [if_neg (not_not_intro hg), if_neg (not_not_intro hg)]
    by_cases hg2 : 0 ≤ p2.toInt ∧ p2.toInt ≤ 1
    · obtain ⟨⟨zw, zr, zp, zs, zx, zk, zo⟩, z1, z2⟩ := e2_lookAt hc hd hi w rv pr se wx sk so
      obtain ⟨q1, q2, q3, q4, q5, q6⟩ := z2
      dsimp only at q1 q2 q3 q4 q5 q6
      subst q2 q3 q4 q5 q6
      have h3 := hi.2.2.2.1
      have hpw := sp_pow hi
      have hp1 : 0 < 2 ^ A 3 := Nat.two_pow_pos _
      have hv1 : sp_hv A p1 1 = 0 := by have := sp_hv_lt A p1 1; unfold sp_hv; split <;> rfl
      have a1 := e2_heavy_L hi h1 q1 p1 bs_F 1 (by omega) (by unfold bs_F; omega)
      have a3 := e7_heavy_L hs hi h1 1 p1 p2 bs_F 1 (by omega) (by unfold bs_F; omega)
      rw [hv1] at a1 a3
      have a1' : f_X2_heaviestOf zw zr (nI (A 3)) (nI (2 ^ A 3)) (nI (A 0)) (nI (A 1)) (nI (sp_mk (fun p => decide (¬ A (49 + p) = 0)) (A 3))) p1 = some (nI (sp_hv A p1 (2 ^ A 3))) := a1
      have a3' : f_X7_heaviest_L47 1 st p1 p2 bs_F 0 (nI (sp_r A 0)) 1 = some (if p2 = 0 then nI (sp_r A (sp_hv A p1 (2 ^ A 3))) else nI (sp_hv A p1 (2 ^ A 3))) := a3
      have hlt : sp_hv A p1 (2 ^ A 3) < 256 := by
        have hmm : ∀ m, 0 < m → sp_hv A p1 m < m := by
          intro m hm
          induction m with
          | zero => omega
          | succ m ih =>
            unfold sp_hv
            split
            · omega
            · rcases Nat.eq_zero_or_pos m with rfl | h0
              · exact Nat.one_pos
              · have := ih h0
                omega
        have := hmm _ hp1
        omega
      have a4 : f_X7_readOf st 0 = some (nI (sp_r A 0)) := e7_readOf hs hi h1 (s := 0) (by omega)
      have a5 := e2_readingOf hi h1 (fun p hp => (q1 p hp).1) hlt
      rw [if_neg (not_not_intro hg2), if_neg (not_not_intro hg2), z1, Option.bind_some, a4, Option.bind_some, a3']
      dsimp only
      rw [a1', Option.bind_some, a5]
      by_cases hz : p2 = 0
      · rw [if_pos hz, if_pos hz]
        exact ⟨_, _, rfl, rfl, rfl⟩
      · rw [if_neg hz, if_neg hz]
        exact ⟨_, _, rfl, rfl, rfl⟩
    · rw [if_pos hg2, if_pos hg2]
      exact ⟨_, _, rfl, rfl, rfl⟩
  · rw [if_pos hg, if_pos hg]
    exact ⟨_, _, rfl, rfl, rfl⟩
theorem tq_price (h : R_N A told wax stick givers promises pan kp gv dd dy lk kd sd th st) (p1 p2 : Int32) : ∃ r, f_X6_price promises kp gv lk kd sd p1 p2 = some r ∧ f_X7_price st p1 p2 = some r := by
  obtain ⟨hs, hi, hc, hd, rfl, rfl, rfl, rfl, rfl, rfl, ht⟩ := h
  have h3 := hi.2.2.2.1
  unfold f_X6_price f_X7_price
  have e0 : (0 : Int64).toInt = 0 := by decide
  have e2 : (999 : Int64).toInt = 999 := by decide
  have i0 : (0 : Int32).toInt = 0 := by decide
  have i2 : (999 : Int32).toInt = 999 := by decide
  rw [e6_isPromise (by omega), e7_isPromise hs hi, e6_isWithin, e7_in, sm_t64, e0, e2, i0, i2]
  simp only [Option.bind_some, sm_z]
  by_cases hg : 0 ≤ p1.toInt ∧ p1.toInt < (A 3 : Nat)
  · obtain ⟨p, k1, k2, rfl⟩ := tp_nat hg
    rw [if_neg (not_not_intro hg), if_neg (not_not_intro hg)]
    by_cases hg2 : 0 ≤ p2.toInt ∧ p2.toInt ≤ 999
    · rw [if_neg (not_not_intro hg2), if_neg (not_not_intro hg2), e4_weightOf hc hi k1, e7_weightOf hs hi k1]
      exact ⟨_, rfl, rfl⟩
    · rw [if_pos hg2, if_pos hg2]
      exact ⟨_, rfl, rfl⟩
  · rw [if_pos hg, if_pos hg]
    exact ⟨_, rfl, rfl⟩
theorem tp_prices (hs : sp_at st A) (hi : sp_iv A) (hc : sp_c A kp gv lk kd sd) (gi g p2 : Int32) : ∀ (n q : Nat) (acc : Int32), q ≤ A 3 → A 3 - q < n → ∃ r, f_X6_prices_L27 gi (nI (A 3)) kp gv lk kd sd g p2 n acc (nI q) = some r ∧ f_X7_prices_L28 st g p2 n acc (nI q) = some r := by
  intro n
  have h3 := hi.2.2.2.1
  induction n with
  | zero => intro q _ _ h2; omega
  | succ n ih =>
    intro q acc h1 h2
    rw [f_X6_prices_L27_s, f_X7_prices_L28_s, hs 3 (by omega)]
    have e9 : (nI (A 3) ≤ nI q) = (A 3 ≤ q) := propext (nI_leI (by omega) (by omega))
    have e5 : nI q + 1 = nI (q + 1) := nI_1 q
    have e17 : (17 : Int32) + nI q = nI (17 + q) := nI_add 17 q
    rw [e5, e17, fd_or00]
    simp only [e9]
    by_cases hq : q = A 3
    · subst hq
      rw [if_pos (Nat.le_refl _), if_pos (Nat.le_refl _)]
      exact ⟨_, rfl, rfl⟩
    · have hqq : q < A 3 := by omega
      obtain ⟨c1, c2, c3, c4⟩ := hc.2 q hqq
      have hr := hi.2.2.2.2.2.2 q hqq
      have hnq : ¬ A 3 ≤ q := by omega
      have b8 : bs_in (nI q) 8 = true := bs_inN (by omega) (by omega)
      have b17 : bs_in (nI (17 + q)) 57 = true := bs_inN (by omega) (by omega)
      rw [if_neg hnq, if_neg hnq, if_pos b8, nI_clamp (n := q) (by omega), c1, e4_isSettled c4 (by omega) hr.2.2.2.2.2.2, e7_isOpen hs hi hqq, Option.bind_some, Option.bind_some, e4_weightOf hc hi hqq, e7_weightOf hs hi hqq, Option.bind_some, Option.bind_some, nI_clamp (n := 17 + q) (by omega), hs (17 + q) (by omega)]
      by_cases hz : A (49 + q) = 0
      · rw [if_pos hz, if_pos hz, if_pos rfl, if_neg (show ¬ nI 1 = 0 by decide), if_pos b17]
        by_cases hv : nI (A (17 + q)) = g
        · rw [if_pos hv, if_pos hv]
          exact ih (q + 1) _ (by omega) (by omega)
        · rw [if_neg hv, if_neg hv]
          exact ih (q + 1) _ (by omega) (by omega)
      · rw [if_neg hz, if_neg hz, if_neg (show ¬ (1 : Int32) = 0 by decide), if_pos (show nI 0 = 0 by decide)]
        obtain ⟨r, r1, r2⟩ := ih (q + 1) acc (by omega) (by omega)
        refine ⟨r, ?_, r2⟩
        by_cases hv : nI (A (17 + q)) = g
        · rw [if_pos hv]
          exact r1
        · rw [if_neg hv]
          exact r1
theorem tq_prices (h : R_N A told wax stick givers promises pan kp gv dd dy lk kd sd th st) (p1 p2 : Int32) : ∃ r, f_X6_prices givers promises kp gv lk kd sd p1 p2 = some r ∧ f_X7_prices st p1 p2 = some r := by
  obtain ⟨hs, hi, hc, hd, rfl, rfl, rfl, rfl, rfl, rfl, ht⟩ := h
  have h3 := hi.2.2.2.1
  have h2 := hi.2.2.1
  unfold f_X6_prices f_X7_prices
  have e0 : (0 : Int64).toInt = 0 := by decide
  have e2 : (999 : Int64).toInt = 999 := by decide
  have i0 : (0 : Int32).toInt = 0 := by decide
  have i2 : (999 : Int32).toInt = 999 := by decide
  rw [e6_isGiver (by omega), e7_isGiver hs hi, e6_isWithin, e7_in, sm_t64, e0, e2, i0, i2]
  simp only [Option.bind_some, sm_z]
  by_cases hg : 0 ≤ p1.toInt ∧ p1.toInt < (A 2 : Nat)
  · rw [if_neg (not_not_intro hg), if_neg (not_not_intro hg)]
    by_cases hg2 : 0 ≤ p2.toInt ∧ p2.toInt ≤ 999
    · rw [if_neg (not_not_intro hg2), if_neg (not_not_intro hg2)]
      exact tp_prices hs hi hc _ p1 p2 bs_F 0 0 (Nat.zero_le _) (by unfold bs_F; omega)
    · rw [if_pos hg2, if_pos hg2]
      exact ⟨_, rfl, rfl⟩
  · rw [if_pos hg, if_pos hg]
    exact ⟨_, rfl, rfl⟩
theorem tq_as (h : R_N A told wax stick givers promises pan kp gv dd dy lk kd sd th st) (s p1 p2 : Int32) : ∃ z, f_X6_as s promises kd p1 p2 = some z ∧ f_X7_as s st p1 p2 = some z := by
  obtain ⟨hs, hi, hc, hd, rfl, rfl, rfl, rfl, rfl, rfl, ht⟩ := h
  have h3 := hi.2.2.2.1
  unfold f_X6_as f_X7_as
  have e0 : (0 : Int64).toInt = 0 := by decide
  have e2 : (5 : Int64).toInt = 5 := by decide
  have i0 : (0 : Int32).toInt = 0 := by decide
  have i2 : (5 : Int32).toInt = 5 := by decide
  rw [e6_isPromise (by omega), e7_isPromise hs hi, e6_isWithin, e7_in, sm_t64, e0, e2, i0, i2]
  simp only [Option.bind_some, sm_z]
  by_cases hg : 0 ≤ p1.toInt ∧ p1.toInt < (A 3 : Nat)
  · obtain ⟨p, k1, k2, rfl⟩ := tp_nat hg
    have hr := hi.2.2.2.2.2.2 p k1
    rw [if_neg (not_not_intro hg), if_neg (not_not_intro hg)]
    by_cases hg2 : 0 ≤ p2.toInt ∧ p2.toInt ≤ 5
    · obtain ⟨k, j1, j2, rfl⟩ := sm_nat hg2
      have e9 : (9 : Int32) + nI p = nI (9 + p) := nI_add 9 p
      obtain ⟨a1, a2⟩ := ak_kind (A (9 + p)) (by omega) k (by omega) (by omega)
      rw [if_neg (not_not_intro hg2), if_neg (not_not_intro hg2), if_pos (bs_inN (by omega) (by omega)), nI_clamp k2, (hc.2 p k1).2.2.1, e9, if_pos (bs_inN (by omega) (by omega)), nI_clamp (by omega), hs _ (by omega), a1]
      rcases a2 with a2 | a2 <;> rw [a2] <;> exact ⟨_, rfl, rfl⟩
    · rw [if_pos hg2, if_pos hg2]
      exact ⟨_, rfl, rfl⟩
  · rw [if_pos hg, if_pos hg]
    exact ⟨_, rfl, rfl⟩
end TQ
