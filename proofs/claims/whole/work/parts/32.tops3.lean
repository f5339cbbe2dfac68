/-! one row a method: found, the acts, the trials, the images, the counts -/
def R_A (A : Nat → Nat) (o n : Nat) (po wo no ko : Nat → Int32) (old kept : Int32) (ac : Nat → Int32) (am : Int32) : Prop := o < 24 ∧ n ≤ 24 ∧ old = nI o ∧ kept = nI n ∧ am = nI n ∧ sp_acts o n po wo no ko ac A
theorem tp_tog : ∀ s, s < 256 → ∀ k, k < 8 → nI s ^^^ (nI 1 <<< (nI k &&& nI 31)) = nI (s ^^^ 2 ^ k) ∧ s ^^^ 2 ^ k < 256 := by decide +kernel
theorem tp_c {A B : Nat → Nat} (e : ∀ j, j ≠ 0 → j ≠ 4 → B j = A j) {kp gv lk kd sd : Nat → Int32} (h : sp_c A kp gv lk kd sd) : sp_c B kp gv lk kd sd := by
  have e2 := e 2 (by omega) (by omega)
  have e3 := e 3 (by omega) (by omega)
  refine ⟨fun g hg => ?_, fun p hp => ?_⟩
  · rw [e (5 + g) (by omega) (by omega)]
    exact h.1 g (by omega)
  · rw [e (17 + p) (by omega) (by omega), e (41 + p) (by omega) (by omega), e (9 + p) (by omega) (by omega), e (49 + p) (by omega) (by omega)]
    exact h.2 p (by omega)
theorem tp_d {A B : Nat → Nat} (e : ∀ j, j ≠ 0 → j ≠ 4 → B j = A j) {dd dy : Nat → Int32} (h : sp_d A dd dy) : sp_d B dd dy := by
  have e3 := e 3 (by omega) (by omega)
  intro p hp
  rw [e (25 + p) (by omega) (by omega), e (33 + p) (by omega) (by omega)]
  exact h p (by omega)
theorem tp_iv {A B : Nat → Nat} (e : ∀ j, j ≠ 0 → j ≠ 4 → B j = A j) (h0 : B 0 ≤ 9) (h4 : B 4 < 256) (h : sp_iv A) : sp_iv B := by
  have e1 := e 1 (by omega) (by omega)
  have e2 := e 2 (by omega) (by omega)
  have e3 := e 3 (by omega) (by omega)
  obtain ⟨a0, a1, a2, a3, a4, a5, a6⟩ := h
  refine ⟨h0, by omega, by omega, by omega, h4, fun g hg => ?_, fun p hp => ?_⟩
  · rw [e (5 + g) (by omega) (by omega)]
    exact a5 g hg
  · rw [e (9 + p) (by omega) (by omega), e (17 + p) (by omega) (by omega), e (25 + p) (by omega) (by omega), e (33 + p) (by omega) (by omega), e (41 + p) (by omega) (by omega), e (49 + p) (by omega) (by omega), e2]
    exact a6 p (by omega)
theorem tp_up (A : Nat → Nat) (i v j : Nat) (h : j ≠ i) : sp_up A i v j = A j := if_neg h
theorem tp_us (A : Nat → Nat) (i v : Nat) : sp_up A i v i = v := if_pos rfl
theorem tp_at {st : Nat → Int32} {A : Nat → Nat} (h : sp_at st A) (i v : Nat) : sp_at (upd st i (nI v)) (sp_up A i v) := by
  intro j hj
  by_cases e : j = i
  · subst e
    rw [pk_us, tp_us]
  · rw [pk_un e, tp_up _ _ _ _ e]
    exact h j hj
theorem tp_kb (x : Int32) (h : 0 ≤ x.toInt ∧ x.toInt ≤ 1) : ∃ k : Bool, x = if k = true then 1 else 0 := by
  obtain ⟨k, k1, k2, rfl⟩ := sm_nat h
  rcases (by omega : k = 0 ∨ k = 1) with rfl | rfl
  · exact ⟨false, rfl⟩
  · exact ⟨true, rfl⟩
section TA
variable {A : Nat → Nat} {told wax stick givers promises pan : Int32} {kp gv dd dy lk kd sd : Nat → Int32} {th : Int32} {st : Nat → Int32} {o n : Nat} {po wo no ko : Nat → Int32} {old kept : Int32} {ac : Nat → Int32} {am : Int32}
theorem tq_lay (h : R_N A told wax stick givers promises pan kp gv dd dy lk kd sd th st) (ha : R_A A o n po wo no ko old kept ac am) (p1 p2 : Int32) : ∃ z w B o' n', f_X6_lay wax stick promises pan kp gv lk kd sd po wo no ko old kept p1 p2 = some z ∧ f_X7_lay st ac am p1 p2 = some w ∧ z.1 = w.1 ∧ R_N B told wax stick givers promises z.2.1 kp gv dd dy lk kd sd th w.2.1 ∧ R_A B o' n' z.2.2.1 z.2.2.2.1 z.2.2.2.2.1 z.2.2.2.2.2.1 z.2.2.2.2.2.2.1 z.2.2.2.2.2.2.2 w.2.2.1 w.2.2.2 := by
  have h' := h
  have ha' := ha
  obtain ⟨hs, hi, hc, hd, rfl, rfl, rfl, rfl, rfl, rfl, ht⟩ := h
  obtain ⟨ho, hn, rfl, rfl, rfl, hA⟩ := ha
  have h3 := hi.2.2.2.1
  have h4 := hi.2.2.2.2.1
  unfold f_X6_lay f_X7_lay
  have e0 : (0 : Int64).toInt = 0 := by decide
  have e1 : (1 : Int64).toInt = 1 := by decide
  rw [e6_isPromise (by omega), e7_isPromise hs hi, e6_isEither, e7_in, sm_t64, e0, e1]
  simp only [Option.bind_some, sm_z]
  by_cases hg : 0 ≤ p1.toInt ∧ p1.toInt < (A 3 : Nat)
  · obtain ⟨p, k1, k2, rfl⟩ := tp_nat hg
    obtain ⟨c1, c2, c3, c4⟩ := hc.2 p k1
    have hr := hi.2.2.2.2.2.2 p k1
    rw [if_neg (not_not_intro hg), if_neg (not_not_intro hg)]
    by_cases hg2 : 0 ≤ p2.toInt ∧ p2.toInt ≤ 1
    · obtain ⟨k, rfl⟩ := tp_kb p2 hg2
      rw [if_neg (not_not_intro hg2), if_neg (not_not_intro hg2), e4_isSettled c4 (by omega) hr.2.2.2.2.2.2, e7_isOpen hs hi k1, tp_isLaid h4 (by omega), hs 4 (by omega), tp_laid h4 (by omega)]
      simp only [Option.bind_some]
      by_cases hz : A (49 + p) = 0
      · obtain ⟨z, w, o', n', z1, w1, y1, y2, y3, y4, y5, y6, y7⟩ := sp_noted ho hn hA hs hi hc (nI p) (Or.inr ⟨p, k1, rfl⟩)
        obtain ⟨x1, x2⟩ := tp_tog (A 4) h4 p (by omega)
        have x1' : nI (A 4) ^^^ ((1 : Int32) <<< (nI p &&& 31)) = nI (A 4 ^^^ 2 ^ p) := x1
        have hB : ∀ j, j ≠ 0 → j ≠ 4 → sp_up A 4 (A 4 ^^^ 2 ^ p) j = A j := fun j _ j4 => tp_up _ _ _ _ j4
        have hiB := tp_iv hB (by rw [tp_up _ _ _ _ (by omega)]; exact hi.1) (by rw [tp_us]; exact x2) hi
        have hsB := tp_at hs 4 (A 4 ^^^ 2 ^ p)
        have hcB := tp_c hB hc
        have hdB := tp_d hB hd
        have b0 : sp_up A 4 (A 4 ^^^ 2 ^ p) 0 = A 0 := tp_up _ _ _ _ (by omega)
        have b1 : sp_up A 4 (A 4 ^^^ 2 ^ p) 1 = A 1 := tp_up _ _ _ _ (by omega)
        have b2 : sp_up A 4 (A 4 ^^^ 2 ^ p) 2 = A 2 := tp_up _ _ _ _ (by omega)
        have b3 : sp_up A 4 (A 4 ^^^ 2 ^ p) 3 = A 3 := tp_up _ _ _ _ (by omega)
        have b4 : sp_up A 4 (A 4 ^^^ 2 ^ p) 4 = A 4 ^^^ 2 ^ p := tp_us _ _ _
        have ht1 : 1 ≤ A 1 := by
          rcases ht with ⟨_, q⟩ | ⟨_, q⟩
          · omega
          · exact q
        have hr1 : f_X4_readingOf (nI (A 0)) (nI (A 1)) (nI (A 3)) kp gv lk kd sd (nI (A 4 ^^^ 2 ^ p)) = some (nI (sp_rd (sp_sum (sp_up A 4 (A 4 ^^^ 2 ^ p)) (A 4 ^^^ 2 ^ p) (A 3) + A 0) (A 1))) := by
          have q := e4_readingOf hcB hiB (by omega) x2
          rw [b0, b1, b3] at q
          exact q
        have hr2 : f_X7_readOf (upd st 4 (nI (A 4 ^^^ 2 ^ p))) (nI (A 4 ^^^ 2 ^ p)) = some (nI (sp_rd (sp_sum (sp_up A 4 (A 4 ^^^ 2 ^ p)) (A 4 ^^^ 2 ^ p) (A 3) + A 0) (A 1))) := by
          have q := e7_readOf hsB hiB (by omega) x2
          rw [b0, b1, b3] at q
          exact q
        have hN : R_N (sp_up A 4 (A 4 ^^^ 2 ^ p)) told (nI (A 0)) (nI (A 1)) (nI (A 2)) (nI (A 3)) (nI (A 4 ^^^ 2 ^ p)) kp gv dd dy lk kd sd told (upd st 4 (nI (A 4 ^^^ 2 ^ p))) := ⟨hsB, hiB, hcB, hdB, by rw [b0], by rw [b1], by rw [b2], by rw [b3], by rw [b4], rfl, by rw [b3, b1]; exact ht⟩
        have hAA : R_A (sp_up A 4 (A 4 ^^^ 2 ^ p)) o' n' z.1 z.2.1 z.2.2.1 z.2.2.2.1 z.2.2.2.2.1 z.2.2.2.2.2 w.1 w.2 := ⟨y1, y2, y4, y5, y6, y7 _ (fun ks hks => ⟨rfl, rfl, Or.inr ⟨p, k1, rfl, hz, hks p k1 rfl, fun i _ i0 i4 _ _ => (hB i i0 i4).symm⟩⟩)⟩
        rw [if_pos hz, if_pos hz, if_pos rfl, if_neg (show ¬ nI 1 = 0 by decide), z1, w1]
        unfold f_X4_turn
        rw [x1']
        simp only [Option.bind_some, pk_us]
        rw [hr1, hr2]
        simp only [Option.bind_some]
        rcases tp_b (A 4) p with e | e
        · rw [e]
          cases k with
          | false => exact ⟨_, _, A, o, n, rfl, rfl, rfl, h', ha'⟩
          | true => exact ⟨_, _, _, o', n', rfl, rfl, rfl, hN, hAA⟩
        · rw [e]
          cases k with
          | false => exact ⟨_, _, _, o', n', rfl, rfl, rfl, hN, hAA⟩
          | true => exact ⟨_, _, A, o, n, rfl, rfl, rfl, h', ha'⟩
      · rw [if_neg hz, if_neg hz, if_neg (show ¬ (1 : Int32) = 0 by decide), if_pos (show nI 0 = 0 by decide)]
        exact ⟨_, _, A, o, n, rfl, rfl, rfl, h', ha'⟩
    · rw [if_pos hg2, if_pos hg2]
      exact ⟨_, _, A, o, n, rfl, rfl, rfl, h', ha'⟩
  · rw [if_pos hg, if_pos hg]
    exact ⟨_, _, A, o, n, rfl, rfl, rfl, h', ha'⟩
theorem tq_wax (h : R_N A told wax stick givers promises pan kp gv dd dy lk kd sd th st) (ha : R_A A o n po wo no ko old kept ac am) (p1 : Int32) : ∃ z w B o' n', f_X6_wax told wax pan kp gv po wo no ko old kept p1 = some z ∧ f_X7_wax th st ac am p1 = some w ∧ z.1 = w.1 ∧ R_N B told z.2.1 stick givers promises pan kp gv dd dy lk kd sd th w.2.1 ∧ R_A B o' n' z.2.2.1 z.2.2.2.1 z.2.2.2.2.1 z.2.2.2.2.2.1 z.2.2.2.2.2.2.1 z.2.2.2.2.2.2.2 w.2.2.1 w.2.2.2 := by
  have h' := h
  have ha' := ha
  obtain ⟨hs, hi, hc, hd, rfl, rfl, rfl, rfl, rfl, rfl, ht⟩ := h
  obtain ⟨ho, hn, rfl, rfl, rfl, hA⟩ := ha
  unfold f_X6_wax f_X7_wax
  by_cases h0 : told = 0
  · rw [if_pos h0, if_pos h0]
    exact ⟨_, _, A, o, n, rfl, rfl, rfl, h', ha'⟩
  have e0 : (0 : Int64).toInt = 0 := by decide
  have e1 : (9 : Int64).toInt = 9 := by decide
  have i0 : (0 : Int32).toInt = 0 := by decide
  have i1 : (9 : Int32).toInt = 9 := by decide
  rw [if_neg h0, if_neg h0, e6_isWithin, e7_in, sm_t64, e0, e1, i0, i1]
  simp only [Option.bind_some, sm_z]
  by_cases hg : 0 ≤ p1.toInt ∧ p1.toInt ≤ 9
  · obtain ⟨k, k1, k2, rfl⟩ := sm_nat hg
    obtain ⟨z, w, o', n', z1, w1, y1, y2, y3, y4, y5, y6, y7⟩ := sp_noted ho hn hA hs hi hc (-1) (Or.inl rfl)
    have hB : ∀ j, j ≠ 0 → j ≠ 4 → sp_up A 0 k j = A j := fun j j0 _ => tp_up _ _ _ _ j0
    have b4 : sp_up A 0 k 4 = A 4 := tp_up _ _ _ _ (by omega)
    have hiB := tp_iv hB (by rw [tp_us]; omega) (by rw [b4]; exact hi.2.2.2.2.1) hi
    rw [if_neg (not_not_intro hg), if_neg (not_not_intro hg), z1, w1]
    simp only [Option.bind_some]
    refine ⟨_, _, sp_up A 0 k, o', n', rfl, rfl, ?_, ⟨tp_at hs 0 k, hiB, tp_c hB hc, tp_d hB hd, by rw [tp_us], by rw [hB 1 (by omega) (by omega)], by rw [hB 2 (by omega) (by omega)], by rw [hB 3 (by omega) (by omega)], by rw [b4], rfl, by rw [hB 1 (by omega) (by omega), hB 3 (by omega) (by omega)]; exact ht⟩, y1, y2, y4, y5, y6, y7 _ (fun ks _ => ⟨rfl, rfl, Or.inl ⟨rfl, fun i _ i0 i4 => (hB i i0 i4).symm⟩⟩)⟩
    exact (hs 0 (by omega)).symm
  · rw [if_pos hg, if_pos hg]
    exact ⟨_, _, A, o, n, rfl, rfl, rfl, h', ha'⟩
theorem tq_settle (h : R_N A told wax stick givers promises pan kp gv dd dy lk kd sd th st) (ha : R_A A o n po wo no ko old kept ac am) (p1 p2 : Int32) : ∃ z w B o' n', f_X6_settle wax promises pan kp gv sd po wo no ko old kept p1 p2 = some z ∧ f_X7_settle st ac am p1 p2 = some w ∧ z.1 = w.1 ∧ R_N B told wax stick givers promises z.2.1 z.2.2.1 gv dd dy lk kd z.2.2.2.1 th w.2.1 ∧ R_A B o' n' z.2.2.2.2.1 z.2.2.2.2.2.1 z.2.2.2.2.2.2.1 z.2.2.2.2.2.2.2.1 z.2.2.2.2.2.2.2.2.1 z.2.2.2.2.2.2.2.2.2 w.2.2.1 w.2.2.2 := by
  have h' := h
  have ha' := ha
  obtain ⟨hs, hi, hc, hd, rfl, rfl, rfl, rfl, rfl, rfl, ht⟩ := h
  obtain ⟨ho, hn, rfl, rfl, rfl, hA⟩ := ha
  have h3 := hi.2.2.2.1
  have h2 := hi.2.2.1
  unfold f_X6_settle f_X7_settle
  have e0 : (0 : Int64).toInt = 0 := by decide
  have e1 : (1 : Int64).toInt = 1 := by decide
  rw [e6_isPromise (by omega), e7_isPromise hs hi, e6_isEither, e7_in, sm_t64, e0, e1]
  simp only [Option.bind_some, sm_z]
  by_cases hg : 0 ≤ p1.toInt ∧ p1.toInt < (A 3 : Nat)
  · obtain ⟨p, k1, k2, rfl⟩ := tp_nat hg
    obtain ⟨c1, c2, c3, c4⟩ := hc.2 p k1
    have hr := hi.2.2.2.2.2.2 p k1
    have hgv := hr.2.2.1
    rw [if_neg (not_not_intro hg), if_neg (not_not_intro hg)]
    by_cases hg2 : 0 ≤ p2.toInt ∧ p2.toInt ≤ 1
    · obtain ⟨k, rfl⟩ := tp_kb p2 hg2
      rw [if_neg (not_not_intro hg2), if_neg (not_not_intro hg2), e4_isSettled c4 (by omega) hr.2.2.2.2.2.2, e7_isOpen hs hi k1]
      simp only [Option.bind_some]
      by_cases hz : A (49 + p) = 0
      · obtain ⟨z, w, o', n', z1, w1, y1, y2, y3, y4, y5, y6, y7⟩ := sp_noted ho hn hA hs hi hc (nI p) (Or.inr ⟨p, k1, rfl⟩)
        obtain ⟨st', s1, s2⟩ := e7_settleNow hs hi k1 k
        have hiB := sp_set_iv hi k1 k
        have hcB := sp_set_c hc hi k1 k
        have hdB := sp_set_d hd hi k1 k
        have b0 : sp_set A p k 0 = A 0 := sp_set_ne k (by omega) (by omega) (by omega)
        have b1 : sp_set A p k 1 = A 1 := sp_set_ne k (by omega) (by omega) (by omega)
        have b2 : sp_set A p k 2 = A 2 := sp_set_ne k (by omega) (by omega) (by omega)
        have b3 : sp_set A p k 3 = A 3 := sp_set_ne k (by omega) (by omega) (by omega)
        have b4 : sp_set A p k 4 = sp_clr (A 4) p := sp_set_4 k
        have b17 : sp_set A p k (17 + p) = A (17 + p) := sp_set_ne k (by omega) (by omega) (by omega)
        have bk : sp_set A p k (5 + A (17 + p)) = sp_kn k (A (5 + A (17 + p))) := sp_set_k k
        have hN : R_N (sp_set A p k) told (nI (A 0)) (nI (A 1)) (nI (A 2)) (nI (A 3)) (nI (sp_clr (A 4) p)) (upd kp (A (17 + p)) (nI (sp_kn k (A (5 + A (17 + p)))))) gv dd dy lk kd (upd sd p (nI (sp_kh k))) told st' := ⟨s2, hiB, hcB, hdB, by rw [b0], by rw [b1], by rw [b2], by rw [b3], by rw [b4], rfl, by rw [b3, b1]; exact ht⟩
        have hAA : R_A (sp_set A p k) o' n' z.1 z.2.1 z.2.2.1 z.2.2.2.1 z.2.2.2.2.1 z.2.2.2.2.2 w.1 w.2 := ⟨y1, y2, y4, y5, y6, y7 _ (fun ks hks => ⟨rfl, rfl, Or.inr ⟨p, k1, rfl, hz, hks p k1 rfl, fun i _ i0 i4 i5 i6 => (sp_set_ne k i4 i5 i6).symm⟩⟩)⟩
        have s3 := e4_settleOne hc hi k1 k
        have b8 : bs_in (nI p) 8 = true := bs_inN (by omega) (by omega)
        have bg : bs_in (nI (A (17 + p))) 4 = true := bs_inN (by omega) (by omega)
        have bs7 : bs_in (nI (17 + p)) 57 = true := bs_inN (by omega) (by omega)
        have bs5 : bs_in (nI (5 + A (17 + p))) 57 = true := bs_inN (by omega) (by omega)
        have e17 : (17 : Int32) + nI p = nI (17 + p) := nI_add 17 p
        have e5 : (5 : Int32) + nI (A (17 + p)) = nI (5 + A (17 + p)) := nI_add 5 _
        have f17 : st' (17 + p) = nI (A (17 + p)) := (s2 _ (by omega)).trans (by rw [b17])
        have f5 : st' (5 + A (17 + p)) = nI (sp_kn k (A (5 + A (17 + p)))) := (s2 _ (by omega)).trans (by rw [bk])
        rw [if_pos hz, if_pos hz, if_pos rfl, if_neg (show ¬ nI 1 = 0 by decide), z1, w1, e17]
        simp only [Option.bind_some, b8, bs7, if_true]
        rw [nI_clamp (n := p) (by omega), nI_clamp (n := 17 + p) (by omega), c1, nI_clamp (n := A (17 + p)) (by omega)]
        simp only [bg, if_true]
        cases k with
        | false =>
          have s1' : f_X7_settleNow st (nI p) 0 = some st' := s1
          have s3' : f_X4_settleOne (nI (A 4)) kp gv sd (nI p) 0 = some (nI (sp_clr (A 4) p), upd kp (A (17 + p)) (nI (sp_kn false (A (5 + A (17 + p))))), upd sd p (nI (sp_kh false))) := s3
          rw [if_neg (by decide), if_neg (by decide)]
          rw [s1', s3']
          simp only [Option.bind_some, f17, e5, bs5, if_true]
          rw [nI_clamp (n := 5 + A (17 + p)) (by omega), f5]
          exact ⟨_, _, _, o', n', rfl, rfl, pk_us, hN, hAA⟩
        | true =>
          have s1' : f_X7_settleNow st (nI p) 1 = some st' := s1
          have s3' : f_X4_settleOne (nI (A 4)) kp gv sd (nI p) 1 = some (nI (sp_clr (A 4) p), upd kp (A (17 + p)) (nI (sp_kn true (A (5 + A (17 + p))))), upd sd p (nI (sp_kh true))) := s3
          rw [if_pos rfl, if_pos rfl, s1', s3']
          simp only [Option.bind_some, f17, e5, bs5, if_true]
          rw [nI_clamp (n := 5 + A (17 + p)) (by omega), f5]
          exact ⟨_, _, _, o', n', rfl, rfl, pk_us, hN, hAA⟩
      · rw [if_neg hz, if_neg hz, if_neg (show ¬ (1 : Int32) = 0 by decide), if_pos (show nI 0 = 0 by decide)]
        exact ⟨_, _, A, o, n, rfl, rfl, rfl, h', ha'⟩
    · rw [if_pos hg2, if_pos hg2]
      exact ⟨_, _, A, o, n, rfl, rfl, rfl, h', ha'⟩
  · rw [if_pos hg, if_pos hg]
    exact ⟨_, _, A, o, n, rfl, rfl, rfl, h', ha'⟩
theorem tq_undo (h : R_N A told wax stick givers promises pan kp gv dd dy lk kd sd th st) (ha : R_A A o n po wo no ko old kept ac am) : ∃ z w B o' n', f_X6_undo wax pan kp gv sd po wo no ko old kept = some z ∧ f_X7_undo st ac am = some w ∧ z.1 = w.1 ∧ R_N B told z.2.1 stick givers promises z.2.2.1 z.2.2.2.1 gv dd dy lk kd z.2.2.2.2.1 th w.2.1 ∧ R_A B o' n' po wo no ko old z.2.2.2.2.2 ac w.2.2 := by
  have h' := h
  have ha' := ha
  obtain ⟨hs, hi, hc, hd, rfl, rfl, rfl, rfl, rfl, rfl, ht⟩ := h
  obtain ⟨ho, hn, rfl, rfl, rfl, hA⟩ := ha
  cases n with
  | zero =>
    unfold f_X6_undo f_X7_undo
    exact ⟨_, _, A, o, 0, rfl, rfl, rfl, h', ha'⟩
  | succ n =>
    obtain ⟨B, z, w, z1, w1, y1, y2, y3, y4, y5, y6, y7, y8, y9, ⟨y10, y11, y12⟩, y13⟩ := sp_undone ho (by omega) hA hi hc hd (st := st) (nI (A 0)) (nI (A 4))
    unfold f_X6_undo
    rw [if_neg (nI_ne0 (by omega) (by omega)), z1, w1]
    exact ⟨_, _, B, o, n, rfl, rfl, y1.trans y2.symm, ⟨y4, y5, y6, y7, y8, by rw [y10], by rw [y11], by rw [y12], y9, rfl, by rw [y12, y10]; exact ht⟩, ho, by omega, rfl, y1, y3, y13⟩
end TA
