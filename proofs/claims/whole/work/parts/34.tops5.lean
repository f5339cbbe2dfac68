/-! one row a method: images, counts -/
section TC
variable {A : Nat → Nat} {told wax stick givers promises pan : Int32} {kp gv dd dy lk kd sd : Nat → Int32} {th : Int32} {st : Nat → Int32}
variable {la le : Nat → Int32} {G : Nat → Nat → Int32} {ln sz it : Nat → Int32}
variable {a1 a2 a3 a4 a5 a6 : Int32} {ak ag ad ay al ai as : Nat → Int32} {b1 b2 b3 b4 b5 b6 : Int32} {bk bg bd by' bl bi bs : Nat → Int32} {ik kt : Nat → Int32}
theorem tp_isImage (x : Int32) : f_X6_isImage x = some (if 0 ≤ x.toInt ∧ x.toInt ≤ 1 then 1 else 0) := by
  have i0 : (0 : Int32).toInt = 0 := by decide
  have i1 : (1 : Int32).toInt = 1 := by decide
  unfold f_X6_isImage
  rw [e6_isWithin, i0, i1, Option.bind_some, if_pos sm_gn]
theorem tq_image (h : R_N A told wax stick givers promises pan kp gv dd dy lk kd sd th st) (h0 : R_I 0 th a1 a2 a3 a4 a5 a6 ak ag ad ay al ai as ik kt) (h1 : R_I 1 th b1 b2 b3 b4 b5 b6 bk bg bd by' bl bi bs ik kt) (p1 : Int32) : ∃ (z : Int32 × Int32 × Int32 × Int32 × Int32 × Int32 × Int32 × (Nat → Int32) × (Nat → Int32) × (Nat → Int32) × (Nat → Int32) × (Nat → Int32) × (Nat → Int32) × (Nat → Int32) × Int32 × Int32 × Int32 × Int32 × Int32 × Int32 × (Nat → Int32) × (Nat → Int32) × (Nat → Int32) × (Nat → Int32) × (Nat → Int32) × (Nat → Int32) × (Nat → Int32)) (w : Int32 × (Nat → Int32) × (Nat → Int32)), f_X6_image told wax stick givers promises pan kp gv dd dy lk kd sd a1 a2 a3 a4 a5 a6 ak ag ad ay al ai as b1 b2 b3 b4 b5 b6 bk bg bd by' bl bi bs p1 = some z ∧ f_X7_image th st ik kt p1 = some w ∧ z.1 = w.1 ∧ R_I 0 th z.2.1 z.2.2.1 z.2.2.2.1 z.2.2.2.2.1 z.2.2.2.2.2.1 z.2.2.2.2.2.2.1 z.2.2.2.2.2.2.2.1 z.2.2.2.2.2.2.2.2.1 z.2.2.2.2.2.2.2.2.2.1 z.2.2.2.2.2.2.2.2.2.2.1 z.2.2.2.2.2.2.2.2.2.2.2.1 z.2.2.2.2.2.2.2.2.2.2.2.2.1 z.2.2.2.2.2.2.2.2.2.2.2.2.2.1 w.2.1 w.2.2 ∧ R_I 1 th z.2.2.2.2.2.2.2.2.2.2.2.2.2.2.1 z.2.2.2.2.2.2.2.2.2.2.2.2.2.2.2.1 z.2.2.2.2.2.2.2.2.2.2.2.2.2.2.2.2.1 z.2.2.2.2.2.2.2.2.2.2.2.2.2.2.2.2.2.1 z.2.2.2.2.2.2.2.2.2.2.2.2.2.2.2.2.2.2.1 z.2.2.2.2.2.2.2.2.2.2.2.2.2.2.2.2.2.2.2.1 z.2.2.2.2.2.2.2.2.2.2.2.2.2.2.2.2.2.2.2.2.1 z.2.2.2.2.2.2.2.2.2.2.2.2.2.2.2.2.2.2.2.2.2.1 z.2.2.2.2.2.2.2.2.2.2.2.2.2.2.2.2.2.2.2.2.2.2.1 z.2.2.2.2.2.2.2.2.2.2.2.2.2.2.2.2.2.2.2.2.2.2.2.1 z.2.2.2.2.2.2.2.2.2.2.2.2.2.2.2.2.2.2.2.2.2.2.2.2.1 z.2.2.2.2.2.2.2.2.2.2.2.2.2.2.2.2.2.2.2.2.2.2.2.2.2.1 z.2.2.2.2.2.2.2.2.2.2.2.2.2.2.2.2.2.2.2.2.2.2.2.2.2.2 w.2.1 w.2.2 := by
  obtain ⟨hs, hi, hc, hd, rfl, rfl, rfl, rfl, rfl, rfl, ht⟩ := h
  unfold f_X6_image f_X7_image
  have e0 : (0 : Int64).toInt = 0 := by decide
  have e1 : (1 : Int64).toInt = 1 := by decide
  rw [tp_isImage, e7_in, sm_t64, e0, e1]
  simp only [Option.bind_some, sm_z]
  by_cases hg : 0 ≤ p1.toInt ∧ p1.toInt ≤ 1
  · obtain ⟨k, k1, k2, rfl⟩ := sm_nat hg
    rw [if_neg (not_not_intro hg), if_neg (not_not_intro hg)]
    rcases ht with ⟨rfl, hz⟩ | ⟨rfl, hA1⟩
    · rw [if_pos rfl, if_pos rfl]
      exact ⟨_, _, rfl, rfl, rfl, h0, h1⟩
    · have hk : k < 2 := by omega
      have h10 : ¬ (1 : Int32) = 0 := by decide
      obtain ⟨kt', m1, m2, m3⟩ := cp_image 1 st ik hk bs_F 0 kt (by omega) (by unfold bs_F; omega) (fun j hj => by omega)
      have m3' : f_X7_image_L25 1 st ik (nI k) bs_F kt 0 = some (1, upd ik k 1, kt') := m3
      rw [if_neg h10, if_neg h10, if_pos (bs_inN hk (by omega)), nI_clamp k2, m3']
      rcases (by omega : k = 0 ∨ k = 1) with rfl | rfl
      · obtain ⟨ck, cg, cd, cy, cl, ci, cs, c1, c2, c3⟩ := cp_become a1 a2 a3 a4 a5 a6 ak ag ad ay al ai as 1 (nI (A 0)) (nI (A 1)) (nI (A 2)) (nI (A 3)) (nI (A 4)) kp gv dd dy lk kd sd (Or.inr rfl)
        obtain ⟨f1, f2⟩ := cp_c hi hc hd c2 c3
        rw [if_pos rfl, c1]
        have hI : R_I 0 1 1 (nI (A 0)) (nI (A 1)) (nI (A 2)) (nI (A 3)) (nI (A 4)) ck cg cd cy cl ci cs (upd ik 0 1) kt' := ⟨pk_us.symm, Or.inr ⟨rfl, rfl, A, hi, hA1, f1, f2, rfl, rfl, rfl, rfl, rfl, fun i hi' => (m1 i hi').trans (hs i hi')⟩⟩
        exact ⟨_, _, rfl, rfl, rfl, hI, h1.other (by omega) 1 (fun i hi' => m2 _ (by omega))⟩
      · obtain ⟨ck, cg, cd, cy, cl, ci, cs, c1, c2, c3⟩ := cp_become b1 b2 b3 b4 b5 b6 bk bg bd by' bl bi bs 1 (nI (A 0)) (nI (A 1)) (nI (A 2)) (nI (A 3)) (nI (A 4)) kp gv dd dy lk kd sd (Or.inr rfl)
        obtain ⟨f1, f2⟩ := cp_c hi hc hd c2 c3
        rw [if_neg (by omega), c1]
        have hI : R_I 1 1 1 (nI (A 0)) (nI (A 1)) (nI (A 2)) (nI (A 3)) (nI (A 4)) ck cg cd cy cl ci cs (upd ik 1 1) kt' := ⟨pk_us.symm, Or.inr ⟨rfl, rfl, A, hi, hA1, f1, f2, rfl, rfl, rfl, rfl, rfl, fun i hi' => (m1 i hi').trans (hs i hi')⟩⟩
        exact ⟨_, _, rfl, rfl, rfl, h0.other (by omega) 1 (fun i hi' => m2 _ (by omega)), hI⟩
  · rw [if_pos hg, if_pos hg]
    exact ⟨_, _, rfl, rfl, rfl, h0, h1⟩
variable {o n : Nat} {po wo no ko : Nat → Int32} {old kept : Int32} {ac : Nat → Int32} {am : Int32}
theorem tp_acts0 (po wo no ko ac : Nat → Int32) (A : Nat → Nat) : sp_acts 0 0 po wo no ko ac A := ⟨fun _ => A, fun _ _ => rfl, fun j hj => absurd hj (Nat.not_lt_zero j)⟩
theorem tq_restore (h : R_N A told wax stick givers promises pan kp gv dd dy lk kd sd th st) (ha : R_A A o n po wo no ko old kept ac am) (h0 : R_I 0 th a1 a2 a3 a4 a5 a6 ak ag ad ay al ai as ik kt) (h1 : R_I 1 th b1 b2 b3 b4 b5 b6 bk bg bd by' bl bi bs ik kt) (p1 : Int32) : ∃ (z : Int32 × Int32 × Int32 × Int32 × Int32 × Int32 × Int32 × (Nat → Int32) × (Nat → Int32) × (Nat → Int32) × (Nat → Int32) × (Nat → Int32) × (Nat → Int32) × (Nat → Int32) × Int32 × Int32) (w : Int32 × (Nat → Int32) × Int32) (B : Nat → Nat) (o' n' : Nat), f_X6_restore told wax stick givers promises pan kp gv dd dy lk kd sd a1 a2 a3 a4 a5 a6 ak ag ad ay al ai as b1 b2 b3 b4 b5 b6 bk bg bd by' bl bi bs old kept p1 = some z ∧ f_X7_restore st am ik kt p1 = some w ∧ z.1 = w.1 ∧ R_N B z.2.1 z.2.2.1 z.2.2.2.1 z.2.2.2.2.1 z.2.2.2.2.2.1 z.2.2.2.2.2.2.1 z.2.2.2.2.2.2.2.1 z.2.2.2.2.2.2.2.2.1 z.2.2.2.2.2.2.2.2.2.1 z.2.2.2.2.2.2.2.2.2.2.1 z.2.2.2.2.2.2.2.2.2.2.2.1 z.2.2.2.2.2.2.2.2.2.2.2.2.1 z.2.2.2.2.2.2.2.2.2.2.2.2.2.1 th w.2.1 ∧ R_A B o' n' po wo no ko z.2.2.2.2.2.2.2.2.2.2.2.2.2.2.1 z.2.2.2.2.2.2.2.2.2.2.2.2.2.2.2 ac w.2.2 := by
  have hN := h
  have hA := ha
  obtain ⟨hs, hi, hc, hd, rfl, rfl, rfl, rfl, rfl, rfl, ht⟩ := h
  obtain ⟨ho, hn, rfl, rfl, rfl, hac⟩ := ha
  have htb : told = 0 ∨ told = 1 := by
    rcases ht with ⟨q, _⟩ | ⟨q, _⟩
    · exact Or.inl q
    · exact Or.inr q
  unfold f_X6_restore f_X7_restore
  have e0 : (0 : Int64).toInt = 0 := by decide
  have e1 : (1 : Int64).toInt = 1 := by decide
  rw [tp_isImage, e7_in, sm_t64, e0, e1]
  simp only [Option.bind_some, sm_z]
  by_cases hg : 0 ≤ p1.toInt ∧ p1.toInt ≤ 1
  · obtain ⟨k, k1, k2, rfl⟩ := sm_nat hg
    have hk : k < 2 := by omega
    have b2' : bs_in (nI k) 2 = true := bs_inN hk (by omega)
    rw [if_neg (not_not_intro hg), if_neg (not_not_intro hg), nI_clamp k2]
    simp only [b2', if_true]
    have h10 : ¬ (1 : Int32) = 0 := by decide
    rcases (by omega : k = 0 ∨ k = 1) with rfl | rfl
    · obtain ⟨g1, g2⟩ := h0
      simp only [if_true]
      rw [← g1]
      rcases g2 with rfl | ⟨rfl, rfl, K, q1, q2, q3, q4, rfl, rfl, rfl, rfl, rfl, q5⟩
      · rw [if_pos rfl, if_pos rfl]
        exact ⟨_, _, A, o, n, rfl, rfl, rfl, hN, hA⟩
      · obtain ⟨ck, cg, cd, cy, cl, ci, cs, c1, c2, c3⟩ := cp_become 1 (nI (A 0)) (nI (A 1)) (nI (A 2)) (nI (A 3)) (nI (A 4)) kp gv dd dy lk kd sd 1 (nI (K 0)) (nI (K 1)) (nI (K 2)) (nI (K 3)) (nI (K 4)) ak ag ad ay al ai as (Or.inr rfl)
        obtain ⟨f1, f2⟩ := cp_c q1 q3 q4 c2 c3
        obtain ⟨st', m1, m2⟩ := cp_restore (nI n) ik kt (k := 0) (by omega) bs_F 0 st (by omega) (by unfold bs_F; omega) (fun j hj => by omega)
        have m2' : f_X7_restore_L27 (nI n) ik kt (nI 0) bs_F st 0 = some (1, st', 0) := m2
        have hN2 : R_N K 1 (nI (K 0)) (nI (K 1)) (nI (K 2)) (nI (K 3)) (nI (K 4)) ck cg cd cy cl ci cs 1 st' := ⟨fun i hi' => (m1 i hi').trans (q5 i hi'), q1, f1, f2, rfl, rfl, rfl, rfl, rfl, rfl, Or.inr ⟨rfl, q2⟩⟩
        have hA2 : R_A K 0 0 po wo no ko 0 0 ac 0 := ⟨by omega, by omega, rfl, rfl, rfl, tp_acts0 _ _ _ _ _ _⟩
        rw [if_neg h10, if_neg h10, m2', c1]
        exact ⟨_, _, K, 0, 0, rfl, rfl, rfl, hN2, hA2⟩
    · obtain ⟨g1, g2⟩ := h1
      simp only [Nat.one_ne_zero, if_false]
      rw [← g1]
      rcases g2 with rfl | ⟨rfl, rfl, K, q1, q2, q3, q4, rfl, rfl, rfl, rfl, rfl, q5⟩
      · rw [if_pos rfl, if_pos rfl]
        exact ⟨_, _, A, o, n, rfl, rfl, rfl, hN, hA⟩
      · obtain ⟨ck, cg, cd, cy, cl, ci, cs, c1, c2, c3⟩ := cp_become 1 (nI (A 0)) (nI (A 1)) (nI (A 2)) (nI (A 3)) (nI (A 4)) kp gv dd dy lk kd sd 1 (nI (K 0)) (nI (K 1)) (nI (K 2)) (nI (K 3)) (nI (K 4)) bk bg bd by' bl bi bs (Or.inr rfl)
        obtain ⟨f1, f2⟩ := cp_c q1 q3 q4 c2 c3
        obtain ⟨st', m1, m2⟩ := cp_restore (nI n) ik kt (k := 1) (by omega) bs_F 0 st (by omega) (by unfold bs_F; omega) (fun j hj => by omega)
        have m2' : f_X7_restore_L27 (nI n) ik kt (nI 1) bs_F st 0 = some (1, st', 0) := m2
        have hN2 : R_N K 1 (nI (K 0)) (nI (K 1)) (nI (K 2)) (nI (K 3)) (nI (K 4)) ck cg cd cy cl ci cs 1 st' := ⟨fun i hi' => (m1 i hi').trans (q5 i hi'), q1, f1, f2, rfl, rfl, rfl, rfl, rfl, rfl, Or.inr ⟨rfl, q2⟩⟩
        have hA2 : R_A K 0 0 po wo no ko 0 0 ac 0 := ⟨by omega, by omega, rfl, rfl, rfl, tp_acts0 _ _ _ _ _ _⟩
        rw [if_neg h10, if_neg h10, m2', c1]
        exact ⟨_, _, K, 0, 0, rfl, rfl, rfl, hN2, hA2⟩
  · rw [if_pos hg, if_pos hg]
    exact ⟨_, _, A, o, n, rfl, rfl, rfl, hN, hA⟩
theorem tp_cnt (hR : R_rows la le G ln sz it) (th bt am x : Int32) (st : Nat → Int32) : ∀ (n k : Nat) (a : Int32), k ≤ 8 → 8 - k < n → ∃ r, f_X3_howMany_L4 le n a (nI k) = some r ∧ f_X7_count_L4 sz th st bt am x n a (nI k) = f_X7_count_L4 sz th st bt am x 1 r 8 := by
  intro n
  induction n with
  | zero => intro k a _ h2; omega
  | succ n ih =>
    intro k a h1 h2
    rw [f_X3_howMany_L4_s, f_X7_count_L4_s sz th st bt am x n, nI_1]
    have e9 : ((8 : Int32) ≤ nI k) = (8 ≤ k) := propext (nI_leI (a := 8) (by omega) (by omega))
    simp only [e9]
    by_cases hk : k = 8
    · subst hk
      rw [if_pos (Nat.le_refl _), if_pos (Nat.le_refl _)]
      refine ⟨a, rfl, ?_⟩
      rw [f_X7_count_L4_s, if_pos (show (8 : Int32) ≤ 8 by decide)]
    · have hk8 : k < 8 := by omega
      have hnk : ¬ 8 ≤ k := by omega
      obtain ⟨q1, q2, q3, q4⟩ := hR k hk8
      rw [if_neg hnk, if_neg hnk, rw_miss hk8, if_pos (bs_inN hk8 (by omega)), nI_clamp (by omega), ← q2]
      simp only [Option.bind_some]
      rcases q3 with q3 | ⟨j, j1, j2⟩
      · rw [q3, if_pos rfl, if_neg (show ¬ (1 : Int32) = 0 by decide), if_pos (show (-1 : Int32) < 0 by decide)]
        exact ih (k + 1) _ (by omega) (by omega)
      · rw [j2, if_neg (rw_m1 (by omega)), if_pos rfl, if_neg (nI_pos (by omega))]
        exact ih (k + 1) _ (by omega) (by omega)
theorem tq_count (h : R_N A told wax stick givers promises pan kp gv dd dy lk kd sd th st) (hR : R_rows la le G ln sz it) (bt kept p1 : Int32) : ∃ r, f_X6_count bt told wax stick givers promises pan kp gv lk kd sd kept le p1 = some r ∧ f_X7_count sz th st bt kept p1 = some r := by
  obtain ⟨hs, hi, hc, hd, rfl, rfl, rfl, rfl, rfl, rfl, ht⟩ := h
  have h4 := hi.2.2.2.2.1
  obtain ⟨r, r1, r2⟩ := tp_cnt hR told bt kept p1 st bs_F 0 0 (by omega) (by unfold bs_F; omega)
  have r1' : f_X3_howMany le = some r := r1
  have r2' : f_X7_count sz told st bt kept p1 = f_X7_count_L4 sz told st bt kept p1 1 r 8 := r2
  unfold f_X6_count
  rw [r1', r2', f_X7_count_L4_s, if_pos (show (8 : Int32) ≤ 8 by decide), hs 0 (by omega), hs 1 (by omega), hs 2 (by omega), hs 3 (by omega), hs 4 (by omega)]
  simp only [Option.bind_some]
  have e : (if told = 0 then some (0 : Int32) else Option.bind (f_X4_readingOf (nI (A 0)) (nI (A 1)) (nI (A 3)) kp gv lk kd sd (nI (A 4))) fun z8 => some z8) = (if told = 0 then some (0 : Int32) else Option.bind (f_X7_readOf st (nI (A 4))) fun z8 => some z8) ∧ (if told = 0 then some (0 : Int32) else Option.bind (f_X7_readOf st (nI (A 4))) fun z8 => some z8).isSome = true := by
    rcases ht with ⟨rfl, hz⟩ | ⟨rfl, hA1⟩
    · exact ⟨rfl, rfl⟩
    · rw [e4_readingOf hc hi hA1 h4, e7_readOf hs hi hA1 h4]
      exact ⟨rfl, rfl⟩
  obtain ⟨ea, eb⟩ := e
  rw [ea]
  revert eb
  generalize (if told = 0 then some (0 : Int32) else Option.bind (f_X7_readOf st (nI (A 4))) fun z8 => some z8) = X
  intro eb
  refine tp_same ?_
  repeat' split
  all_goals first | rfl | exact eb
end TC
