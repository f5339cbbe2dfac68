/-! one row a method: found, keepsFound, the trials, the images, the counts -/
def R_I (k : Nat) (th t w s g p n : Int32) (kp gv dd dy lk kd sd ik kt : Nat → Int32) : Prop := t = ik k ∧ (t = 0 ∨ (t = 1 ∧ th = 1 ∧ ∃ K : Nat → Nat, sp_iv K ∧ 1 ≤ K 1 ∧ sp_c K kp gv lk kd sd ∧ sp_d K dd dy ∧ w = nI (K 0) ∧ s = nI (K 1) ∧ g = nI (K 2) ∧ p = nI (K 3) ∧ n = nI (K 4) ∧ ∀ i, i < 57 → kt (57 * k + i) = nI (K i)))
theorem R_I.b {k : Nat} {th t w s g p n : Int32} {kp gv dd dy lk kd sd ik kt : Nat → Int32} (h : R_I k th t w s g p n kp gv dd dy lk kd sd ik kt) : t = 0 ∨ t = 1 := by
  rcases h.2 with e | ⟨e, _⟩
  · exact Or.inl e
  · exact Or.inr e
theorem R_I.other {k j : Nat} (hkj : k ≠ j) {th t w s g p n : Int32} {kp gv dd dy lk kd sd ik kt kt' : Nat → Int32} (h : R_I k th t w s g p n kp gv dd dy lk kd sd ik kt) (x : Int32) (hk : ∀ i, i < 57 → kt' (57 * k + i) = kt (57 * k + i)) : R_I k th t w s g p n kp gv dd dy lk kd sd (upd ik j x) kt' := by
  obtain ⟨h1, h2⟩ := h
  refine ⟨by rw [pk_un hkj]; exact h1, ?_⟩
  rcases h2 with e | ⟨e, k0, K, k1, k2, k3, k4, k5, k6, k7, k8, k9, k10⟩
  · exact Or.inl e
  · exact Or.inr ⟨e, k0, K, k1, k2, k3, k4, k5, k6, k7, k8, k9, fun i hi => (hk i hi).trans (k10 i hi)⟩
theorem R_I.told {k : Nat} {th t w s g p n : Int32} {kp gv dd dy lk kd sd ik kt : Nat → Int32} (h : R_I k th t w s g p n kp gv dd dy lk kd sd ik kt) : R_I k 1 t w s g p n kp gv dd dy lk kd sd ik kt := by
  obtain ⟨h1, h2⟩ := h
  refine ⟨h1, ?_⟩
  rcases h2 with e | ⟨e, k0, K⟩
  · exact Or.inl e
  · exact Or.inr ⟨e, rfl, K⟩
section TB
variable {A : Nat → Nat} {told wax stick givers promises pan : Int32} {kp gv dd dy lk kd sd : Nat → Int32} {th : Int32} {st : Nat → Int32}
variable {la le : Nat → Int32} {G : Nat → Nat → Int32} {ln sz it : Nat → Int32}
theorem tq_found (h : R_N A told wax stick givers promises pan kp gv dd dy lk kd sd th st) (hR : R_rows la le G ln sz it) (s : Int32) (w rv : Nat → Int32) (pr se wx sk so : Int32) (p1 p2 p3 p4 : Int32) : ∃ z w', f_X6_found s told wax stick promises kp gv dd dy lk kd sd w rv pr se wx sk so G le p1 p2 p3 p4 = some z ∧ f_X7_found sz it s th st p1 p2 p3 p4 = some w' ∧ z.1 = w'.1 ∧ z.2.1 = w'.2 := by
  obtain ⟨hs, hi, hc, hd, rfl, rfl, rfl, rfl, rfl, rfl, ht⟩ := h
  unfold f_X6_found f_X7_found
  rcases ht with ⟨rfl, h0⟩ | ⟨rfl, h1⟩
  · exact ⟨_, _, rfl, rfl, rfl, rfl⟩
  have e0 : (0 : Int64).toInt = 0 := by decide
  have e1 : (1 : Int64).toInt = 1 := by decide
  have e2 : (8 : Int64).toInt = 8 := by decide
  have i1 : (1 : Int32).toInt = 1 := by decide
  have i2 : (8 : Int32).toInt = 8 := by decide
  have h10 : ¬ (1 : Int32) = 0 := by decide
  rw [if_neg h10, if_neg h10, e6_isRow, e7_isRow, e6_isWithin, i1, i2, e6_isEither, e7_in, e7_in, sm_t64, sm_t64, e0, e1, e2]
  simp only [Option.bind_some, sm_z]
  by_cases hg : 0 ≤ p1.toInt ∧ p1.toInt ≤ 7
  · obtain ⟨r, r1, r2, rfl⟩ := sm_nat hg
    have hr : r < 8 := by omega
    obtain ⟨q1, q2, q3, q4⟩ := hR r hr
    rw [if_neg (not_not_intro hg), if_neg (not_not_intro hg)]
    by_cases hg3 : 1 ≤ p3.toInt ∧ p3.toInt ≤ 8
    · obtain ⟨n, n1, n2, rfl⟩ := sm_nat (x := p3) (n := 8) ⟨by omega, hg3.2⟩
      have e2n : (2 : Int32) * nI n = nI (2 * n) := by rw [show (2 : Int32) = nI 2 from rfl, pk_mul]
      rw [if_neg (not_not_intro hg3), if_neg (not_not_intro hg3), e2n]
      by_cases hg4 : 0 ≤ p4.toInt ∧ p4.toInt ≤ 1
      · rw [if_neg (not_not_intro hg4), if_neg (not_not_intro hg4)]
        rcases q3 with q3 | ⟨k, k1, k2⟩
        · rw [rw_run0 hr q3, fd_lacks0 hr (q2.symm.trans q3)]
          exact ⟨_, _, rfl, rfl, rfl, rfl⟩
        · by_cases hx : 0 ≤ p2.toInt ∧ p2.toInt ≤ (k : Int) - (2 * n : Nat)
          · have rr : f_X3_findingOfRun le (nI r) p2 (nI (2 * n)) = some 0 := by
              rw [rw_run hr k1 k2, nI_toInt (by omega), if_pos ⟨hx.1, by omega, hx.2⟩]
            have rl : f_X7_lacks sz s (nI r) p2 (nI (2 * n)) = some (0, s) := by
              rw [fd_lacks hr k1 (q2.symm.trans k2) _ _ (by omega), if_pos hx]
            rw [rr, rl]
            simp only [Option.bind_some]
            obtain ⟨i, j1, j2, rfl⟩ := sm_nat (x := p2) (n := 40) ⟨hx.1, by omega⟩
            have hit := nI_toInt j2
            have hin : i + 2 * n ≤ 40 := by omega
            have b8 : bs_in (nI r) 8 = true := bs_inN hr (by omega)
            have e40 : (40 : Int32) * nI r + nI i = nI (40 * r + i) := by
              rw [show (40 : Int32) = nI 40 from rfl, pk_mul, nI_add]
            obtain ⟨b, b1, b2, b3⟩ := fd_sets hs hi hr hin (a := G r) (sz := sz) q4 s 1 p4 bs_F 0 (Nat.zero_le _) (by unfold bs_F; omega)
            have b1' : f_X6_areSets (nI (A 3)) (G r) (nI i) (nI n) = some (if b = true then 1 else 0) := b1
            have b2' : f_X7_found_L73 sz it s 1 st (nI n) p4 (nI (40 * r + i)) bs_F 0 = (if b = true then f_X7_found_L113 sz it s 1 st (nI n) p4 (nI (40 * r + i)) bs_F 0 0 else some (-1000001, s)) := b2
            rw [if_pos trivial, if_pos b8, nI_clamp r2, b1', e40, if_pos (show (0 : Int32) ≤ 0 by decide), b2']
            simp only [Option.bind_some]
            cases b with
            | false =>
              rw [if_pos fd_z0, if_neg (by decide)]
              exact ⟨_, _, rfl, rfl, rfl, rfl⟩
            | true =>
              have hok := b3.mp rfl
              obtain ⟨⟨zw, zr, zp, zs, zx, zk, zo⟩, z1, z2⟩ := e2_lookAt hc hd hi w rv pr se wx sk so
              obtain ⟨y1, y2, y3, y4, y5, y6⟩ := z2
              dsimp only at y1 y2 y3 y4 y5 y6
              subst y2 y3 y4 y5 y6
              rw [if_neg fd_z1, if_pos rfl, z1]
              simp only [Option.bind_some, b8, if_true]
              by_cases hp4 : p4 = 0
              · subst hp4
                obtain ⟨res, c1, c2⟩ := fd_waxes hs hi h1 (fun p hp => (y1 p hp).1) hr hin q4 (fun q hq => hok q (Nat.zero_le _) hq) (sz := sz) s 1 bs_F 0 0 (by omega) (by unfold bs_F; omega)
                have c1' : f_X6_waxesFound (nI (A 1)) zw (nI (A 3)) (G r) (nI i) (nI n) = some res := c1
                have c2' : f_X7_found_L113 sz it s 1 st (nI n) 0 (nI (40 * r + i)) bs_F 0 0 = some (res, 0) := c2
                rw [if_pos rfl, c1', c2']
                exact ⟨_, _, rfl, rfl, rfl, rfl⟩
              · obtain ⟨k4, k5, k6, rfl⟩ := sm_nat hg4
                have hk4 : k4 = 1 := by
                  rcases (by omega : k4 = 0 ∨ k4 = 1) with rfl | rfl
                  · exact absurd rfl hp4
                  · rfl
                subst hk4
                obtain ⟨res, c1, c2⟩ := fd_sticks hs hi (fun p hp => (y1 p hp).1) hr hin q4 (fun q hq => hok q (Nat.zero_le _) hq) (sz := sz) s 1 bs_F 0 0 (by omega) (by unfold bs_F; omega)
                have c1' : f_X6_sticksFound (nI (A 0)) zw (nI (A 3)) (G r) (nI i) (nI n) = some res := c1
                have c2' : f_X7_found_L113 sz it s 1 st (nI n) (nI 1) (nI (40 * r + i)) bs_F 0 0 = some (res, 0) := c2
                rw [if_neg hp4, c1', c2']
                exact ⟨_, _, rfl, rfl, rfl, rfl⟩
          · have rr : f_X3_findingOfRun le (nI r) p2 (nI (2 * n)) = some 2 := by
              rw [rw_run hr k1 k2, nI_toInt (by omega), if_neg (fun z => hx ⟨z.1, z.2.2⟩)]
            have rl : f_X7_lacks sz s (nI r) p2 (nI (2 * n)) = some (-1000012, 2) := by
              rw [fd_lacks hr k1 (q2.symm.trans k2) _ _ (by omega), if_neg hx]
            rw [rr, rl]
            exact ⟨_, _, rfl, rfl, rfl, rfl⟩
      · rw [if_pos hg4, if_pos hg4]
        exact ⟨_, _, rfl, rfl, rfl, rfl⟩
    · rw [if_pos hg3, if_pos hg3]
      exact ⟨_, _, rfl, rfl, rfl, rfl⟩
  · rw [if_pos hg, if_pos hg]
    exact ⟨_, _, rfl, rfl, rfl, rfl⟩
theorem tq_keepsFound (h : R_N A told wax stick givers promises pan kp gv dd dy lk kd sd th st) (hR : R_rows la le G ln sz it) (s : Int32) (p1 p2 p3 : Int32) : ∃ z, f_X6_keepsFound s givers promises gv lk kd sd G le p1 p2 p3 = some z ∧ f_X7_keepsFound sz it s st p1 p2 p3 = some z := by
  obtain ⟨hs, hi, hc, hd, rfl, rfl, rfl, rfl, rfl, rfl, ht⟩ := h
  have h2 := hi.2.2.1
  have h3 := hi.2.2.2.1
  unfold f_X6_keepsFound f_X7_keepsFound
  rw [e6_isGiver (by omega), e7_isGiver hs hi, e6_isRow, e7_isRow]
  simp only [Option.bind_some, sm_z]
  by_cases hg : 0 ≤ p1.toInt ∧ p1.toInt < (A 2 : Nat)
  · obtain ⟨g, g1, g2, rfl⟩ := tp_nat hg
    have hg4 : g < 4 := by omega
    rw [if_neg (not_not_intro hg), if_neg (not_not_intro hg)]
    by_cases hr0 : 0 ≤ p2.toInt ∧ p2.toInt ≤ 7
    · obtain ⟨r, r1, r2, rfl⟩ := sm_nat hr0
      have hr : r < 8 := by omega
      obtain ⟨q1, q2, q3, q4⟩ := hR r hr
      have m4 := fd_many4 hc hi hg4 bs_F 0 (Nat.zero_le _) (by unfold bs_F; omega)
      have m7 := fd_many7 hs hi hg4 sz it s (nI r) p3 bs_F 0 (Nat.zero_le _) (by unfold bs_F; omega)
      have m4' : f_X4_howManyPlain (nI (A 3)) gv kd sd (nI g) = some (nI (sp_np A g (A 3))) := m4
      have m7' : f_X7_keepsFound_L24 sz it s st (nI g) (nI r) p3 bs_F 0 0 = Option.bind (f_X7_lacks sz s (nI r) p3 (nI (sp_np A g (A 3)))) fun z => if (0 : Int32) ≤ z.1 then f_X7_keepsFound_L85 sz it z.2 st (nI g) (nI r) p3 bs_F 0 0 else some (z.1, z.2) := m7
      have hnp := sp_np_le A g (A 3)
      rw [if_neg (not_not_intro hr0), if_neg (not_not_intro hr0), m4', m7']
      simp only [Option.bind_some]
      rcases q3 with q3 | ⟨k, k1, k2⟩
      · rw [rw_run0 hr q3, fd_lacks0 hr (q2.symm.trans q3)]
        exact ⟨_, rfl, rfl⟩
      · by_cases hx : 0 ≤ p3.toInt ∧ p3.toInt ≤ (k : Int) - (sp_np A g (A 3) : Nat)
        · have rr : f_X3_findingOfRun le (nI r) p3 (nI (sp_np A g (A 3))) = some 0 := by
            rw [rw_run hr k1 k2, nI_toInt (by omega), if_pos ⟨hx.1, by omega, hx.2⟩]
          have rl : f_X7_lacks sz s (nI r) p3 (nI (sp_np A g (A 3))) = some (0, s) := by
            rw [fd_lacks hr k1 (q2.symm.trans k2) _ _ (by omega), if_pos hx]
          rw [rr, rl]
          simp only [Option.bind_some]
          obtain ⟨i, j1, j2, rfl⟩ := sm_nat (x := p3) (n := 40) ⟨hx.1, by omega⟩
          have hit := nI_toInt j2
          have hin : i + sp_np A g (A 3) ≤ 40 := by omega
          obtain ⟨res, c1, c2⟩ := fd_keeps hs hc hi hg4 hr hin q4 (le := le) (sz := sz) s s (nI (A 2)) bs_F 0 0 (by omega) (by unfold bs_F; omega)
          have c1' : f_X6_keepsFound_L55 s (nI (A 2)) (nI (A 3)) gv lk kd sd G le (nI g) (nI r) (nI i) bs_F 0 0 = some (res, 0) := c1
          have c2' : f_X7_keepsFound_L85 sz it s st (nI g) (nI r) (nI i) bs_F 0 0 = some (res, 0) := c2
          rw [if_pos trivial, if_pos (show (0 : Int32) ≤ 0 by decide), c1', c2']
          exact ⟨_, rfl, rfl⟩
        · have rr : f_X3_findingOfRun le (nI r) p3 (nI (sp_np A g (A 3))) = some 2 := by
            rw [rw_run hr k1 k2, nI_toInt (by omega), if_neg (fun z => hx ⟨z.1, z.2.2⟩)]
          have rl : f_X7_lacks sz s (nI r) p3 (nI (sp_np A g (A 3))) = some (-1000012, 2) := by
            rw [fd_lacks hr k1 (q2.symm.trans k2) _ _ (by omega), if_neg hx]
          rw [rr, rl]
          exact ⟨_, rfl, rfl⟩
    · rw [if_pos hr0, if_pos hr0]
      exact ⟨_, rfl, rfl⟩
  · rw [if_pos hg, if_pos hg]
    exact ⟨_, rfl, rfl⟩
/-- a trial, at one hope -/
theorem tp_trial (hs : sp_at st A) (hi : sp_iv A) (hc : sp_c A kp gv lk kd sd) (hd : sp_d A dd dy) (told : Int32) (hb : told = 0 ∨ told = 1) {g : Nat} (hg : g < A 2) (h o1 o2 o3 o4 o5 o6 : Int32) (ok og od oy ol oi os : Nat → Int32) : ∃ kp' gv' dd' dy' lk' kd' sd' kp2 sd2 : Nat → Int32, f_X4_become o1 o2 o3 o4 o5 o6 ok og od oy ol oi os told (nI (A 0)) (nI (A 1)) (nI (A 2)) (nI (A 3)) (nI (A 4)) kp gv dd dy lk kd sd = some (told, nI (A 0), nI (A 1), nI (A 2), nI (A 3), nI (A 4), kp', gv', dd', dy', lk', kd', sd') ∧ f_X4_settleByDays (nI (A 3)) (nI (A 4)) kp' gv' dy' lk' kd' sd' h = some (nI (sp_days A h 10 4), kp2, sd2) ∧ kp2 g = nI (sp_days A h 10 (5 + g)) ∧ f_X4_howManyKept (nI (A 3)) gv' sd2 (nI g) = some (nI (sp_kept (sp_days A h 10) (nI g) (A 3))) := by
  obtain ⟨kp', gv', dd', dy', lk', kd', sd', b1, b2, b3⟩ := cp_become o1 o2 o3 o4 o5 o6 ok og od oy ol oi os told (nI (A 0)) (nI (A 1)) (nI (A 2)) (nI (A 3)) (nI (A 4)) kp gv dd dy lk kd sd hb
  obtain ⟨c1, c2⟩ := cp_c hi hc hd b2 b3
  obtain ⟨kp2, sd2, d1, d2⟩ := e4_days hi c2 h bs_F 0 kp' sd' (by omega) (by unfold bs_F; omega) c1
  obtain ⟨f1, f2⟩ := sp_days_ok hi h 10
  have f3 : sp_days A h 10 3 = A 3 := f2 3 (by omega) (by omega) (by omega)
  have f4 : sp_days A h 10 2 = A 2 := f2 2 (by omega) (by omega) (by omega)
  have k1 := e4_kept_L d1 f1 (nI g) bs_F 0 (Nat.zero_le _) (by have := f1.2.2.2.1; unfold bs_F; omega)
  rw [f3] at k1
  exact ⟨kp', gv', dd', dy', lk', kd', sd', kp2, sd2, b1, d2, d1.1 g (by omega), k1⟩
theorem tq_settles (h : R_N A told wax stick givers promises pan kp gv dd dy lk kd sd th st) (as : Nat → Int32) (km : Int32) (t1 t2 t3 t4 t5 t6 : Int32) (tk tg td ty tl ti ts : Nat → Int32) (hb : t1 = 0 ∨ t1 = 1) (p1 p2 p3 : Int32) : ∃ z w, f_X6_settles told wax stick givers promises pan kp gv dd dy lk kd sd t1 t2 t3 t4 t5 t6 tk tg td ty tl ti ts p1 p2 p3 = some z ∧ f_X7_settles st as km p1 p2 p3 = some w ∧ z.1 = w.1 ∧ (z.2.1 = 0 ∨ z.2.1 = 1) ∧ R_N A told wax stick givers promises pan kp gv dd dy lk kd sd th w.2.1 := by
  have h' := h
  obtain ⟨hs, hi, hc, hd, rfl, rfl, rfl, rfl, rfl, rfl, ht⟩ := h
  have h2 := hi.2.2.1
  have htb : told = 0 ∨ told = 1 := by
    rcases ht with ⟨q, _⟩ | ⟨q, _⟩
    · exact Or.inl q
    · exact Or.inr q
  unfold f_X6_settles f_X7_settles
  have e0 : (0 : Int64).toInt = 0 := by decide
  have e1 : (1 : Int64).toInt = 1 := by decide
  have e2 : (20 : Int64).toInt = 20 := by decide
  have i0 : (0 : Int32).toInt = 0 := by decide
  have i2 : (20 : Int32).toInt = 20 := by decide
  rw [e6_isGiver (by omega), e7_isGiver hs hi, e6_isWithin, i0, i2, e6_isEither, e7_in, e7_in, sm_t64, sm_t64, e0, e1, e2]
  simp only [Option.bind_some, sm_z]
  by_cases hg : 0 ≤ p1.toInt ∧ p1.toInt < (A 2 : Nat)
  · obtain ⟨g, g1, g2, rfl⟩ := tp_nat hg
    rw [if_neg (not_not_intro hg), if_neg (not_not_intro hg)]
    by_cases hg2 : 0 ≤ p2.toInt ∧ p2.toInt ≤ 20
    · rw [if_neg (not_not_intro hg2), if_neg (not_not_intro hg2)]
      by_cases hg3 : 0 ≤ p3.toInt ∧ p3.toInt ≤ 1
      · obtain ⟨kp', gv', dd', dy', lk', kd', sd', kp2, sd2, b1, b2, b3, b4⟩ := tp_trial hs hi hc hd told htb g1 p2 t1 t2 t3 t4 t5 t6 tk tg td ty tl ti ts
        obtain ⟨st', as', s1, s2⟩ := e7_settleAll hs hi as km g1 p2
        have hN : R_N A told (nI (A 0)) (nI (A 1)) (nI (A 2)) (nI (A 3)) (nI (A 4)) kp gv dd dy lk kd sd told st' := ⟨s1, hi, hc, hd, rfl, rfl, rfl, rfl, rfl, rfl, ht⟩
        rw [if_neg (not_not_intro hg3), if_neg (not_not_intro hg3), b1, s2]
        simp only [Option.bind_some]
        rw [b2]
        simp only [Option.bind_some]
        by_cases hz : p3 = 0
        · rw [if_pos hz, if_pos hz, if_pos (bs_inN (by omega) (by omega)), nI_clamp g2]
          exact ⟨_, _, rfl, rfl, b3, htb, hN⟩
        · rw [if_neg hz, if_neg hz, b4]
          exact ⟨_, _, rfl, rfl, rfl, htb, hN⟩
      · rw [if_pos hg3, if_pos hg3]
        exact ⟨_, _, rfl, rfl, rfl, hb, h'⟩
    · rw [if_pos hg2, if_pos hg2]
      exact ⟨_, _, rfl, rfl, rfl, hb, h'⟩
  · rw [if_pos hg, if_pos hg]
    exact ⟨_, _, rfl, rfl, rfl, hb, h'⟩
theorem tp_best (hi : sp_iv A) (hc : sp_c A kp gv lk kd sd) (hd : sp_d A dd dy) (told : Int32) (hb : told = 0 ∨ told = 1) {g : Nat} (hg : g < A 2) (hg4 : g < 4) : ∀ (n k : Nat) (st as : Nat → Int32) (km x2 x3 t1 t2 t3 t4 t5 t6 : Int32) (tk tg td ty tl ti ts : Nat → Int32), k ≤ 21 → 21 - k < n → sp_at st A → (t1 = 0 ∨ t1 = 1) → ∃ z w, f_X6_bestHeavy_L18 told (nI (A 0)) (nI (A 1)) (nI (A 2)) (nI (A 3)) (nI (A 4)) kp gv dd dy lk kd sd (nI g) n t1 t2 t3 t4 t5 t6 tk tg td ty tl ti ts x2 x3 (nI k) = some z ∧ f_X7_bestHeavy_L18 (nI g) n st as km x2 x3 (nI k) = some w ∧ z.1 = w.1 ∧ (z.2.1 = 0 ∨ z.2.1 = 1) ∧ sp_at w.2.1 A := by
  intro n
  induction n with
  | zero => intro k _ _ _ _ _ _ _ _ _ _ _ _ _ _ _ _ _ _ _ h2; omega
  | succ n ih =>
    intro k st as km x2 x3 t1 t2 t3 t4 t5 t6 tk tg td ty tl ti ts h1 h2 hs h3
    rw [f_X6_bestHeavy_L18_s, f_X7_bestHeavy_L18_s, nI_1]
    have e9 : ((20 : Int32) < nI k) = (20 < k) := propext (nI_ltI (a := 20) (by omega) (by omega))
    simp only [e9]
    by_cases hk : k = 21
    · have hk2 : 20 < k := by omega
      rw [if_pos hk2, if_pos hk2]
      exact ⟨_, _, rfl, rfl, rfl, h3, hs⟩
    · have hk2 : ¬ 20 < k := by omega
      obtain ⟨kp', gv', dd', dy', lk', kd', sd', kp2, sd2, b1, b2, b3, b4⟩ := tp_trial hs hi hc hd told hb hg (nI k) t1 t2 t3 t4 t5 t6 tk tg td ty tl ti ts
      obtain ⟨st', as', s1, s2⟩ := e7_settleAll hs hi as km hg (nI k)
      have bg : bs_in (nI g) 4 = true := bs_inN hg4 (by omega)
      rw [if_neg hk2, if_neg hk2, b1, s2]
      simp only [Option.bind_some]
      rw [b2]
      simp only [Option.bind_some, bg, if_true]
      rw [nI_clamp (by omega), b3]
      by_cases hv : nI (sp_days A (nI k) 10 (5 + g)) ≤ x3
      · rw [if_pos hv, if_pos hv, if_pos hv]
        exact ih (k + 1) _ _ _ _ _ _ _ _ _ _ _ _ _ _ _ _ _ _ (by omega) (by omega) s1 hb
      · rw [if_neg hv, if_neg hv, if_neg hv]
        exact ih (k + 1) _ _ _ _ _ _ _ _ _ _ _ _ _ _ _ _ _ _ (by omega) (by omega) s1 hb
theorem tq_bestHeavy (h : R_N A told wax stick givers promises pan kp gv dd dy lk kd sd th st) (as : Nat → Int32) (km : Int32) (t1 t2 t3 t4 t5 t6 : Int32) (tk tg td ty tl ti ts : Nat → Int32) (hb : t1 = 0 ∨ t1 = 1) (p1 : Int32) : ∃ z w, f_X6_bestHeavy told wax stick givers promises pan kp gv dd dy lk kd sd t1 t2 t3 t4 t5 t6 tk tg td ty tl ti ts p1 = some z ∧ f_X7_bestHeavy st as km p1 = some w ∧ z.1 = w.1 ∧ (z.2.1 = 0 ∨ z.2.1 = 1) ∧ R_N A told wax stick givers promises pan kp gv dd dy lk kd sd th w.2.1 := by
  have h' := h
  obtain ⟨hs, hi, hc, hd, rfl, rfl, rfl, rfl, rfl, rfl, ht⟩ := h
  have h2 := hi.2.2.1
  have htb : told = 0 ∨ told = 1 := by
    rcases ht with ⟨q, _⟩ | ⟨q, _⟩
    · exact Or.inl q
    · exact Or.inr q
  unfold f_X6_bestHeavy f_X7_bestHeavy
  rw [e6_isGiver (by omega), e7_isGiver hs hi]
  simp only [Option.bind_some, sm_z]
  by_cases hg : 0 ≤ p1.toInt ∧ p1.toInt < (A 2 : Nat)
  · obtain ⟨g, g1, g2, rfl⟩ := tp_nat hg
    obtain ⟨z, w, z1, z2, z3, z4, z5⟩ := tp_best hi hc hd told htb g1 (by omega) bs_F 0 st as km 0 (-1) t1 t2 t3 t4 t5 t6 tk tg td ty tl ti ts (by omega) (by unfold bs_F; omega) hs hb
    rw [if_neg (not_not_intro hg), if_neg (not_not_intro hg)]
    exact ⟨z, w, z1, z2, z3, z4, ⟨z5, hi, hc, hd, rfl, rfl, rfl, rfl, rfl, rfl, ht⟩⟩
  · rw [if_pos hg, if_pos hg]
    exact ⟨_, _, rfl, rfl, rfl, hb, h'⟩
end TB
