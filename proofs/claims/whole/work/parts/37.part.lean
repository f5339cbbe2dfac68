/-! a giver, a promise, a part of the scales, on both sides -/
def tk_R (D : Nat → Nat) (wax stick givers promises : Int32) (kp gv dd dy lk kd sd rd : Nat → Int32) : Prop := sp_at rd D ∧ sp_iv D ∧ sp_c D kp gv lk kd sd ∧ sp_d D dd dy ∧ wax = nI (D 0) ∧ stick = nI (D 1) ∧ givers = nI (D 2) ∧ promises = nI (D 3) ∧ D 4 = 0 ∧ 1 ≤ D 1 ∧ ∀ j, j < 8 → sd j = 0 ∧ D (49 + j) = 0
theorem tk_R.giver {D : Nat → Nat} {wax stick givers promises : Int32} {kp gv dd dy lk kd sd rd : Nat → Int32} (h : tk_R D wax stick givers promises kp gv dd dy lk kd sd rd) (h3 : D 3 = 0) (h2 : D 2 < 4) {v : Nat} (hv : v ≤ 10) : tk_R (sp_up (sp_up D 2 (D 2 + 1)) (5 + D 2) v) wax stick (nI (D 2 + 1)) promises (upd kp (D 2) (nI v)) gv dd dy lk kd sd (upd (upd rd 2 (nI (D 2 + 1))) (5 + D 2) (nI v)) := by
  obtain ⟨a1, a2, a3, a4, a5, a6, a7, a8, a9, a10, a11⟩ := h
  obtain ⟨i0, i1, i2, i3, i4, i5, i6⟩ := a2
  have hA := tp_at (tp_at a1 2 (D 2 + 1)) (5 + D 2) v
  have e0 : sp_up (sp_up D 2 (D 2 + 1)) (5 + D 2) v 0 = D 0 := by rw [tp_up _ _ _ _ (by omega), tp_up _ _ _ _ (by omega)]
  have e1 : sp_up (sp_up D 2 (D 2 + 1)) (5 + D 2) v 1 = D 1 := by rw [tp_up _ _ _ _ (by omega), tp_up _ _ _ _ (by omega)]
  have e2 : sp_up (sp_up D 2 (D 2 + 1)) (5 + D 2) v 2 = D 2 + 1 := by rw [tp_up _ _ _ _ (by omega), tp_us]
  have e3 : sp_up (sp_up D 2 (D 2 + 1)) (5 + D 2) v 3 = D 3 := by rw [tp_up _ _ _ _ (by omega), tp_up _ _ _ _ (by omega)]
  have e4 : sp_up (sp_up D 2 (D 2 + 1)) (5 + D 2) v 4 = D 4 := by rw [tp_up _ _ _ _ (by omega), tp_up _ _ _ _ (by omega)]
  have eg : ∀ g, g ≠ D 2 → sp_up (sp_up D 2 (D 2 + 1)) (5 + D 2) v (5 + g) = D (5 + g) := fun g hg => by rw [tp_up _ _ _ _ (by omega), tp_up _ _ _ _ (by omega)]
  refine ⟨hA, ⟨by omega, by omega, by omega, by omega, by omega, fun g hg => ?_, fun p hp => by omega⟩, ⟨fun g hg => ?_, fun p hp => by omega⟩, fun p hp => by omega, by rw [e0]; exact a5, by rw [e1]; exact a6, by rw [e2], by rw [e3]; exact a8, by rw [e4]; exact a9, by rw [e1]; exact a10, fun j hj => ⟨(a11 j hj).1, ?_⟩⟩
  · by_cases hgd : g = D 2
    · rw [hgd, tp_us]
      exact hv
    · rw [eg g hgd]
      exact i5 g hg
  · by_cases hgd : g = D 2
    · rw [hgd, tp_us, pk_us]
    · rw [eg g hgd, pk_un hgd]
      exact a3.1 g (by omega)
  · rw [tp_up _ _ _ _ (by omega), tp_up _ _ _ _ (by omega)]
    exact (a11 j hj).2
def tk_D (D : Nat → Nat) (K v1 v2 v3 v4 : Nat) : Nat → Nat := sp_up (sp_up (sp_up (sp_up (sp_up (sp_up D (9 + D 3) K) 3 (D 3 + 1)) (17 + D 3) v1) (25 + D 3) v2) (33 + D 3) v3) (41 + D 3) v4
theorem tk_R.promise {D : Nat → Nat} {wax stick givers promises : Int32} {kp gv dd dy lk kd sd rd : Nat → Int32} (h : tk_R D wax stick givers promises kp gv dd dy lk kd sd rd) (h3 : D 3 < 8) {K v1 v2 v3 v4 : Nat} (hK : 1 ≤ K ∧ K ≤ 5) (h1 : v1 < D 2) (h2 : v2 ≤ 5) (h33 : v3 ≤ 9) (h4 : v4 ≤ 20) : tk_R (tk_D D K v1 v2 v3 v4) wax stick givers (nI (D 3 + 1)) kp (upd gv (D 3) (nI v1)) (upd dd (D 3) (nI v2)) (upd dy (D 3) (nI v3)) (upd lk (D 3) (nI v4)) (upd kd (D 3) (nI K)) sd (upd (upd (upd (upd (upd (upd rd (9 + D 3) (nI K)) 3 (nI (D 3 + 1))) (17 + D 3) (nI v1)) (25 + D 3) (nI v2)) (33 + D 3) (nI v3)) (41 + D 3) (nI v4)) := by
  obtain ⟨a1, a2, a3, a4, a5, a6, a7, a8, a9, a10, a11⟩ := h
  obtain ⟨i0, i1, i2, i3, i4, i5, i6⟩ := a2
  have hA := tp_at (tp_at (tp_at (tp_at (tp_at (tp_at a1 (9 + D 3) K) 3 (D 3 + 1)) (17 + D 3) v1) (25 + D 3) v2) (33 + D 3) v3) (41 + D 3) v4
  have e0 : tk_D D K v1 v2 v3 v4 0 = D 0 := by unfold tk_D; simp (disch := omega) only [tp_up]
  have e1 : tk_D D K v1 v2 v3 v4 1 = D 1 := by unfold tk_D; simp (disch := omega) only [tp_up]
  have e2 : tk_D D K v1 v2 v3 v4 2 = D 2 := by unfold tk_D; simp (disch := omega) only [tp_up]
  have e3 : tk_D D K v1 v2 v3 v4 3 = D 3 + 1 := by unfold tk_D; simp (disch := omega) only [tp_up, tp_us]
  have e4 : tk_D D K v1 v2 v3 v4 4 = D 4 := by unfold tk_D; simp (disch := omega) only [tp_up]
  have eg : ∀ g, g < 4 → tk_D D K v1 v2 v3 v4 (5 + g) = D (5 + g) := fun g hg => by unfold tk_D; simp (disch := omega) only [tp_up]
  have es : ∀ j, j < 8 → tk_D D K v1 v2 v3 v4 (49 + j) = D (49 + j) := fun j hj => by unfold tk_D; simp (disch := omega) only [tp_up]
  have p9 : tk_D D K v1 v2 v3 v4 (9 + D 3) = K := by unfold tk_D; simp (disch := omega) only [tp_up, tp_us]
  have p17 : tk_D D K v1 v2 v3 v4 (17 + D 3) = v1 := by unfold tk_D; simp (disch := omega) only [tp_up, tp_us]
  have p25 : tk_D D K v1 v2 v3 v4 (25 + D 3) = v2 := by unfold tk_D; simp (disch := omega) only [tp_up, tp_us]
  have p33 : tk_D D K v1 v2 v3 v4 (33 + D 3) = v3 := by unfold tk_D; simp (disch := omega) only [tp_up, tp_us]
  have p41 : tk_D D K v1 v2 v3 v4 (41 + D 3) = v4 := by unfold tk_D; simp (disch := omega) only [tp_us]
  have q9 : ∀ p, p < D 3 → tk_D D K v1 v2 v3 v4 (9 + p) = D (9 + p) := fun p hp => by unfold tk_D; simp (disch := omega) only [tp_up]
  have q17 : ∀ p, p < D 3 → tk_D D K v1 v2 v3 v4 (17 + p) = D (17 + p) := fun p hp => by unfold tk_D; simp (disch := omega) only [tp_up]
  have q25 : ∀ p, p < D 3 → tk_D D K v1 v2 v3 v4 (25 + p) = D (25 + p) := fun p hp => by unfold tk_D; simp (disch := omega) only [tp_up]
  have q33 : ∀ p, p < D 3 → tk_D D K v1 v2 v3 v4 (33 + p) = D (33 + p) := fun p hp => by unfold tk_D; simp (disch := omega) only [tp_up]
  have q41 : ∀ p, p < D 3 → tk_D D K v1 v2 v3 v4 (41 + p) = D (41 + p) := fun p hp => by unfold tk_D; simp (disch := omega) only [tp_up]
  refine ⟨hA, ⟨by omega, by omega, by omega, by omega, by omega, fun g hg => by rw [eg g hg]; exact i5 g hg, fun p hp => ?_⟩, ⟨fun g hg => by rw [eg g (by omega)]; exact a3.1 g (by omega), fun p hp => ?_⟩, fun p hp => ?_, by rw [e0]; exact a5, by rw [e1]; exact a6, by rw [e2]; exact a7, by rw [e3], by rw [e4]; exact a9, by rw [e1]; exact a10, fun j hj => ⟨(a11 j hj).1, by rw [es j hj]; exact (a11 j hj).2⟩⟩
  · by_cases hpd : p = D 3
    · rw [hpd, p9, p17, p25, p33, p41, es _ h3, e2, (a11 _ h3).2]
      exact ⟨hK.2, hK.1, h1, h2, h33, h4, by omega⟩
    · rw [q9 p (by omega), q17 p (by omega), q25 p (by omega), q33 p (by omega), q41 p (by omega), es p (by omega), e2]
      exact i6 p (by omega)
  · by_cases hpd : p = D 3
    · rw [hpd, p9, p17, p41, es _ h3, (a11 _ h3).2, pk_us, pk_us, pk_us, (a11 _ h3).1]
      exact ⟨rfl, rfl, rfl, rfl⟩
    · rw [q9 p (by omega), q17 p (by omega), q41 p (by omega), es p (by omega), pk_un hpd, pk_un hpd, pk_un hpd]
      exact a3.2 p (by omega)
  · by_cases hpd : p = D 3
    · rw [hpd, p25, p33, pk_us, pk_us]
      exact ⟨rfl, rfl⟩
    · rw [q25 p (by omega), q33 p (by omega), pk_un hpd, pk_un hpd]
      exact a4 p (by omega)
section TP
variable {b : Nat} {t : Nat → Nat} {T L : Nat → Int32}
theorem tk_giver (hb : b ≤ 120) (hL : ∀ i, i < b → L i = nI (t i) ∧ t i ≤ 255) (hT : ∀ i, i < b → T i = nI (t i) ∧ t i ≤ 255) {p : Nat} (hp : p < b) (hg : t p = 103) {D : Nat → Nat} {rd kp : Nat → Int32} (hs : sp_at rd D) (h3 : D 3 = 0) (h2 : D 2 < 4) (wr : Int32) :
    (∃ v p' : Nat, p < p' ∧ p' ≤ b ∧ v ≤ 10 ∧ f_X5_readGiver L (nI b) (nI p) 0 (nI (D 2)) kp = some (nI p', 0, nI (D 2 + 1), upd kp (D 2) (nI v)) ∧ f_X7_readGiver T (nI b) (nI (tk_pl b t p)) (tk_tk b t p) (tk_vl b t p) (nI p) wr rd = some (1, nI (tk_pl b t p'), tk_tk b t p', tk_vl b t p', nI p', wr, upd (upd rd 2 (nI (D 2 + 1))) (5 + D 2) (nI v))) ∨
    (∃ (q f g' pl tk vl : Int32) (kp' rd' : Nat → Int32), ¬ f = 0 ∧ f_X5_readGiver L (nI b) (nI p) 0 (nI (D 2)) kp = some (q, f, g', kp') ∧ f_X7_readGiver T (nI b) (nI (tk_pl b t p)) (tk_tk b t p) (tk_vl b t p) (nI p) wr rd = some (0, pl, tk, vl, q, f, rd')) := by
  have e24 : (rd 2 = (4 : Int32)) = False := by
    rw [hs 2 (by omega)]
    exact eq_false (fun z => by have := (nI_eq (b := 4) (by omega) (by omega)).mp z; omega)
  have e30 : rd 3 ≤ 0 := by
    rw [hs 3 (by omega), h3]
    decide
  have er2 : rd 2 + 1 = nI (D 2 + 1) := by rw [hs 2 (by omega), nI_1]
  have eix : (5 : Int32) + nI (D 2 + 1) - 1 = nI (5 + D 2) := by
    rw [show (5 : Int32) = nI 5 from rfl, nI_add, show 5 + (D 2 + 1) = (5 + D 2) + 1 by omega, nI_pred]
  obtain ⟨a1, a2, a3⟩ := tk_at hp (by decide) hg
  have b4 : bs_in (nI (D 2)) 4 = true := bs_inN h2 (by omega)
  unfold f_X5_readGiver f_X7_readGiver
  simp only [e24, e30, if_true, if_false]
  rw [er2, pk_us, eix, a1, tk_next hb hT (by omega), nI_1]
  simp only [Option.bind_some, b4, if_true]
  rw [nI_clamp (by omega), nI_1]
  rcases tk_pair hb hL hT (p := p + 1) (x := 59) (i := 5 + D 2) (by omega) (by decide) (by omega) (by omega) 0 10 wr (upd rd 2 (nI (D 2 + 1))) with ⟨v, p', z1, y1, y2, y3, y4, y5, y6, y7, y8⟩ | ⟨v, z1, f1, q, f, pl, tk, vl, rd', y1, y2, y3, y4⟩
  · have y7' : f_X5_takeSign L (nI b) z1 0 59 = some (nI p', 0) := y7
    have y8' : f_X7_takesNumber T (nI b) (nI (tk_pl b t (p + 1))) (tk_tk b t (p + 1)) (tk_vl b t (p + 1)) (nI (p + 1)) wr (upd rd 2 (nI (D 2 + 1))) 0 10 (nI (5 + D 2)) 59 = some (1, nI (tk_pl b t p'), tk_tk b t p', tk_vl b t p', nI p', wr, upd (upd rd 2 (nI (D 2 + 1))) (5 + D 2) (nI v)) := y8
    have hv : v ≤ 10 := by
      have : (10 : Int32).toInt = 10 := by decide
      omega
    rw [y6, y8']
    simp only [Option.bind_some]
    rw [y7']
    exact Or.inl ⟨v, p', by omega, y2, hv, rfl, rfl⟩
  · have y3' : f_X5_takeSign L (nI b) z1 f1 59 = some (q, f) := y3
    have y4' : f_X7_takesNumber T (nI b) (nI (tk_pl b t (p + 1))) (tk_tk b t (p + 1)) (tk_vl b t (p + 1)) (nI (p + 1)) wr (upd rd 2 (nI (D 2 + 1))) 0 10 (nI (5 + D 2)) 59 = some (0, pl, tk, vl, q, f, rd') := y4
    rw [y2, y4']
    simp only [Option.bind_some]
    rw [y3']
    exact Or.inr ⟨_, _, _, _, _, _, _, _, y1, rfl, rfl⟩
theorem tk_promise (hb : b ≤ 120) (hL : ∀ i, i < b → L i = nI (t i) ∧ t i ≤ 255) (hT : ∀ i, i < b → T i = nI (t i) ∧ t i ≤ 255) {p x : Nat} (hp : p < b) (hx : tk_let x = true) (hg : t p = x) {D : Nat → Nat} {rd : Nat → Int32} (gv dd dy lk kd : Nat → Int32) (hs : sp_at rd D) (h3 : D 3 < 8) (h2 : D 2 ≤ 4) (wr : Int32) (K : Nat) :
    (∃ v1 v2 v3 v4 p' : Nat, p < p' ∧ p' ≤ b ∧ v1 < D 2 ∧ v2 ≤ 5 ∧ v3 ≤ 9 ∧ v4 ≤ 20 ∧ f_X5_readPromise L (nI b) (nI p) 0 (nI (D 2)) (nI (D 3)) gv dd dy lk kd (nI K) = some (nI p', 0, nI (D 3 + 1), upd gv (D 3) (nI v1), upd dd (D 3) (nI v2), upd dy (D 3) (nI v3), upd lk (D 3) (nI v4), upd kd (D 3) (nI K)) ∧ f_X7_readPromise T (nI b) (nI (tk_pl b t p)) (tk_tk b t p) (tk_vl b t p) (nI p) wr rd (nI K) = some (1, nI (tk_pl b t p'), tk_tk b t p', tk_vl b t p', nI p', wr, upd (upd (upd (upd (upd (upd rd (9 + D 3) (nI K)) 3 (nI (D 3 + 1))) (17 + D 3) (nI v1)) (25 + D 3) (nI v2)) (33 + D 3) (nI v3)) (41 + D 3) (nI v4))) ∨
    (∃ (q f pr' pl tk vl : Int32) (gv' dd' dy' lk' kd' rd' : Nat → Int32), ¬ f = 0 ∧ f_X5_readPromise L (nI b) (nI p) 0 (nI (D 2)) (nI (D 3)) gv dd dy lk kd (nI K) = some (q, f, pr', gv', dd', dy', lk', kd') ∧ f_X7_readPromise T (nI b) (nI (tk_pl b t p)) (tk_tk b t p) (tk_vl b t p) (nI p) wr rd (nI K) = some (0, pl, tk, vl, q, f, rd')) := by
  have e38 : (rd 3 = (8 : Int32)) = False := by
    rw [hs 3 (by omega)]
    exact eq_false (fun z => by have := (nI_eq (b := 8) (by omega) (by omega)).mp z; omega)
  obtain ⟨a1, a2, a3⟩ := tk_at hp hx hg
  have b8 : bs_in (nI (D 3)) 8 = true := bs_inN h3 (by omega)
  have b9 : bs_in (nI (9 + D 3)) 57 = true := bs_inN (by omega) (by omega)
  have e9 : (9 : Int32) + nI (D 3) = nI (9 + D 3) := nI_add 9 _
  have e17 : (17 : Int32) + nI (D 3) = nI (17 + D 3) := nI_add 17 _
  have e25 : (25 : Int32) + nI (D 3) = nI (25 + D 3) := nI_add 25 _
  have e33 : (33 : Int32) + nI (D 3) = nI (33 + D 3) := nI_add 33 _
  have e41 : (41 : Int32) + nI (D 3) = nI (41 + D 3) := nI_add 41 _
  have u3 : upd rd (9 + D 3) (nI K) 3 = nI (D 3) := (pk_un (by omega)).trans (hs 3 (by omega))
  have u2 : upd (upd rd (9 + D 3) (nI K)) 3 (nI (D 3 + 1)) 2 = nI (D 2) := (pk_un (by omega)).trans ((pk_un (by omega)).trans (hs 2 (by omega)))
  have n10 : ¬ (1 : Int32) = 0 := by decide
  have hhi : (nI (D 2) - 1).toInt = (D 2 : Int) - 1 := pk_sub_toInt (b := 1) (by omega) (by omega)
  have s59 : (59 : Int32) = nI 59 := rfl
  have s44 : (44 : Int32) = nI 44 := rfl
  unfold f_X5_readPromise f_X7_readPromise
  simp only [e38, if_false]
  rw [hs 3 (by omega), e9, e17, e25, e33, e41, nI_clamp (n := 9 + D 3) (by omega), u3, nI_1 (D 3), u2, a1, tk_next hb hT (by omega), s44, s59]
  simp only [Option.bind_some, b8, b9, if_true, nI_1]
  rw [nI_clamp (n := D 3) (by omega)]
  generalize upd (upd rd (9 + D 3) (nI K)) 3 (nI (D 3 + 1)) = r1
  rcases tk_pair hb hL hT (p := p + 1) (x := 44) (i := 17 + D 3) (by omega) (by decide) (by omega) (by omega) 0 (nI (D 2) - 1) wr r1 with ⟨v1, p1, z1, y1, y2, y3, y4, y5, y6, y7, y8⟩ | ⟨v, z1, f1, q, f, pl, tk, vl, rd', y1, y2, y3, y4⟩
  · rw [y6, y8]
    simp only [Option.bind_some, n10, if_false]
    rw [y7]
    simp only [Option.bind_some]
    rcases tk_pair hb hL hT (p := p1) (x := 44) (i := 25 + D 3) (by omega) (by decide) (by omega) (by omega) 0 5 wr (upd r1 (17 + D 3) (nI v1)) with ⟨v2, p2, zz1, x1, x2, x3, x4, x5, x6, x7, x8⟩ | ⟨v, zz1, f1, q, f, pl, tk, vl, rd', x1, x2, x3, x4⟩
    · rw [x6, x8]
      simp only [Option.bind_some, n10, if_false]
      rw [x7]
      simp only [Option.bind_some]
      rcases tk_pair hb hL hT (p := p2) (x := 44) (i := 33 + D 3) (by omega) (by decide) (by omega) (by omega) 0 9 wr (upd (upd r1 (17 + D 3) (nI v1)) (25 + D 3) (nI v2)) with ⟨v3, p3, zz2, w1, w2, w3, w4, w5, w6, w7, w8⟩ | ⟨v, zz2, f1, q, f, pl, tk, vl, rd', w1, w2, w3, w4⟩
      · rw [w6, w8]
        simp only [Option.bind_some, n10, if_false]
        rw [w7]
        simp only [Option.bind_some]
        rcases tk_pair hb hL hT (p := p3) (x := 59) (i := 41 + D 3) (by omega) (by decide) (by omega) (by omega) 0 20 wr (upd (upd (upd r1 (17 + D 3) (nI v1)) (25 + D 3) (nI v2)) (33 + D 3) (nI v3)) with ⟨v4, p4, zz3, s1, s2, s3, s4, s5, s6, s7, s8⟩ | ⟨v, zz3, f1, q, f, pl, tk, vl, rd', s1, s2, s3, s4⟩
        · rw [s6, s8]
          simp only [Option.bind_some, n10, if_false]
          rw [s7]
          have t5 : (5 : Int32).toInt = 5 := by decide
          have t9 : (9 : Int32).toInt = 9 := by decide
          have t20 : (20 : Int32).toInt = 20 := by decide
          exact Or.inl ⟨v1, v2, v3, v4, p4, by omega, s2, by omega, by omega, by omega, by omega, rfl, rfl⟩
        · rw [s2, s4]
          simp only [Option.bind_some, if_true]
          rw [s3]
          exact Or.inr ⟨_, _, _, _, _, _, _, _, _, _, _, _, s1, rfl, rfl⟩
      · rw [w2, w4]
        simp only [Option.bind_some, if_true]
        rw [w3]
        simp only [Option.bind_some, tk_num0 w1, tk_sign0 w1]
        exact Or.inr ⟨_, _, _, _, _, _, _, _, _, _, _, _, w1, rfl, rfl⟩
    · rw [x2, x4]
      simp only [Option.bind_some, if_true]
      rw [x3]
      simp only [Option.bind_some, tk_num0 x1, tk_sign0 x1]
      exact Or.inr ⟨_, _, _, _, _, _, _, _, _, _, _, _, x1, rfl, rfl⟩
  · rw [y2, y4]
    simp only [Option.bind_some, if_true]
    rw [y3]
    simp only [Option.bind_some, tk_num0 y1, tk_sign0 y1]
    exact Or.inr ⟨_, _, _, _, _, _, _, _, _, _, _, _, y1, rfl, rfl⟩
end TP
