/-! the tape read on both sides, token by token -/
section TR
variable {b : Nat} {t : Nat → Nat} {T L : Nat → Int32}
theorem tk_run0 {d p : Nat} (h : tk_let (t p) = true) : tk_run t d p = 0 := by
  cases d with
  | zero => rfl
  | succ d =>
    refine if_neg (fun z => ?_)
    have h1 := tk_figT.mp z
    have h2 : 97 ≤ t p ∧ t p ≤ 122 ∨ t p = 44 ∨ t p = 59 := of_decide_eq_true h
    omega
theorem tk_at {p x : Nat} (hp : p < b) (hx : tk_let x = true) (h : t p = x) : tk_pl b t p = p + 1 ∧ tk_tk b t p = 1 ∧ tk_vl b t p = nI x := by
  have hr : tk_run t (b - p) p = 0 := tk_run0 (by rw [h]; exact hx)
  unfold tk_pl tk_tk tk_vl
  have hnb : ¬ p = b := by omega
  have hlt : tk_let (t p) = true := by rw [h]; exact hx
  rw [if_neg hnb, if_neg hnb, if_neg hnb, if_pos hr, if_pos hr, if_pos hr, if_pos hlt, h]
  exact ⟨rfl, rfl, rfl⟩
theorem tk_isL (hb : b ≤ 120) (hT : ∀ i, i < b → T i = nI (t i) ∧ t i ≤ 255) {p x : Nat} (hp : p ≤ b) (hx : tk_let x = true) (hx2 : x ≤ 255) : f_X7_isLetter (tk_tk b t p) (tk_vl b t p) (nI x) = some (if p < b ∧ t p = x then 1 else 0) := by
  unfold f_X7_isLetter
  by_cases h : p < b ∧ t p = x
  · obtain ⟨a1, a2, a3⟩ := tk_at h.1 hx h.2
    rw [if_pos h, a2, a3, if_pos rfl, if_pos rfl]
  · rw [if_neg h]
    unfold tk_tk tk_vl
    by_cases h0 : p = b
    · rw [if_pos h0, if_neg (by decide)]
    · rw [if_neg h0, if_neg h0]
      by_cases hr : tk_run t (b - p) p = 0
      · rw [if_pos hr, if_pos hr]
        by_cases hl : tk_let (t p) = true
        · have ht := hT p (by omega)
          rw [if_pos hl, if_pos rfl, if_neg (fun z => h ⟨by omega, (nI_eq (by omega) (by omega)).mp z⟩)]
        · rw [if_neg hl, if_neg (by decide)]
      · rw [if_neg hr, if_neg hr]
        by_cases h2 : tk_run t (b - p) p ≤ 2
        · rw [if_pos h2, if_neg (by decide)]
        · rw [if_neg h2, if_neg (by decide)]
theorem tk_takes (hb : b ≤ 120) (hT : ∀ i, i < b → T i = nI (t i) ∧ t i ≤ 255) {p x : Nat} (hp : p ≤ b) (hx : tk_let x = true) (hx2 : x ≤ 255) (wr : Int32) : f_X7_takes T (nI b) (nI (tk_pl b t p)) (tk_tk b t p) (tk_vl b t p) (nI p) wr (nI x) = if p < b ∧ t p = x then some (1, nI (tk_pl b t (p + 1)), tk_tk b t (p + 1), tk_vl b t (p + 1), nI (p + 1), wr) else some (0, nI (tk_pl b t p), tk_tk b t p, tk_vl b t p, nI p, 1) := by
  unfold f_X7_takes
  rw [tk_isL hb hT hp hx hx2, Option.bind_some]
  by_cases h : p < b ∧ t p = x
  · obtain ⟨a1, a2, a3⟩ := tk_at h.1 hx h.2
    rw [if_pos h, if_pos h, if_neg (by decide), a1, tk_next hb hT (by omega)]
    rfl
  · rw [if_neg h, if_neg h, if_pos rfl]
    rfl
theorem tk_sign (hb : b ≤ 120) (hL : ∀ i, i < b → L i = nI (t i) ∧ t i ≤ 255) {p x : Nat} (hp : p ≤ b) (hx2 : x ≤ 255) : f_X5_takeSign L (nI b) (nI p) 0 (nI x) = if p < b ∧ t p = x then some (nI (p + 1), 0) else some (nI p, 1) := by
  unfold f_X5_takeSign
  have e1 : (nI b ≤ nI p) = (b ≤ p) := propext (nI_leI (by omega) (by omega))
  simp only [e1, if_true]
  by_cases h0 : b ≤ p
  · rw [if_pos h0, if_neg (by omega)]
    rfl
  · obtain ⟨t1, t2⟩ := hL p (by omega)
    have e2 : (nI (t p) = nI x) = (t p = x) := propext (nI_eq (by omega) (by omega))
    rw [if_neg h0, if_pos (bs_inN (by omega) (by omega)), nI_clamp (by omega), t1, nI_1]
    simp only [e2]
    by_cases h : t p = x
    · rw [if_pos h, if_pos ⟨by omega, h⟩]
    · rw [if_neg h, if_neg (fun z => h z.2)]
      rfl
theorem tk_sign0 {f : Int32} (hf : ¬ f = 0) (by' at' x : Int32) : f_X5_takeSign L by' at' f x = some (at', f) := by
  unfold f_X5_takeSign
  rw [if_neg hf]
theorem tk_num0 {f : Int32} (hf : ¬ f = 0) (by' at' x y : Int32) : f_X5_takeNumber L by' at' f x y = some (0, at', f) := by
  unfold f_X5_takeNumber
  rw [if_neg hf]
/-- a number and the sign behind it, on both sides -/
theorem tk_pair (hb : b ≤ 120) (hL : ∀ i, i < b → L i = nI (t i) ∧ t i ≤ 255) (hT : ∀ i, i < b → T i = nI (t i) ∧ t i ≤ 255) {p x i : Nat} (hp : p ≤ b) (hx : tk_let x = true) (hx2 : x ≤ 255) (hi : i < 57) (lo hi' wr : Int32) (rd : Nat → Int32) :
    (∃ (v p' : Nat) (a1 : Int32), p < p' ∧ p' ≤ b ∧ v ≤ 99 ∧ lo.toInt ≤ (v : Int) ∧ (v : Int) ≤ hi'.toInt ∧ f_X5_takeNumber L (nI b) (nI p) 0 lo hi' = some (nI v, a1, 0) ∧ f_X5_takeSign L (nI b) a1 0 (nI x) = some (nI p', 0) ∧ f_X7_takesNumber T (nI b) (nI (tk_pl b t p)) (tk_tk b t p) (tk_vl b t p) (nI p) wr rd lo hi' (nI i) (nI x) = some (1, nI (tk_pl b t p'), tk_tk b t p', tk_vl b t p', nI p', wr, upd rd i (nI v))) ∨
    (∃ (v a1 f1 q f pl tk vl : Int32) (rd' : Nat → Int32), ¬ f = 0 ∧ f_X5_takeNumber L (nI b) (nI p) 0 lo hi' = some (v, a1, f1) ∧ f_X5_takeSign L (nI b) a1 f1 (nI x) = some (q, f) ∧ f_X7_takesNumber T (nI b) (nI (tk_pl b t p)) (tk_tk b t p) (tk_vl b t p) (nI p) wr rd lo hi' (nI i) (nI x) = some (0, pl, tk, vl, q, f, rd')) := by
  have hle := tk_run_le t (b - p) p
  have c0 : f_X5_figuresFrom L (nI b) (nI p) = some (nI (tk_run t (b - p) p)) := by
    have q := tk_figs hb hL (p := p) bs_F (b - p) p rfl (by unfold bs_F; omega) (Nat.le_refl _) hp
    rw [show p + tk_run t (b - p) p - p = tk_run t (b - p) p by omega] at q
    exact q
  have e1 : (nI (tk_run t (b - p) p) < (1 : Int32)) = (tk_run t (b - p) p < 1) := propext (nI_ltI (b := 1) (by omega) (by omega))
  have e2 : (nI (tk_run t (b - p) p) ≤ (2 : Int32)) = (tk_run t (b - p) p ≤ 2) := propext (nI_leI (b := 2) (by omega) (by omega))
  have n10 : ¬ (1 : Int32) = 0 := by decide
  have n20 : ¬ (2 : Int32) = 0 := by decide
  by_cases h1 : 1 ≤ tk_run t (b - p) p ∧ tk_run t (b - p) p ≤ 2
  · have cs := tk_sum hb hL hp h1.1 h1.2 0 lo hi'
    obtain ⟨na, nb⟩ := tk_num_acc (t := t) rfl h1.1 h1.2
    have ct : f_X5_takeNumber L (nI b) (nI p) 0 lo hi' = if nI (tk_num t (tk_run t (b - p) p) p) < lo then some (0, nI p, 2) else if nI (tk_num t (tk_run t (b - p) p) p) ≤ hi' then some (nI (tk_num t (tk_run t (b - p) p) p), nI (p + tk_run t (b - p) p), 0) else some (0, nI p, 2) := by
      unfold f_X5_takeNumber
      rw [if_pos rfl, c0, Option.bind_some]
      simp only [e1, e2]
      rw [if_neg (by omega), if_pos h1.2]
      exact cs
    have hpb : ¬ p = b := by
      intro z
      have : tk_run t (b - p) p = 0 := by rw [z, Nat.sub_self]; rfl
      omega
    have hr0 : ¬ tk_run t (b - p) p = 0 := by omega
    have m1 : tk_pl b t p = p + tk_run t (b - p) p := by
      unfold tk_pl
      rw [if_neg hpb, if_neg hr0]
    have m2 : tk_tk b t p = 2 := by
      unfold tk_tk
      rw [if_neg hpb, if_neg hr0, if_pos h1.2]
    have m3 : tk_vl b t p = nI (tk_num t (tk_run t (b - p) p) p) := by
      unfold tk_vl
      rw [if_neg hpb, if_neg hr0, na]
    rw [m1, m2, m3]
    generalize tk_num t (tk_run t (b - p) p) p = v at *
    generalize tk_run t (b - p) p = r at *
    have hvt := nI_toInt (show v < 2 ^ 31 by omega)
    have ev : f_X7_in (nI v).toInt64 lo.toInt64 hi'.toInt64 = some (if lo.toInt ≤ (v : Int) ∧ (v : Int) ≤ hi'.toInt then 1 else 0) := by
      rw [e7_in, sm_t64, sm_t64, sm_t64, hvt]
    by_cases hv : lo.toInt ≤ (v : Int) ∧ (v : Int) ≤ hi'.toInt
    · have g1 : ¬ nI v < lo := by rw [Int32.lt_iff_toInt_lt, hvt]; omega
      have g2 : nI v ≤ hi' := by rw [Int32.le_iff_toInt_le, hvt]; exact hv.2
      rw [if_neg g1, if_pos g2] at ct
      have cg := tk_sign hb hL (p := p + r) (x := x) (by omega) hx2
      have mg := tk_takes hb hT (p := p + r) (by omega) hx hx2 wr
      have mt : ∀ X, f_X7_takes T (nI b) (nI (tk_pl b t (p + r))) (tk_tk b t (p + r)) (tk_vl b t (p + r)) (nI (p + r)) wr (nI x) = some X → X.1 = 0 ∨ X.1 = 1 → f_X7_takesNumber T (nI b) (nI (p + r)) 2 (nI v) (nI p) wr rd lo hi' (nI i) (nI x) = some (X.1, X.2.1, X.2.2.1, X.2.2.2.1, X.2.2.2.2.1, X.2.2.2.2.2, upd rd i (nI v)) := by
        intro X hX hX1
        unfold f_X7_takesNumber
        rw [if_pos rfl, ev, Option.bind_some, if_neg (by rw [if_pos hv]; exact n10), if_pos (bs_inN hi (by omega)), tk_next hb hT (by omega), Option.bind_some]
        dsimp only
        rw [hX, Option.bind_some, if_pos hX1, nI_clamp (by omega)]
      by_cases hs : p + r < b ∧ t (p + r) = x
      · rw [if_pos hs] at cg mg
        exact Or.inl ⟨v, p + r + 1, nI (p + r), by omega, by omega, nb, hv.1, hv.2, ct, cg, mt _ mg (Or.inr rfl)⟩
      · rw [if_neg hs] at cg mg
        exact Or.inr ⟨_, _, _, _, _, _, _, _, _, n10, ct, cg, mt _ mg (Or.inl rfl)⟩
    · have g3 : f_X5_takeNumber L (nI b) (nI p) 0 lo hi' = some (0, nI p, 2) := by
        rw [ct]
        by_cases g1 : nI v < lo
        · rw [if_pos g1]
        · rw [if_neg g1, if_neg]
          intro g2
          rw [Int32.lt_iff_toInt_lt, hvt] at g1
          rw [Int32.le_iff_toInt_le, hvt] at g2
          exact hv ⟨by omega, g2⟩
      have mm : f_X7_takesNumber T (nI b) (nI (p + r)) 2 (nI v) (nI p) wr rd lo hi' (nI i) (nI x) = some (0, nI (p + r), 2, nI v, nI p, 2, rd) := by
        unfold f_X7_takesNumber
        rw [if_pos rfl, ev, Option.bind_some, if_pos (if_neg hv), if_pos rfl]
        rfl
      exact Or.inr ⟨_, _, _, _, _, _, _, _, _, n20, g3, tk_sign0 n20 _ _ _, mm⟩
  · have ct : f_X5_takeNumber L (nI b) (nI p) 0 lo hi' = some (0, nI p, 1) := by
      unfold f_X5_takeNumber
      rw [if_pos rfl, c0, Option.bind_some]
      simp only [e1, e2]
      by_cases q1 : tk_run t (b - p) p < 1
      · rw [if_pos q1]
        rfl
      · rw [if_neg q1, if_neg (by omega)]
        rfl
    have m2 : ¬ tk_tk b t p = 2 := by
      unfold tk_tk
      by_cases h0 : p = b
      · rw [if_pos h0]
        decide
      · rw [if_neg h0]
        by_cases hr : tk_run t (b - p) p = 0
        · rw [if_pos hr]
          by_cases hl : tk_let (t p) = true
          · rw [if_pos hl]
            decide
          · rw [if_neg hl]
            decide
        · rw [if_neg hr, if_neg (by omega)]
          decide
    have mm : f_X7_takesNumber T (nI b) (nI (tk_pl b t p)) (tk_tk b t p) (tk_vl b t p) (nI p) wr rd lo hi' (nI i) (nI x) = some (0, nI (tk_pl b t p), tk_tk b t p, tk_vl b t p, nI p, 1, rd) := by
      unfold f_X7_takesNumber
      rw [if_neg m2, if_neg m2]
      rfl
    exact Or.inr ⟨_, _, _, _, _, _, _, _, _, n10, ct, tk_sign0 n10 _ _ _, mm⟩
end TR
