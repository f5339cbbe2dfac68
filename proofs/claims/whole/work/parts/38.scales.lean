/-! the parts of the scales, and the scales, on both sides -/
theorem tk_kind : ∀ c, c < 256 → f_X5_kindOfSort (nI c) = some (nI (if c = 105 then 2 else if c = 109 then 5 else if c = 111 then 4 else if c = 112 then 1 else if c = 116 then 3 else 0)) := by decide +kernel
def tk_S (b : Nat) (t : Nat → Nat) (wax stick : Int32) (sd : Nat → Int32) (p : Nat) (wr : Int32) (z : Int32 × Int32 × Int32 × Int32 × (Nat → Int32) × (Nat → Int32) × (Nat → Int32) × (Nat → Int32) × (Nat → Int32) × (Nat → Int32)) (w : Int32 × Int32 × Int32 × Int32 × Int32 × Int32 × (Nat → Int32)) : Prop :=
  (∃ (D : Nat → Nat) (p' : Nat), p < p' ∧ p' ≤ b ∧ tk_R D wax stick z.2.2.1 z.2.2.2.1 z.2.2.2.2.1 z.2.2.2.2.2.1 z.2.2.2.2.2.2.1 z.2.2.2.2.2.2.2.1 z.2.2.2.2.2.2.2.2.1 z.2.2.2.2.2.2.2.2.2 sd w.2.2.2.2.2.2 ∧ z.1 = nI p' ∧ z.2.1 = 0 ∧ w.1 = 1 ∧ w.2.1 = nI (tk_pl b t p') ∧ w.2.2.1 = tk_tk b t p' ∧ w.2.2.2.1 = tk_vl b t p' ∧ w.2.2.2.2.1 = nI p' ∧ w.2.2.2.2.2.1 = wr) ∨
  (¬ z.2.1 = 0 ∧ w.1 = 0 ∧ w.2.2.2.2.1 = z.1 ∧ w.2.2.2.2.2.1 = z.2.1)
section TS
variable {b : Nat} {t : Nat → Nat} {T L : Nat → Int32} {D : Nat → Nat} {wax stick givers promises : Int32} {kp gv dd dy lk kd sd rd : Nat → Int32}
theorem tk_partP (hb : b ≤ 120) (hL : ∀ i, i < b → L i = nI (t i) ∧ t i ≤ 255) (hT : ∀ i, i < b → T i = nI (t i) ∧ t i ≤ 255) {p x : Nat} (hp : p < b) (hx : tk_let x = true) (hx3 : ¬ nI x = 103) (hg : t p = x) (h : tk_R D wax stick givers promises kp gv dd dy lk kd sd rd) (wr : Int32) {K : Nat} (hK : 1 ≤ K ∧ K ≤ 5) (hk : f_X5_kindOfSort (nI x) = some (nI K)) :
    ∃ z w, f_X5_readPart L (nI b) (nI p) 0 givers promises kp gv dd dy lk kd (nI x) = some z ∧ f_X7_readPromise T (nI b) (nI (tk_pl b t p)) (tk_tk b t p) (tk_vl b t p) (nI p) wr rd (nI K) = some w ∧ tk_S b t wax stick sd p wr z w := by
  have h' := h
  obtain ⟨a1, a2, a3, a4, rfl, rfl, rfl, rfl, a9, a10, a11⟩ := h
  have i2 := a2.2.2.1
  have i3 := a2.2.2.2.1
  have hK0 : ¬ nI K = 0 := nI_ne0 (by omega) (by omega)
  have e8 : (nI (D 3) < (8 : Int32)) = (D 3 < 8) := propext (nI_ltI (b := 8) (by omega) (by omega))
  unfold f_X5_readPart
  rw [hk, Option.bind_some, if_neg hx3, if_neg hK0]
  simp only [e8]
  by_cases h3 : D 3 < 8
  · rw [if_pos h3]
    rcases tk_promise hb hL hT hp hx hg gv dd dy lk kd a1 h3 i2 wr K with ⟨v1, v2, v3, v4, p', y1, y2, y3, y4, y5, y6, y7, y8⟩ | ⟨q, f, pr', pl, tk, vl, gv', dd', dy', lk', kd', rd', y1, y2, y3⟩
    · rw [y7, y8]
      exact ⟨_, _, rfl, rfl, Or.inl ⟨_, p', y1, y2, tk_R.promise h' h3 hK y3 y4 y5 y6, rfl, rfl, rfl, rfl, rfl, rfl, rfl, rfl⟩⟩
    · rw [y2, y3]
      exact ⟨_, _, rfl, rfl, Or.inr ⟨y1, rfl, rfl, rfl⟩⟩
  · have h38 : D 3 = 8 := by omega
    have m : f_X7_readPromise T (nI b) (nI (tk_pl b t p)) (tk_tk b t p) (tk_vl b t p) (nI p) wr rd (nI K) = some (0, nI (tk_pl b t p), tk_tk b t p, tk_vl b t p, nI p, 3, rd) := by
      unfold f_X7_readPromise
      rw [if_pos (show rd 3 = 8 by rw [a1 3 (by omega), h38]; rfl)]
      rfl
    rw [if_neg h3, m]
    exact ⟨_, _, rfl, rfl, Or.inr ⟨show ¬ (3 : Int32) = 0 by decide, rfl, rfl, rfl⟩⟩
theorem tk_partG (hb : b ≤ 120) (hL : ∀ i, i < b → L i = nI (t i) ∧ t i ≤ 255) (hT : ∀ i, i < b → T i = nI (t i) ∧ t i ≤ 255) {p : Nat} (hp : p < b) (hg : t p = 103) (h : tk_R D wax stick givers promises kp gv dd dy lk kd sd rd) (wr : Int32) :
    ∃ z w, f_X5_readPart L (nI b) (nI p) 0 givers promises kp gv dd dy lk kd (nI 103) = some z ∧ f_X7_readGiver T (nI b) (nI (tk_pl b t p)) (tk_tk b t p) (tk_vl b t p) (nI p) wr rd = some w ∧ tk_S b t wax stick sd p wr z w := by
  have h' := h
  obtain ⟨a1, a2, a3, a4, rfl, rfl, rfl, rfl, a9, a10, a11⟩ := h
  have i2 := a2.2.2.1
  have i3 := a2.2.2.2.1
  have e4 : (nI (D 2) < (4 : Int32)) = (D 2 < 4) := propext (nI_ltI (b := 4) (by omega) (by omega))
  have e0 : (nI (D 3) = (0 : Int32)) = (D 3 = 0) := propext (nI_eq (b := 0) (by omega) (by omega))
  have hk : f_X5_kindOfSort (nI 103) = some 0 := rfl
  have r4 : (rd 2 = (4 : Int32)) = (D 2 = 4) := by
    rw [a1 2 (by omega)]
    exact propext (nI_eq (b := 4) (by omega) (by omega))
  have r0 : (rd 3 ≤ (0 : Int32)) = (D 3 = 0) := by
    rw [a1 3 (by omega)]
    exact propext ((nI_leI (b := 0) (by omega) (by omega)).trans (by omega))
  unfold f_X5_readPart
  rw [hk, Option.bind_some, if_pos (show nI 103 = 103 from rfl), if_pos rfl]
  simp only [e4, e0]
  by_cases h3 : D 3 = 0
  · rw [if_pos h3]
    by_cases h2 : D 2 < 4
    · rw [if_pos h2]
      rcases tk_giver hb hL hT hp hg (kp := kp) a1 h3 h2 wr with ⟨v, p', y1, y2, y3, y4, y5⟩ | ⟨q, f, g', pl, tk, vl, kp', rd', y1, y2, y3⟩
      · rw [y4, y5]
        exact ⟨_, _, rfl, rfl, Or.inl ⟨_, p', y1, y2, tk_R.giver h' h3 h2 y3, rfl, rfl, rfl, rfl, rfl, rfl, rfl, rfl⟩⟩
      · rw [y2, y3]
        exact ⟨_, _, rfl, rfl, Or.inr ⟨y1, rfl, rfl, rfl⟩⟩
    · have m : f_X7_readGiver T (nI b) (nI (tk_pl b t p)) (tk_tk b t p) (tk_vl b t p) (nI p) wr rd = some (0, nI (tk_pl b t p), tk_tk b t p, tk_vl b t p, nI p, 3, rd) := by
        unfold f_X7_readGiver
        simp only [r4, r0]
        rw [if_pos (show D 2 = 4 by omega), if_pos h3]
        rfl
      rw [if_neg h2, m]
      exact ⟨_, _, rfl, rfl, Or.inr ⟨show ¬ (3 : Int32) = 0 by decide, rfl, rfl, rfl⟩⟩
  · have m : f_X7_readGiver T (nI b) (nI (tk_pl b t p)) (tk_tk b t p) (tk_vl b t p) (nI p) wr rd = some (0, nI (tk_pl b t p), tk_tk b t p, tk_vl b t p, nI p, 1, rd) := by
      unfold f_X7_readGiver
      simp only [r4, r0]
      simp only [h3, if_false]
      by_cases h2 : D 2 = 4
      · rw [if_pos h2]
        rfl
      · rw [if_neg h2]
        rfl
    rw [if_neg h3, m]
    exact ⟨_, _, rfl, rfl, Or.inr ⟨show ¬ (1 : Int32) = 0 by decide, rfl, rfl, rfl⟩⟩
theorem tk_part (hb : b ≤ 120) (hL : ∀ i, i < b → L i = nI (t i) ∧ t i ≤ 255) (hT : ∀ i, i < b → T i = nI (t i) ∧ t i ≤ 255) {p : Nat} (hp : p < b) (h : tk_R D wax stick givers promises kp gv dd dy lk kd sd rd) (wr : Int32) :
    ∃ z w, f_X5_readPart L (nI b) (nI p) 0 givers promises kp gv dd dy lk kd (L p) = some z ∧ (∀ m, f_X7_readScales_L68 T (nI b) (m + 1) (nI (tk_pl b t p)) (tk_tk b t p) (tk_vl b t p) (nI p) wr rd 1 = f_X7_readScales_L68 T (nI b) m w.2.1 w.2.2.1 w.2.2.2.1 w.2.2.2.2.1 w.2.2.2.2.2.1 w.2.2.2.2.2.2 w.1) ∧ tk_S b t wax stick sd p wr z w := by
  obtain ⟨l1, l2⟩ := hL p hp
  have n10 : ¬ (1 : Int32) = 0 := by decide
  have n3 : ¬ tk_tk b t p = 3 := by
    unfold tk_tk
    rw [if_neg (show ¬ p = b by omega)]
    by_cases hr : tk_run t (b - p) p = 0
    · rw [if_pos hr]
      by_cases hl : tk_let (t p) = true
      · rw [if_pos hl]
        decide
      · rw [if_neg hl]
        decide
    · rw [if_neg hr]
      by_cases h2 : tk_run t (b - p) p ≤ 2
      · rw [if_pos h2]
        decide
      · rw [if_neg h2]
        decide
  have q : ∀ x, tk_let x = true → x ≤ 255 → f_X7_isLetter (tk_tk b t p) (tk_vl b t p) (nI x) = some (if t p = x then 1 else 0) := by
    intro x hx hx2
    rw [tk_isL hb hT (Nat.le_of_lt hp) hx hx2]
    by_cases e : t p = x
    · rw [if_pos ⟨hp, e⟩, if_pos e]
    · rw [if_neg (fun z => e z.2), if_neg e]
  have q112 : f_X7_isLetter (tk_tk b t p) (tk_vl b t p) 112 = some (if t p = 112 then 1 else 0) := q 112 (by decide) (by omega)
  have q105 : f_X7_isLetter (tk_tk b t p) (tk_vl b t p) 105 = some (if t p = 105 then 1 else 0) := q 105 (by decide) (by omega)
  have q116 : f_X7_isLetter (tk_tk b t p) (tk_vl b t p) 116 = some (if t p = 116 then 1 else 0) := q 116 (by decide) (by omega)
  have q111 : f_X7_isLetter (tk_tk b t p) (tk_vl b t p) 111 = some (if t p = 111 then 1 else 0) := q 111 (by decide) (by omega)
  have q109 : f_X7_isLetter (tk_tk b t p) (tk_vl b t p) 109 = some (if t p = 109 then 1 else 0) := q 109 (by decide) (by omega)
  have q103 : f_X7_isLetter (tk_tk b t p) (tk_vl b t p) 103 = some (if t p = 103 then 1 else 0) := q 103 (by decide) (by omega)
  have u : ∀ m, f_X7_readScales_L68 T (nI b) (m + 1) (nI (tk_pl b t p)) (tk_tk b t p) (tk_vl b t p) (nI p) wr rd 1 = _ := fun m => f_X7_readScales_L68_s _ _ _ _ _ _ _ _ _ _
  have kk := tk_kind (t p) (by omega)
  rw [l1]
  by_cases c1 : t p = 112
  · obtain ⟨z, w, z1, w1, s⟩ := tk_partP hb hL hT hp (x := 112) (by decide) (by decide) c1 h wr (K := 1) (by omega) rfl
    rw [c1]
    refine ⟨z, w, z1, fun m => ?_, s⟩
    have w1' : f_X7_readPromise T (nI b) (nI (tk_pl b t p)) (tk_tk b t p) (tk_vl b t p) (nI p) wr rd 1 = some w := w1
    rw [u m, if_neg n10, if_neg n3, q112, Option.bind_some, if_pos c1, if_neg n10, w1', Option.bind_some]
  · by_cases c2 : t p = 105
    · obtain ⟨z, w, z1, w1, s⟩ := tk_partP hb hL hT hp (x := 105) (by decide) (by decide) c2 h wr (K := 2) (by omega) rfl
      rw [c2]
      refine ⟨z, w, z1, fun m => ?_, s⟩
      have w1' : f_X7_readPromise T (nI b) (nI (tk_pl b t p)) (tk_tk b t p) (tk_vl b t p) (nI p) wr rd 2 = some w := w1
      rw [u m, if_neg n10, if_neg n3, q112, Option.bind_some, if_neg c1, if_pos rfl, q105, Option.bind_some, if_pos c2, if_neg n10, w1', Option.bind_some]
    · by_cases c3 : t p = 116
      · obtain ⟨z, w, z1, w1, s⟩ := tk_partP hb hL hT hp (x := 116) (by decide) (by decide) c3 h wr (K := 3) (by omega) rfl
        rw [c3]
        refine ⟨z, w, z1, fun m => ?_, s⟩
        have w1' : f_X7_readPromise T (nI b) (nI (tk_pl b t p)) (tk_tk b t p) (tk_vl b t p) (nI p) wr rd 3 = some w := w1
        rw [u m, if_neg n10, if_neg n3, q112, Option.bind_some, if_neg c1, if_pos rfl, q105, Option.bind_some, if_neg c2, if_pos rfl, q116, Option.bind_some, if_pos c3, if_neg n10, w1', Option.bind_some]
      · by_cases c4 : t p = 111
        · obtain ⟨z, w, z1, w1, s⟩ := tk_partP hb hL hT hp (x := 111) (by decide) (by decide) c4 h wr (K := 4) (by omega) rfl
          rw [c4]
          refine ⟨z, w, z1, fun m => ?_, s⟩
          have w1' : f_X7_readPromise T (nI b) (nI (tk_pl b t p)) (tk_tk b t p) (tk_vl b t p) (nI p) wr rd 4 = some w := w1
          rw [u m, if_neg n10, if_neg n3, q112, Option.bind_some, if_neg c1, if_pos rfl, q105, Option.bind_some, if_neg c2, if_pos rfl, q116, Option.bind_some, if_neg c3, if_pos rfl, q111, Option.bind_some, if_pos c4, if_neg n10, w1', Option.bind_some]
        · by_cases c5 : t p = 109
          · obtain ⟨z, w, z1, w1, s⟩ := tk_partP hb hL hT hp (x := 109) (by decide) (by decide) c5 h wr (K := 5) (by omega) rfl
            rw [c5]
            refine ⟨z, w, z1, fun m => ?_, s⟩
            have w1' : f_X7_readPromise T (nI b) (nI (tk_pl b t p)) (tk_tk b t p) (tk_vl b t p) (nI p) wr rd 5 = some w := w1
            rw [u m, if_neg n10, if_neg n3, q112, Option.bind_some, if_neg c1, if_pos rfl, q105, Option.bind_some, if_neg c2, if_pos rfl, q116, Option.bind_some, if_neg c3, if_pos rfl, q111, Option.bind_some, if_neg c4, if_pos rfl, q109, Option.bind_some, if_pos c5, if_neg n10, w1', Option.bind_some]
          · by_cases c6 : t p = 103
            · obtain ⟨z, w, z1, w1, s⟩ := tk_partG hb hL hT hp c6 h wr
              rw [c6]
              refine ⟨z, w, z1, fun m => ?_, s⟩
              rw [u m, if_neg n10, if_neg n3, q112, Option.bind_some, if_neg c1, if_pos rfl, q105, Option.bind_some, if_neg c2, if_pos rfl, q116, Option.bind_some, if_neg c3, if_pos rfl, q111, Option.bind_some, if_neg c4, if_pos rfl, q109, Option.bind_some, if_neg c5, if_pos rfl, q103, Option.bind_some, if_pos c6, if_neg n10, w1, Option.bind_some]
            · rw [if_neg c2, if_neg c5, if_neg c4, if_neg c1, if_neg c3] at kk
              have hx3 : ¬ nI (t p) = 103 := fun e => c6 ((nI_eq (b := 103) (by omega) (by omega)).mp e)
              have z1 : f_X5_readPart L (nI b) (nI p) 0 givers promises kp gv dd dy lk kd (nI (t p)) = some (nI p, 1, givers, promises, kp, gv, dd, dy, lk, kd) := by
                unfold f_X5_readPart
                rw [kk, Option.bind_some, if_neg hx3, if_pos (show nI 0 = 0 from rfl)]
                rfl
              refine ⟨_, (0, nI (tk_pl b t p), tk_tk b t p, tk_vl b t p, nI p, 1, rd), z1, fun m => ?_, Or.inr ⟨n10, rfl, rfl, rfl⟩⟩
              rw [u m, if_neg n10, if_neg n3, q112, Option.bind_some, if_neg c1, if_pos rfl, q105, Option.bind_some, if_neg c2, if_pos rfl, q116, Option.bind_some, if_neg c3, if_pos rfl, q111, Option.bind_some, if_neg c4, if_pos rfl, q109, Option.bind_some, if_neg c5, if_pos rfl, q103, Option.bind_some, if_neg c6, if_pos rfl]
              rfl
end TS
def tk_Z (told pan wr : Int32) (z : Int32 × Int32 × Int32 × Int32 × Int32 × Int32 × Int32 × Int32 × Int32 × Int32 × (Nat → Int32) × (Nat → Int32) × (Nat → Int32) × (Nat → Int32) × (Nat → Int32) × (Nat → Int32) × (Nat → Int32)) (w : Int32 × Int32 × Int32 × Int32 × Int32 × Int32 × (Nat → Int32)) : Prop :=
  z.2.1 = 0 ∧ z.2.2.2.2.1 = told ∧ z.2.2.2.2.2.2.2.2.2.1 = pan ∧ ((z.1 = 0 ∧ w.1 = 1 ∧ ∃ D, tk_R D z.2.2.2.2.2.1 z.2.2.2.2.2.2.1 z.2.2.2.2.2.2.2.1 z.2.2.2.2.2.2.2.2.1 z.2.2.2.2.2.2.2.2.2.2.1 z.2.2.2.2.2.2.2.2.2.2.2.1 z.2.2.2.2.2.2.2.2.2.2.2.2.1 z.2.2.2.2.2.2.2.2.2.2.2.2.2.1 z.2.2.2.2.2.2.2.2.2.2.2.2.2.2.1 z.2.2.2.2.2.2.2.2.2.2.2.2.2.2.2.1 z.2.2.2.2.2.2.2.2.2.2.2.2.2.2.2.2 w.2.2.2.2.2.2) ∨ (¬ z.1 = 0 ∧ w.1 = 0 ∧ w.2.2.2.2.1 = z.2.2.1 ∧ w.2.2.2.2.2.1 = z.1))
section TL
variable {b : Nat} {t : Nat → Nat} {T L : Nat → Int32} {wax stick : Int32} {sd : Nat → Int32}
theorem tk_loop (hb : b ≤ 120) (hL : ∀ i, i < b → L i = nI (t i) ∧ t i ≤ 255) (hT : ∀ i, i < b → T i = nI (t i) ∧ t i ≤ 255) (told pan wr : Int32) : ∀ (d p k n m : Nat) (D : Nat → Nat) (givers promises : Int32) (kp gv dd dy lk kd rd : Nat → Int32), d = b - p → p ≤ b → k ≤ p → d + 1 < n → d + 1 < m → tk_R D wax stick givers promises kp gv dd dy lk kd sd rd → ∃ z w, f_X5_readInto_L21 L (nI b) told wax stick pan sd n (nI p) 0 givers promises kp gv dd dy lk kd (nI k) = some z ∧ f_X7_readScales_L68 T (nI b) m (nI (tk_pl b t p)) (tk_tk b t p) (tk_vl b t p) (nI p) wr rd 1 = some w ∧ tk_Z told pan wr z w := by
  intro d
  induction d using Nat.strongRecOn with
  | ind d ih =>
    intro p k n m D givers promises kp gv dd dy lk kd rd hd h1 h2 h3 h4 h
    obtain ⟨n, rfl⟩ : ∃ n', n = n' + 1 := ⟨n - 1, by omega⟩
    obtain ⟨m, rfl⟩ : ∃ m', m = m' + 1 := ⟨m - 1, by omega⟩
    have e1 : ((120 : Int32) ≤ nI k) = (120 ≤ k) := propext (nI_leI (a := 120) (by omega) (by omega))
    have e2 : (nI b ≤ nI p) = (b ≤ p) := propext (nI_leI (by omega) (by omega))
    rw [f_X5_readInto_L21_s]
    simp only [e1, e2]
    by_cases hpb : b ≤ p
    · have hpe : p = b := by omega
      have t3 : tk_tk b t p = 3 := if_pos hpe
      rw [if_pos hpb, if_pos trivial, f_X7_readScales_L68_s, if_neg (show ¬ (1 : Int32) = 0 by decide), if_pos t3, if_pos (Or.inr rfl)]
      by_cases hk : 120 ≤ k
      · rw [if_pos hk]
        exact ⟨_, _, rfl, rfl, rfl, rfl, rfl, Or.inl ⟨rfl, rfl, D, h⟩⟩
      · rw [if_neg hk]
        exact ⟨_, _, rfl, rfl, rfl, rfl, rfl, Or.inl ⟨rfl, rfl, D, h⟩⟩
    · have hp : p < b := by omega
      obtain ⟨z, w, z1, w1, s⟩ := tk_part hb hL hT hp h wr
      have bp : bs_in (nI p) 120 = true := bs_inN (by omega) (by omega)
      rw [if_neg (show ¬ 120 ≤ k by omega), if_pos trivial, if_neg hpb, if_pos bp, nI_clamp (n := p) (by omega), z1, w1 m, Option.bind_some, nI_1]
      obtain ⟨zz1, zz2, zz3, zz4, zz5, zz6, zz7, zz8, zz9, zz10⟩ := z
      obtain ⟨ww1, ww2, ww3, ww4, ww5, ww6, ww7⟩ := w
      rcases s with ⟨D', p', y1, y2, y3, y4, y5, y6, y7, y8, y9, y10, y11⟩ | ⟨y1, y2, y3, y4⟩
      · dsimp only at y3 y4 y5 y6 y7 y8 y9 y10 y11 ⊢
        subst y4 y5 y6 y7 y8 y9 y10 y11
        exact ih (b - p') (by omega) p' (k + 1) n m D' _ _ _ _ _ _ _ _ _ rfl y2 (by omega) (by omega) (by omega) y3
      · dsimp only at y1 y2 y3 y4 ⊢
        subst y2 y3 y4
        obtain ⟨n, rfl⟩ : ∃ n', n = n' + 1 := ⟨n - 1, by omega⟩
        obtain ⟨m, rfl⟩ : ∃ m', m = m' + 1 := ⟨m - 1, by omega⟩
        rw [f_X5_readInto_L21_s, f_X7_readScales_L68_s, if_pos rfl, if_pos (Or.inl rfl), if_neg y1]
        by_cases hk : (120 : Int32) ≤ nI (k + 1)
        · rw [if_pos hk]
          exact ⟨_, _, rfl, rfl, rfl, rfl, rfl, Or.inr ⟨y1, rfl, rfl, rfl⟩⟩
        · rw [if_neg hk]
          exact ⟨_, _, rfl, rfl, rfl, rfl, rfl, Or.inr ⟨y1, rfl, rfl, rfl⟩⟩
end TL
