/-! the law of the scales, the whole text, scales and feed -/
theorem tk_clear (n1 n2 n3 n4 : Int32) : ∀ (n i : Nat) (s : Nat → Int32), i ≤ 8 → 8 - i < n → (∀ j, j < i → s j = 0) → ∃ s' : Nat → Int32, (∀ j, j < 8 → s' j = 0) ∧ f_X4_clear_L22 n1 n2 n3 n4 n s (nI i) = some (n1, n2, n3, n4, s') := by
  intro n
  induction n with
  | zero => intro i s _ h; omega
  | succ n ih =>
    intro i s h1 h2 h3
    have e8 : ((8 : Int32) ≤ nI i) = (8 ≤ i) := propext (nI_leI (a := 8) (by omega) (by omega))
    rw [f_X4_clear_L22_s, nI_1]
    simp only [e8]
    by_cases hi : 8 ≤ i
    · rw [if_pos hi]
      exact ⟨s, fun j hj => h3 j (by omega), rfl⟩
    · have b8 : bs_in (nI i) 8 = true := bs_inN (by omega) (by omega)
      rw [if_neg hi, if_pos b8, nI_clamp (n := i) (by omega)]
      refine ih (i + 1) _ (by omega) (by omega) (fun j hj => ?_)
      by_cases e : j = i
      · rw [e, pk_us]
      · rw [pk_un e]
        exact h3 j (by omega)
theorem tk_zero (T : Nat → Int32) (b p tok v bg wr : Int32) : ∀ (n i : Nat) (s : Nat → Int32), i ≤ 57 → 57 - i < n → (∀ j, j < i → s j = 0) → ∃ (s' : Nat → Int32) (m : Nat), (∀ j, j < 57 → s' j = 0) ∧ f_X7_readScales_L7 T b p tok v bg wr n s (nI i) = f_X7_readScales_L7 T b p tok v bg wr (m + 1) s' 57 := by
  intro n
  induction n with
  | zero => intro i s _ h; omega
  | succ n ih =>
    intro i s h1 h2 h3
    by_cases hi : i = 57
    · subst hi
      exact ⟨s, n, h3, rfl⟩
    · have e8 : ¬ ((57 : Int32) ≤ nI i) := fun q => by
        have := (nI_leI (a := 57) (b := i) (by omega) (by omega)).mp q
        omega
      have b8 : bs_in (nI i) 57 = true := bs_inN (by omega) (by omega)
      rw [f_X7_readScales_L7_s, nI_1, if_neg e8, if_pos b8, nI_clamp (n := i) (by omega)]
      refine ih (i + 1) _ (by omega) (by omega) (fun j hj => ?_)
      by_cases e : j = i
      · rw [e, pk_us]
      · rw [pk_un e]
        exact h3 j (by omega)
section TW
variable {b : Nat} {t : Nat → Nat} {T L : Nat → Int32}
theorem tk_law0 {s : Nat → Int32} (hs : ∀ j, j < 57 → s j = 0) {v1 v2 : Nat} (h1 : v1 ≤ 9) (h2 : 1 ≤ v2 ∧ v2 ≤ 5) (kp gv dd dy lk kd sd : Nat → Int32) (hsd : ∀ j, j < 8 → sd j = 0) : tk_R (sp_up (sp_up (fun _ => 0) 0 v1) 1 v2) (nI v1) (nI v2) 0 0 kp gv dd dy lk kd sd (upd (upd s 0 (nI v1)) 1 (nI v2)) := by
  have a0 : sp_at s (fun _ => 0) := fun j hj => hs j hj
  have hA := tp_at (tp_at a0 0 v1) 1 v2
  have e0 : sp_up (sp_up (fun _ => 0) 0 v1) 1 v2 0 = v1 := by rw [tp_up _ _ _ _ (by omega), tp_us]
  have e1 : sp_up (sp_up (fun _ => 0) 0 v1) 1 v2 1 = v2 := tp_us _ _ _
  have e : ∀ j, 2 ≤ j → sp_up (sp_up (fun _ => 0) 0 v1) 1 v2 j = 0 := fun j hj => by rw [tp_up _ _ _ _ (by omega), tp_up _ _ _ _ (by omega)]
  have e2 := e 2 (by omega)
  have e3 := e 3 (by omega)
  have e4 := e 4 (by omega)
  refine ⟨hA, ⟨by omega, by omega, by omega, by omega, by omega, fun g hg => ?_, fun p hp => by omega⟩, ⟨fun g hg => by omega, fun p hp => by omega⟩, fun p hp => by omega, by rw [e0], by rw [e1], by rw [e2]; rfl, by rw [e3]; rfl, e4, by omega, fun j hj => ⟨hsd j hj, e _ (by omega)⟩⟩
  rw [e _ (by omega)]
  omega
theorem tk_into (hb : b ≤ 120) (hL : ∀ i, i < b → L i = nI (t i) ∧ t i ≤ 255) (hT : ∀ i, i < b → T i = nI (t i) ∧ t i ≤ 255) (at' fm told w1 s1 g1 p1 n1 : Int32) (kp gv dd dy lk kd sd : Nat → Int32) (pl tok vl bg wr : Int32) (rd : Nat → Int32) : ∃ z w, f_X5_readInto L (nI b) at' fm told w1 s1 g1 p1 n1 kp gv dd dy lk kd sd = some z ∧ f_X7_readScales T (nI b) pl tok vl bg wr rd = some w ∧ tk_Z 1 0 wr z w := by
  obtain ⟨sd', d1, d2⟩ := tk_clear 1 0 0 0 bs_F 0 sd (by omega) (by unfold bs_F; omega) (fun j hj => by omega)
  have d2' : f_X4_clear told g1 p1 n1 sd = some (1, 0, 0, 0, sd') := d2
  obtain ⟨rd0, m, r1, r2⟩ := tk_zero T (nI b) 0 tok vl bg wr bs_F 0 rd (by omega) (by unfold bs_F; omega) (fun j hj => by omega)
  have r2' : f_X7_readScales T (nI b) pl tok vl bg wr rd = f_X7_readScales_L7 T (nI b) 0 tok vl bg wr (m + 1) rd0 57 := r2
  have n10 : ¬ (1 : Int32) = 0 := by decide
  have nx := tk_next hb hT (p := 0) (by omega) tok vl bg
  have nx' : f_X7_nextToken T (nI b) 0 tok vl bg = some (nI (tk_pl b t 0), tk_tk b t 0, tk_vl b t 0, nI 0) := nx
  have tt := tk_takes hb hT (p := 0) (x := 115) (by omega) (by decide) (by omega) wr
  have tt' : f_X7_takes T (nI b) (nI (tk_pl b t 0)) (tk_tk b t 0) (tk_vl b t 0) (nI 0) wr 115 = if 0 < b ∧ t 0 = 115 then some (1, nI (tk_pl b t (0 + 1)), tk_tk b t (0 + 1), tk_vl b t (0 + 1), nI (0 + 1), wr) else some (0, nI (tk_pl b t 0), tk_tk b t 0, tk_vl b t 0, nI 0, 1) := tt
  have ts := tk_sign hb hL (p := 0) (x := 115) (by omega) (by omega)
  have ts' : f_X5_takeSign L (nI b) 0 0 115 = if 0 < b ∧ t 0 = 115 then some (nI (0 + 1), 0) else some (nI 0, 1) := ts
  -- a fault of the law ends both
  have stop : ∀ (q f wx sk : Int32), ¬ f = 0 → f_X5_readInto_L21 L (nI b) 1 wx sk 0 sd' bs_F q f 0 0 kp gv dd dy lk kd 0 = some (f, 0, q, f, 1, wx, sk, 0, 0, 0, kp, gv, dd, dy, lk, kd, sd') := by
    intro q f wx sk hf
    rw [show bs_F = 99999 + 1 from rfl, f_X5_readInto_L21_s, if_neg (show ¬ (120 : Int32) ≤ 0 by decide), if_neg hf]
  unfold f_X5_readInto
  rw [d2', r2', f_X7_readScales_L7_s, if_pos (show (57 : Int32) ≤ 57 by decide), nx', Option.bind_some, Option.bind_some]
  dsimp only
  rw [tt']
  unfold f_X5_readLaw
  rw [ts']
  by_cases h0 : 0 < b ∧ t 0 = 115
  · rw [if_pos h0, if_pos h0, Option.bind_some, Option.bind_some]
    dsimp only
    rw [if_neg n10]
    have s44 : (44 : Int32) = nI 44 := rfl
    have s59 : (59 : Int32) = nI 59 := rfl
    have i0 : (0 : Int32) = nI 0 := rfl
    have i1 : (1 : Int32) = nI 1 := rfl
    rcases tk_pair hb hL hT (p := 0 + 1) (x := 44) (i := 0) (by omega) (by decide) (by omega) (by omega) 0 9 wr rd0 with ⟨v1, p1, z1, y1, y2, y3, y4, y5, y6, y7, y8⟩ | ⟨v, z1, f1, q, f, pl', tk', vl', rd', y1, y2, y3, y4⟩
    · have y7' : f_X5_takeSign L (nI b) z1 0 44 = some (nI p1, 0) := y7
      have y8' : f_X7_takesNumber T (nI b) (nI (tk_pl b t (0 + 1))) (tk_tk b t (0 + 1)) (tk_vl b t (0 + 1)) (nI (0 + 1)) wr rd0 0 9 0 44 = some (1, nI (tk_pl b t p1), tk_tk b t p1, tk_vl b t p1, nI p1, wr, upd rd0 0 (nI v1)) := y8
      have hv1 : v1 ≤ 9 := by
        have : (9 : Int32).toInt = 9 := by decide
        omega
      rw [y6, y8', Option.bind_some, Option.bind_some]
      dsimp only
      rw [y7', if_neg n10, Option.bind_some]
      dsimp only
      rcases tk_pair hb hL hT (p := p1) (x := 59) (i := 1) (by omega) (by decide) (by omega) (by omega) 1 5 wr (upd rd0 0 (nI v1)) with ⟨v2, p2, z2, x1, x2, x3, x4, x5, x6, x7, x8⟩ | ⟨v, z2, f1, q, f, pl', tk', vl', rd', x1, x2, x3, x4⟩
      · have x7' : f_X5_takeSign L (nI b) z2 0 59 = some (nI p2, 0) := x7
        have x8' : f_X7_takesNumber T (nI b) (nI (tk_pl b t p1)) (tk_tk b t p1) (tk_vl b t p1) (nI p1) wr (upd rd0 0 (nI v1)) 1 5 1 59 = some (1, nI (tk_pl b t p2), tk_tk b t p2, tk_vl b t p2, nI p2, wr, upd (upd rd0 0 (nI v1)) 1 (nI v2)) := x8
        have hv2 : 1 ≤ v2 ∧ v2 ≤ 5 := by
          have q5 : (5 : Int32).toInt = 5 := by decide
          have q1 : (1 : Int32).toInt = 1 := by decide
          omega
        rw [x6, x8', Option.bind_some, Option.bind_some]
        dsimp only
        rw [x7', if_neg n10, Option.bind_some, Option.bind_some]
        dsimp only
        exact tk_loop hb hL hT 1 0 wr (b - p2) p2 0 bs_F bs_F _ 0 0 kp gv dd dy lk kd _ rfl x2 (by omega) (by unfold bs_F; omega) (by unfold bs_F; omega) (tk_law0 r1 hv1 hv2 kp gv dd dy lk kd sd' d1)
      · have x3' : f_X5_takeSign L (nI b) z2 f1 59 = some (q, f) := x3
        have x4' : f_X7_takesNumber T (nI b) (nI (tk_pl b t p1)) (tk_tk b t p1) (tk_vl b t p1) (nI p1) wr (upd rd0 0 (nI v1)) 1 5 1 59 = some (0, pl', tk', vl', q, f, rd') := x4
        rw [x2, x4', Option.bind_some, Option.bind_some]
        dsimp only
        rw [x3', if_pos rfl, Option.bind_some, Option.bind_some]
        dsimp only
        rw [stop _ _ _ _ x1]
        exact ⟨_, _, rfl, rfl, rfl, rfl, rfl, Or.inr ⟨x1, rfl, rfl, rfl⟩⟩
    · have y3' : f_X5_takeSign L (nI b) z1 f1 44 = some (q, f) := y3
      have y4' : f_X7_takesNumber T (nI b) (nI (tk_pl b t (0 + 1))) (tk_tk b t (0 + 1)) (tk_vl b t (0 + 1)) (nI (0 + 1)) wr rd0 0 9 0 44 = some (0, pl', tk', vl', q, f, rd') := y4
      rw [y2, y4', Option.bind_some, Option.bind_some]
      dsimp only
      rw [y3', if_pos rfl, Option.bind_some]
      dsimp only
      rw [tk_num0 y1, Option.bind_some]
      dsimp only
      rw [tk_sign0 y1, Option.bind_some, Option.bind_some]
      dsimp only
      rw [stop _ _ _ _ y1]
      exact ⟨_, _, rfl, rfl, rfl, rfl, rfl, Or.inr ⟨y1, rfl, rfl, rfl⟩⟩
  · rw [if_neg h0, if_neg h0, Option.bind_some, Option.bind_some]
    dsimp only
    rw [if_pos rfl, tk_num0 n10, Option.bind_some]
    dsimp only
    rw [tk_sign0 n10, Option.bind_some]
    dsimp only
    rw [tk_num0 n10, Option.bind_some]
    dsimp only
    rw [tk_sign0 n10, Option.bind_some, Option.bind_some]
    dsimp only
    rw [stop _ _ _ _ n10]
    exact ⟨_, _, rfl, rfl, rfl, rfl, rfl, Or.inr ⟨n10, rfl, rfl, rfl⟩⟩
end TW
theorem tk_st (th : Int32) (T : Nat → Int32) (lt pl tok vl bg wr : Int32) (rd : Nat → Int32) (am : Int32) : ∀ (n i : Nat) (s : Nat → Int32), i ≤ 57 → 57 - i < n → (∀ j, j < i → s j = rd j) → ∃ s' : Nat → Int32, (∀ j, j < 57 → s' j = rd j) ∧ f_X7_scales_L32 th T 0 lt pl tok vl bg wr rd am n s (nI i) = some (s' 3, 1, s', 0, lt, pl, tok, vl, bg, wr, rd, 0) := by
  intro n
  induction n with
  | zero => intro i s _ h; omega
  | succ n ih =>
    intro i s h1 h2 h3
    have e8 : ((57 : Int32) ≤ nI i) = (57 ≤ i) := propext (nI_leI (a := 57) (by omega) (by omega))
    rw [f_X7_scales_L32_s, nI_1]
    simp only [e8]
    by_cases hi : 57 ≤ i
    · rw [if_pos hi]
      exact ⟨s, fun j hj => h3 j (by omega), rfl⟩
    · have b8 : bs_in (nI i) 57 = true := bs_inN (by omega) (by omega)
      rw [if_neg hi, if_pos b8, if_pos b8, nI_clamp (n := i) (by omega)]
      refine ih (i + 1) _ (by omega) (by omega) (fun j hj => ?_)
      by_cases e : j = i
      · rw [e, pk_us]
      · rw [pk_un e]
        exact h3 j (by omega)
def R_T (ls : Nat → Int32) (by' : Int32) (tp : Nat → Int32) (bm : Int32) : Prop := ∃ (b : Nat) (t : Nat → Nat), b ≤ 120 ∧ by' = nI b ∧ bm = nI b ∧ ∀ i, i < b → ls i = nI (t i) ∧ tp i = nI (t i) ∧ t i ≤ 255
theorem tk_T0 (ls tp : Nat → Int32) : R_T ls 0 tp 0 := ⟨0, fun _ => 0, by omega, rfl, rfl, fun i hi => by omega⟩
section TX
variable {A : Nat → Nat} {told wax stick givers promises pan : Int32} {kp gv dd dy lk kd sd : Nat → Int32} {th : Int32} {st : Nat → Int32} {o n : Nat} {po wo no ko : Nat → Int32} {old kept : Int32} {ac : Nat → Int32} {am : Int32} {ls tp : Nat → Int32} {by' bm : Int32}
theorem tq_feed (h : R_T ls by' tp bm) (p1 : Int32) : ∃ z w, f_X6_feed ls by' p1 = some z ∧ f_X7_feed tp bm p1 = some w ∧ z.1 = w.1 ∧ R_T z.2.1 z.2.2 w.2.1 w.2.2 := by
  have hT := h
  obtain ⟨b, t, h1, rfl, rfl, h2⟩ := h
  unfold f_X6_feed f_X7_feed
  have e0 : (0 : Int64).toInt = 0 := by decide
  have e1 : (255 : Int64).toInt = 255 := by decide
  have i0 : (0 : Int32).toInt = 0 := by decide
  have i1 : (255 : Int32).toInt = 255 := by decide
  rw [e6_isWithin, e7_in, sm_t64, e0, e1, i0, i1]
  simp only [Option.bind_some, sm_z]
  by_cases hg : 0 ≤ p1.toInt ∧ p1.toInt ≤ 255
  · obtain ⟨c, k1, k2, rfl⟩ := sm_nat hg
    rw [if_neg (not_not_intro hg), if_neg (not_not_intro hg)]
    have e120 : (nI b = (120 : Int32)) = (b = 120) := propext (nI_eq (b := 120) (by omega) (by omega))
    have hfull : f_X5_isFull (nI b) = some (if b = 120 then 1 else 0) := by
      unfold f_X5_isFull
      have e : (nI b < (120 : Int32)) = (b < 120) := propext (nI_ltI (b := 120) (by omega) (by omega))
      simp only [e]
      by_cases q : b = 120
      · rw [if_neg (by omega), if_pos q]
      · rw [if_pos (by omega), if_neg q]
    unfold f_X5_add
    rw [hfull]
    simp only [e120, Option.bind_some]
    by_cases hb : b = 120
    · rw [if_pos hb, if_pos hb]
      exact ⟨_, _, rfl, rfl, rfl, hT⟩
    · have b8 : bs_in (nI b) 120 = true := bs_inN (by omega) (by omega)
      rw [if_neg hb, if_neg hb, if_pos rfl, if_pos rfl, if_pos b8, if_pos b8, nI_clamp (n := b) (by omega), nI_1, Option.bind_some]
      refine ⟨_, _, rfl, rfl, rfl, b + 1, sp_up t b c, by omega, rfl, rfl, fun i hi => ?_⟩
      dsimp only
      by_cases e : i = b
      · subst e
        exact ⟨by rw [pk_us, tp_us], by rw [pk_us, tp_us], by rw [tp_us]; omega⟩
      · obtain ⟨q1, q2, q3⟩ := h2 i (by omega)
        exact ⟨by rw [pk_un e, tp_up _ _ _ _ e]; exact q1, by rw [pk_un e, tp_up _ _ _ _ e]; exact q2, by rw [tp_up _ _ _ _ e]; exact q3⟩
  · rw [if_pos hg, if_pos hg]
    exact ⟨_, _, rfl, rfl, rfl, hT⟩
theorem tq_scales (h : R_N A told wax stick givers promises pan kp gv dd dy lk kd sd th st) (ha : R_A A o n po wo no ko old kept ac am) (hT : R_T ls by' tp bm) (lt at' fm e1 e2 e3 e4 e5 e6 : Int32) (ek eg ed ey el ei es : Nat → Int32) (pl tok vl bg wr : Int32) (rd : Nat → Int32) : ∃ (z : Int32 × Int32 × Int32 × Int32 × Int32 × Int32 × Int32 × Int32 × Int32 × Int32 × Int32 × (Nat → Int32) × (Nat → Int32) × (Nat → Int32) × (Nat → Int32) × (Nat → Int32) × (Nat → Int32) × (Nat → Int32) × Int32 × Int32 × Int32 × Int32 × Int32 × Int32 × (Nat → Int32) × (Nat → Int32) × (Nat → Int32) × (Nat → Int32) × (Nat → Int32) × (Nat → Int32) × (Nat → Int32) × Int32 × Int32) (w : Int32 × Int32 × (Nat → Int32) × Int32 × Int32 × Int32 × Int32 × Int32 × Int32 × Int32 × (Nat → Int32) × Int32) (B : Nat → Nat) (o' n' : Nat), f_X6_scales lt ls by' at' fm told wax stick givers promises pan kp gv dd dy lk kd sd e1 e2 e3 e4 e5 e6 ek eg ed ey el ei es old kept = some z ∧ f_X7_scales th st tp bm lt pl tok vl bg wr rd am = some w ∧ z.1 = w.1 ∧ z.2.1 = w.2.2.2.2.1 ∧ R_T ls z.2.2.1 tp w.2.2.2.1 ∧ R_N B z.2.2.2.2.2.1 z.2.2.2.2.2.2.1 z.2.2.2.2.2.2.2.1 z.2.2.2.2.2.2.2.2.1 z.2.2.2.2.2.2.2.2.2.1 z.2.2.2.2.2.2.2.2.2.2.1 z.2.2.2.2.2.2.2.2.2.2.2.1 z.2.2.2.2.2.2.2.2.2.2.2.2.1 z.2.2.2.2.2.2.2.2.2.2.2.2.2.1 z.2.2.2.2.2.2.2.2.2.2.2.2.2.2.1 z.2.2.2.2.2.2.2.2.2.2.2.2.2.2.2.1 z.2.2.2.2.2.2.2.2.2.2.2.2.2.2.2.2.1 z.2.2.2.2.2.2.2.2.2.2.2.2.2.2.2.2.2.1 w.2.1 w.2.2.1 ∧ z.2.2.2.2.2.2.2.2.2.2.2.2.2.2.2.2.2.2.1 = 1 ∧ R_A B o' n' po wo no ko z.2.2.2.2.2.2.2.2.2.2.2.2.2.2.2.2.2.2.2.2.2.2.2.2.2.2.2.2.2.2.2.1 z.2.2.2.2.2.2.2.2.2.2.2.2.2.2.2.2.2.2.2.2.2.2.2.2.2.2.2.2.2.2.2.2 ac w.2.2.2.2.2.2.2.2.2.2.2 ∧ (w.2.1 = th ∨ w.2.1 = 1) := by
  obtain ⟨b, t, hb, rfl, rfl, hh⟩ := hT
  obtain ⟨z, w, z1, w1, y1, y2, y3, y4⟩ := tk_into hb (fun i hi => ⟨(hh i hi).1, (hh i hi).2.2⟩) (fun i hi => (hh i hi).2) at' fm e1 e2 e3 e4 e5 e6 ek eg ed ey el ei es pl tok vl bg wr rd
  obtain ⟨u1, u2, u3, u4, u5, u6, u7, u8, u9, u10, u11, u12, u13, u14, u15, u16, u17⟩ := z
  obtain ⟨x1, x2, x3, x4, x5, x6, x7⟩ := w
  dsimp only at y1 y2 y3 y4
  subst y1 y2 y3
  unfold f_X6_scales f_X7_scales
  rw [z1, w1, Option.bind_some, Option.bind_some]
  dsimp only
  rcases y4 with ⟨rfl, rfl, D, hs, hi, hc, hd, rfl, rfl, rfl, rfl, d1, d2, d3⟩ | ⟨c1, c2, c3, c4⟩
  · obtain ⟨ok', g', d', y', l', k', s', q1, q2, q3⟩ := cp_become told wax stick givers promises pan kp gv dd dy lk kd sd 1 (nI (D 0)) (nI (D 1)) (nI (D 2)) (nI (D 3)) 0 u11 u12 u13 u14 u15 u16 u17 (Or.inr rfl)
    obtain ⟨f1, f2⟩ := cp_c hi hc hd q2 q3
    obtain ⟨st', g1, g2⟩ := tk_st th tp lt x2 x3 x4 x5 x6 x7 am bs_F 0 st (by omega) (by unfold bs_F; omega) (fun j hj => by omega)
    have g2' : f_X7_scales_L32 th tp 0 lt x2 x3 x4 x5 x6 x7 am bs_F st 0 = some (st' 3, 1, st', 0, lt, x2, x3, x4, x5, x6, x7, 0) := g2
    rw [if_pos rfl, q1, if_neg (show ¬ (1 : Int32) = 0 by decide), g2', Option.bind_some]
    refine ⟨_, _, D, 0, 0, rfl, rfl, ?_, rfl, tk_T0 _ _, ⟨fun i hi' => (g1 i hi').trans (hs i hi'), hi, f1, f2, rfl, rfl, rfl, rfl, by rw [d1]; rfl, rfl, Or.inr ⟨rfl, d2⟩⟩, rfl, ⟨by omega, by omega, rfl, rfl, rfl, tp_acts0 _ _ _ _ _ _⟩, Or.inr rfl⟩
    exact ((g1 3 (by omega)).trans (hs 3 (by omega))).symm
  · subst c2 c3 c4
    rw [if_neg c1, if_pos rfl]
    exact ⟨_, _, A, o, n, rfl, rfl, rfl, rfl, tk_T0 _ _, h, rfl, ha, Or.inl rfl⟩
end TX
