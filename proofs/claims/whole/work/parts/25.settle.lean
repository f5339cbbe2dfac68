/-! settling: one, by days; how many are kept -/
def sp_up (A : Nat → Nat) (i v : Nat) : Nat → Nat := fun j => if j = i then v else A j
def sp_clr (s p : Nat) : Nat := if sp_b s p = 1 then s - 2 ^ p else s
theorem nm_clr : ∀ s, s < 256 → ∀ k, k < 8 → nI s &&& ((nI 1 <<< (nI k &&& nI 31)) ^^^ (-nI 1)) = nI (sp_clr s k) := by decide +kernel
theorem sp_clr_lt {s : Nat} (h : s < 256) (p : Nat) : sp_clr s p < 256 := by
  unfold sp_clr
  split
  · exact Nat.lt_of_le_of_lt (Nat.sub_le _ _) h
  · exact h
def sp_kn (k : Bool) (v : Nat) : Nat := if k = true then (if v + 1 < 10 then v + 1 else 10) else v - 1
def sp_kh (k : Bool) : Nat := if k = true then 1 else 2
def sp_set (A : Nat → Nat) (p : Nat) (k : Bool) : Nat → Nat := sp_up (sp_up (sp_up A (49 + p) (sp_kh k)) 4 (sp_clr (A 4) p)) (5 + A (17 + p)) (sp_kn k (A (5 + A (17 + p))))
theorem sp_set_ne {A : Nat → Nat} {p j : Nat} (k : Bool) (h1 : j ≠ 4) (h2 : j ≠ 49 + p) (h3 : j ≠ 5 + A (17 + p)) : sp_set A p k j = A j := by
  unfold sp_set sp_up
  rw [if_neg h3, if_neg h1, if_neg h2]
theorem sp_set_4 {A : Nat → Nat} {p : Nat} (k : Bool) : sp_set A p k 4 = sp_clr (A 4) p := by
  unfold sp_set sp_up
  rw [if_neg (by omega), if_pos rfl]
theorem sp_set_k {A : Nat → Nat} {p : Nat} (k : Bool) : sp_set A p k (5 + A (17 + p)) = sp_kn k (A (5 + A (17 + p))) := by
  unfold sp_set sp_up
  rw [if_pos rfl]
theorem sp_set_h {A : Nat → Nat} {p : Nat} (k : Bool) (hg : A (17 + p) < 4) : sp_set A p k (49 + p) = sp_kh k := by
  unfold sp_set sp_up
  rw [if_neg (by omega), if_neg (by omega), if_pos rfl]
theorem sp_set_iv {A : Nat → Nat} (h : sp_iv A) {p : Nat} (hp : p < A 3) (k : Bool) : sp_iv (sp_set A p k) := by
  obtain ⟨h0, h1, h2, h3, h4, h5, h6⟩ := h
  have hg := (h6 p hp).2.2.1
  have e : ∀ j, j ≠ 4 → j ≠ 49 + p → ¬ (5 ≤ j ∧ j < 9) → sp_set A p k j = A j := fun j a b c => sp_set_ne k a b (by omega)
  have e3 : sp_set A p k 3 = A 3 := e 3 (by omega) (by omega) (by omega)
  have e2 : sp_set A p k 2 = A 2 := e 2 (by omega) (by omega) (by omega)
  refine ⟨?_, ?_, ?_, ?_, ?_, ?_, ?_⟩
  · rw [e 0 (by omega) (by omega) (by omega)]; exact h0
  · rw [e 1 (by omega) (by omega) (by omega)]; exact h1
  · rw [e2]; exact h2
  · rw [e3]; exact h3
  · rw [sp_set_4]; exact sp_clr_lt h4 p
  · intro g hg4
    by_cases hgg : g = A (17 + p)
    · subst hgg
      rw [sp_set_k]
      have := h5 (A (17 + p)) hg4
      unfold sp_kn
      (repeat' split) <;> omega
    · rw [sp_set_ne k (by omega) (by omega) (by omega)]
      exact h5 g hg4
  · intro q hq
    rw [e3] at hq
    rw [e2, e (9 + q) (by omega) (by omega) (by omega), e (17 + q) (by omega) (by omega) (by omega), e (25 + q) (by omega) (by omega) (by omega), e (33 + q) (by omega) (by omega) (by omega), e (41 + q) (by omega) (by omega) (by omega)]
    obtain ⟨a1, a2, a3, a4, a5, a6, a7⟩ := h6 q hq
    refine ⟨a1, a2, a3, a4, a5, a6, ?_⟩
    by_cases hqp : q = p
    · subst hqp
      rw [sp_set_h k (by omega)]
      unfold sp_kh
      split <;> omega
    · rw [sp_set_ne k (by omega) (by omega) (by omega)]
      exact a7
theorem sp_set_at {st : Nat → Int32} {A : Nat → Nat} (hs : sp_at st A) (a b x y z : Nat) : sp_at (upd (upd (upd st a (nI x)) 4 (nI y)) b (nI z)) (sp_up (sp_up (sp_up A a x) 4 y) b z) := by
  intro i hi
  unfold upd sp_up
  by_cases h1 : i = b
  · rw [if_pos h1, if_pos h1]
  · rw [if_neg h1, if_neg h1]
    by_cases h2 : i = 4
    · rw [if_pos h2, if_pos h2]
    · rw [if_neg h2, if_neg h2]
      by_cases h3 : i = a
      · rw [if_pos h3, if_pos h3]
      · rw [if_neg h3, if_neg h3]
        exact hs i hi
theorem e7_settleNow {st : Nat → Int32} {A : Nat → Nat} (hs : sp_at st A) (h : sp_iv A) {p : Nat} (hp : p < A 3) (k : Bool) : ∃ st' : Nat → Int32, f_X7_settleNow st (nI p) (if k = true then 1 else 0) = some st' ∧ sp_at st' (sp_set A p k) := by
  have h3 := h.2.2.2.1
  have h4 := h.2.2.2.2.1
  have hr := h.2.2.2.2.2.2 p hp
  have h2 := h.2.2.1
  have h5 := h.2.2.2.2.2.1 (A (17 + p)) (by omega)
  have hs' := hs
  unfold sp_at at hs'
  cases k with
  | false =>
    show ∃ st', f_X7_settleNow st (nI p) 0 = some st' ∧ _
    unfold f_X7_settleNow
    simp (disch := omega) only [bs_lits, nI_add, nI_clamp, bs_inN, hs', pk_un, nm_clr, if_true]
    have ek : sp_kn false (A (5 + A (17 + p))) = A (5 + A (17 + p)) - 1 := rfl
    have eh : sp_kh false = 2 := rfl
    by_cases hz : A (5 + A (17 + p)) = 0
    · rw [hz, if_neg (by decide)]
      refine ⟨_, rfl, ?_⟩
      unfold sp_set
      rw [ek, hz, eh]
      exact sp_set_at hs _ _ _ _ _
    · rw [pk_sub (by omega), if_pos (by rw [nI_leI (by omega) (by omega)]; omega), if_pos (by rw [nI_leI (by omega) (by omega)]; omega)]
      refine ⟨_, rfl, ?_⟩
      unfold sp_set
      rw [ek, eh]
      exact sp_set_at hs _ _ _ _ _
  | true =>
    show ∃ st', f_X7_settleNow st (nI p) 1 = some st' ∧ _
    unfold f_X7_settleNow
    have e10 : ¬ nI 1 = nI 0 := by decide
    simp (disch := omega) only [bs_lits, nI_add, nI_clamp, bs_inN, hs', pk_un, nm_clr, if_true, e10, if_false]
    have ek : sp_kn true (A (5 + A (17 + p))) = if A (5 + A (17 + p)) + 1 < 10 then A (5 + A (17 + p)) + 1 else 10 := rfl
    have eh : sp_kh true = 1 := rfl
    rw [if_pos (by rw [nI_leI (by omega) (by omega)]; omega)]
    by_cases hz : A (5 + A (17 + p)) + 1 ≤ 10
    · rw [if_pos (by rw [nI_leI (by omega) (by omega)]; omega)]
      refine ⟨_, rfl, ?_⟩
      unfold sp_set
      have e9 : (if A (5 + A (17 + p)) + 1 < 10 then A (5 + A (17 + p)) + 1 else 10) = A (5 + A (17 + p)) + 1 := by split <;> omega
      rw [ek, eh, e9]
      exact sp_set_at hs _ _ _ _ _
    · rw [if_neg (by rw [nI_leI (by omega) (by omega)]; omega)]
      refine ⟨_, rfl, ?_⟩
      unfold sp_set
      have e9 : (if A (5 + A (17 + p)) + 1 < 10 then A (5 + A (17 + p)) + 1 else 10) = 10 := by split <;> omega
      rw [ek, eh, e9]
      exact sp_set_at hs _ _ _ _ _
theorem sp_set_c {kp gv lk kd sd : Nat → Int32} {A : Nat → Nat} (hc : sp_c A kp gv lk kd sd) (h : sp_iv A) {p : Nat} (hp : p < A 3) (k : Bool) : sp_c (sp_set A p k) (upd kp (A (17 + p)) (nI (sp_kn k (A (5 + A (17 + p)))))) gv lk kd (upd sd p (nI (sp_kh k))) := by
  have hr := h.2.2.2.2.2.2 p hp
  have h2 := h.2.2.1
  have h3 := h.2.2.2.1
  have e : ∀ j, j ≠ 4 → j ≠ 49 + p → ¬ (5 ≤ j ∧ j < 9) → sp_set A p k j = A j := fun j a b c => sp_set_ne k a b (by omega)
  have e3 : sp_set A p k 3 = A 3 := e 3 (by omega) (by omega) (by omega)
  have e2 : sp_set A p k 2 = A 2 := e 2 (by omega) (by omega) (by omega)
  refine ⟨fun g hg => ?_, fun q hq => ?_⟩
  · rw [e2] at hg
    by_cases hgg : g = A (17 + p)
    · subst hgg
      rw [pk_us, sp_set_k]
    · rw [pk_un hgg, sp_set_ne k (by omega) (by omega) (by omega)]
      exact hc.1 g hg
  · rw [e3] at hq
    obtain ⟨a1, a2, a3, a4⟩ := hc.2 q hq
    rw [e (9 + q) (by omega) (by omega) (by omega), e (17 + q) (by omega) (by omega) (by omega), e (41 + q) (by omega) (by omega) (by omega)]
    refine ⟨a1, a2, a3, ?_⟩
    by_cases hqp : q = p
    · subst hqp
      rw [pk_us, sp_set_h k (by omega)]
    · rw [pk_un hqp, sp_set_ne k (by omega) (by omega) (by omega)]
      exact a4
theorem sp_set_d {dd dy : Nat → Int32} {A : Nat → Nat} (hd : sp_d A dd dy) (h : sp_iv A) {p : Nat} (hp : p < A 3) (k : Bool) : sp_d (sp_set A p k) dd dy := by
  have hr := h.2.2.2.2.2.2 p hp
  have h2 := h.2.2.1
  have h3 := h.2.2.2.1
  intro q hq
  rw [sp_set_ne k (by omega) (by omega) (by omega)] at hq
  rw [sp_set_ne k (by omega) (by omega) (by omega), sp_set_ne k (by omega) (by omega) (by omega)]
  exact hd q hq
theorem e4_settleOne {kp gv lk kd sd : Nat → Int32} {A : Nat → Nat} (hc : sp_c A kp gv lk kd sd) (h : sp_iv A) {p : Nat} (hp : p < A 3) (k : Bool) : f_X4_settleOne (nI (A 4)) kp gv sd (nI p) (if k = true then 1 else 0) = some (nI (sp_clr (A 4) p), upd kp (A (17 + p)) (nI (sp_kn k (A (5 + A (17 + p))))), upd sd p (nI (sp_kh k))) := by
  have h3 := h.2.2.2.1
  have h4 := h.2.2.2.2.1
  have hr := h.2.2.2.2.2.2 p hp
  have h2 := h.2.2.1
  have h5 := h.2.2.2.2.2.1 (A (17 + p)) (by omega)
  obtain ⟨a1, a2, a3, a4⟩ := hc.2 p hp
  have hk := hc.1 (A (17 + p)) hr.2.2.1
  cases k with
  | false =>
    show f_X4_settleOne (nI (A 4)) kp gv sd (nI p) 0 = _
    unfold f_X4_settleOne
    simp (disch := omega) only [bs_lits, nI_clamp, bs_inN, a1, hk, nm_clr, if_true]
    have ek : sp_kn false (A (5 + A (17 + p))) = A (5 + A (17 + p)) - 1 := rfl
    have eh : sp_kh false = 2 := rfl
    by_cases hz : A (5 + A (17 + p)) = 0
    · rw [ek, eh, hz, if_neg (by decide)]
    · rw [pk_sub (by omega), ek, eh]
      by_cases hz1 : A (5 + A (17 + p)) = 1
      · rw [hz1, if_neg (by decide)]
      · rw [if_pos (by rw [nI_ltI (by omega) (by omega)]; omega)]
  | true =>
    show f_X4_settleOne (nI (A 4)) kp gv sd (nI p) 1 = _
    unfold f_X4_settleOne
    have e10 : ¬ nI 1 = nI 0 := by decide
    simp (disch := omega) only [bs_lits, nI_add, nI_clamp, bs_inN, a1, hk, nm_clr, if_true, e10, if_false, nI_ltI]
    have ek : sp_kn true (A (5 + A (17 + p))) = if A (5 + A (17 + p)) + 1 < 10 then A (5 + A (17 + p)) + 1 else 10 := rfl
    have eh : sp_kh true = 1 := rfl
    rw [ek, eh]
    by_cases hz : A (5 + A (17 + p)) + 1 < 10
    · rw [if_pos hz, if_pos hz]
    · rw [if_neg hz, if_neg hz]
/-- one promise on a day; a day; the days -/
def sp_ds (B : Nat → Nat) (h : Int32) (d p : Nat) : Nat → Nat := if B (33 + p) = d ∧ B (49 + p) = 0 then sp_set B p (decide (¬ nI (sp_v B (p + 1)) < h)) else B
def sp_day (A : Nat → Nat) (h : Int32) (d : Nat) : Nat → (Nat → Nat)
  | 0 => A
  | p + 1 => sp_ds (sp_day A h d p) h d p
def sp_days (A : Nat → Nat) (h : Int32) : Nat → (Nat → Nat)
  | 0 => A
  | d + 1 => sp_day (sp_days A h d) h d (A 3)
/-- what settling leaves as it is -/
def sp_like (A B : Nat → Nat) : Prop := ∀ j, j ≠ 4 → ¬ (5 ≤ j ∧ j < 9) → j < 49 → B j = A j
theorem sp_ds_ok {A B : Nat → Nat} (hi : sp_iv B) (hl : sp_like A B) {p : Nat} (hp : p < A 3) (h : Int32) (d : Nat) : sp_iv (sp_ds B h d p) ∧ sp_like A (sp_ds B h d p) := by
  have e3 : B 3 = A 3 := hl 3 (by omega) (by omega) (by omega)
  have hp' : p < B 3 := by omega
  have hr := hi.2.2.2.2.2.2 p hp'
  have h2 := hi.2.2.1
  unfold sp_ds
  split
  · exact ⟨sp_set_iv hi hp' _, fun j a b c => by rw [sp_set_ne _ a (by omega) (by omega)]; exact hl j a b c⟩
  · exact ⟨hi, hl⟩
theorem sp_day_ok {A B : Nat → Nat} (hi : sp_iv B) (hl : sp_like A B) (h : Int32) (d : Nat) : ∀ p, p ≤ A 3 → sp_iv (sp_day B h d p) ∧ sp_like A (sp_day B h d p)
  | 0, _ => ⟨hi, hl⟩
  | p + 1, hp => by
    obtain ⟨a, b⟩ := sp_day_ok hi hl h d p (by omega)
    exact sp_ds_ok a b (by omega) h d
theorem sp_days_ok {A : Nat → Nat} (hi : sp_iv A) (h : Int32) : ∀ d, sp_iv (sp_days A h d) ∧ sp_like A (sp_days A h d)
  | 0 => ⟨hi, fun _ _ _ _ => rfl⟩
  | d + 1 => by
    obtain ⟨a, b⟩ := sp_days_ok hi h d
    exact sp_day_ok a b h d (A 3) (Nat.le_refl _)
theorem e7_day {A B : Nat → Nat} (hi : sp_iv B) (hl : sp_like A B) (r : (Nat → Int32) → Int32 → Option (Int32 × (Nat → Int32) × (Nat → Int32) × Int32)) (as : Nat → Int32) (km w : Int32) (h : Int32) {d : Nat} (hd : d < 2 ^ 31) : ∀ (n p : Nat) (st : Nat → Int32), p ≤ A 3 → A 3 - p < n → sp_at st (sp_day B h d p) → ∃ st' : Nat → Int32, sp_at st' (sp_day B h d (A 3)) ∧ f_X7_settleAll_L37 r as km w h (nI d) n st (nI p) = r st' (nI (d + 1)) := by
  intro n
  induction n with
  | zero => intro p st _ h2; omega
  | succ n ih =>
    intro p st g1 g2 hs
    obtain ⟨ci, cl⟩ := sp_day_ok hi hl h d p g1
    have e3 : sp_day B h d p 3 = A 3 := cl 3 (by omega) (by omega) (by omega)
    have h8 := ci.2.2.2.1
    have ep : nI p + 1 = nI (p + 1) := nI_1 p
    have ed : nI d + 1 = nI (d + 1) := nI_1 d
    rw [f_X7_settleAll_L37_s, hs 3 (by omega), e3, ep, ed]
    by_cases hp : p = A 3
    · subst hp
      rw [if_pos (by rw [nI_leI (by omega) (by omega)]; exact Nat.le_refl _)]
      exact ⟨st, hs, rfl⟩
    · have hp' : p < sp_day B h d p 3 := by omega
      have hr := ci.2.2.2.2.2.2 p hp'
      have e : sp_day B h d (p + 1) = sp_ds (sp_day B h d p) h d p := rfl
      rw [if_neg (by rw [nI_leI (by omega) (by omega)]; omega), e7_isOpen hs ci hp', Option.bind_some]
      by_cases h0 : sp_day B h d p (49 + p) = 0
      · rw [if_pos h0, if_neg (by decide)]
        have e33 : (33 : Int32) + nI p = nI (33 + p) := nI_add 33 p
        rw [e33, if_pos (bs_inN (by omega) (by omega)), nI_clamp (by omega), hs (33 + p) (by omega)]
        by_cases hdd : sp_day B h d p (33 + p) = d
        · rw [if_pos (by rw [hdd]), e7_weightOf hs ci hp', Option.bind_some]
          by_cases hw : nI (sp_v (sp_day B h d p) (p + 1)) < h
          · obtain ⟨st1, s1, s2⟩ := e7_settleNow hs ci hp' false
            have s1' : f_X7_settleNow st (nI p) 0 = some st1 := s1
            rw [if_pos hw, s1', Option.bind_some]
            refine ih (p + 1) st1 (by omega) (by omega) ?_
            rw [e, sp_ds, if_pos ⟨hdd, h0⟩, decide_eq_false (fun z => z hw)]
            exact s2
          · obtain ⟨st1, s1, s2⟩ := e7_settleNow hs ci hp' true
            have s1' : f_X7_settleNow st (nI p) 1 = some st1 := s1
            rw [if_neg hw, s1', Option.bind_some]
            refine ih (p + 1) st1 (by omega) (by omega) ?_
            rw [e, sp_ds, if_pos ⟨hdd, h0⟩, decide_eq_true hw]
            exact s2
        · rw [if_neg (fun z => hdd ((nI_eq (by omega) hd).mp z))]
          refine ih (p + 1) st (by omega) (by omega) ?_
          rw [e, sp_ds, if_neg (fun z => hdd z.1)]
          exact hs
      · rw [if_neg h0, if_pos (by decide)]
        refine ih (p + 1) st (by omega) (by omega) ?_
        rw [e, sp_ds, if_neg (fun z => h0 z.2)]
        exact hs
theorem e4_day {A B : Nat → Nat} (hi : sp_iv B) (hl : sp_like A B) {gv lk kd dd dy : Nat → Int32} (hdd : sp_d A dd dy) (r : Int32 → (Nat → Int32) → (Nat → Int32) → Int32 → Option (Int32 × (Nat → Int32) × (Nat → Int32))) (h : Int32) {d : Nat} (hd : d < 2 ^ 31) : ∀ (n p : Nat) (kp sd : Nat → Int32), p ≤ A 3 → A 3 - p < n → sp_c (sp_day B h d p) kp gv lk kd sd → ∃ kp' sd' : Nat → Int32, sp_c (sp_day B h d (A 3)) kp' gv lk kd sd' ∧ f_X4_settleByDays_L10 r (nI (A 3)) gv dy lk kd h (nI d) n (nI (sp_day B h d p 4)) kp sd (nI p) = r (nI (sp_day B h d (A 3) 4)) kp' sd' (nI (d + 1)) := by
  intro n
  induction n with
  | zero => intro p kp sd _ h2; omega
  | succ n ih =>
    intro p kp sd g1 g2 hc
    obtain ⟨ci, cl⟩ := sp_day_ok hi hl h d p g1
    have e3 : sp_day B h d p 3 = A 3 := cl 3 (by omega) (by omega) (by omega)
    have h8 := ci.2.2.2.1
    have ep : nI p + 1 = nI (p + 1) := nI_1 p
    have ed : nI d + 1 = nI (d + 1) := nI_1 d
    rw [f_X4_settleByDays_L10_s, ep, ed]
    by_cases hp : p = A 3
    · subst hp
      rw [if_pos (by rw [nI_leI (by omega) (by omega)]; exact Nat.le_refl _)]
      exact ⟨kp, sd, hc, rfl⟩
    · have hp' : p < sp_day B h d p 3 := by omega
      have hr := ci.2.2.2.2.2.2 p hp'
      obtain ⟨a1, a2, a3, a4⟩ := hc.2 p hp'
      have e33 : sp_day B h d p (33 + p) = A (33 + p) := cl _ (by omega) (by omega) (by omega)
      have hdy : dy p = nI (sp_day B h d p (33 + p)) := by rw [e33]; exact (hdd p (by omega)).2
      have e : sp_day B h d (p + 1) = sp_ds (sp_day B h d p) h d p := rfl
      rw [if_neg (by rw [nI_leI (by omega) (by omega)]; omega), if_pos (bs_inN (by omega) (by omega)), nI_clamp (by omega), hdy]
      by_cases hdd : sp_day B h d p (33 + p) = d
      · rw [if_pos (by rw [hdd]), e4_isSettled a4 (by omega) hr.2.2.2.2.2.2, Option.bind_some]
        by_cases h0 : sp_day B h d p (49 + p) = 0
        · rw [if_pos h0, if_pos rfl, e4_weightOf hc ci hp', Option.bind_some]
          by_cases hw : nI (sp_v (sp_day B h d p) (p + 1)) < h
          · have s1 := e4_settleOne hc ci hp' false
            have s1' : f_X4_settleOne (nI (sp_day B h d p 4)) kp gv sd (nI p) 0 = _ := s1
            rw [if_pos hw, s1', Option.bind_some]
            have s2 := sp_set_c hc ci hp' false
            have e9 : sp_day B h d (p + 1) = sp_set (sp_day B h d p) p false := by
              rw [e, sp_ds, if_pos ⟨hdd, h0⟩, decide_eq_false (fun z => z hw)]
            have ih2 := ih (p + 1) _ _ (by omega) (by omega) (by rw [e9]; exact s2)
            rw [e9, sp_set_4] at ih2
            exact ih2
          · have s1 := e4_settleOne hc ci hp' true
            have s1' : f_X4_settleOne (nI (sp_day B h d p 4)) kp gv sd (nI p) 1 = _ := s1
            rw [if_neg hw, s1', Option.bind_some]
            have s2 := sp_set_c hc ci hp' true
            have e9 : sp_day B h d (p + 1) = sp_set (sp_day B h d p) p true := by
              rw [e, sp_ds, if_pos ⟨hdd, h0⟩, decide_eq_true hw]
            have ih2 := ih (p + 1) _ _ (by omega) (by omega) (by rw [e9]; exact s2)
            rw [e9, sp_set_4] at ih2
            exact ih2
        · rw [if_neg h0, if_neg (by decide)]
          have e9 : sp_day B h d (p + 1) = sp_day B h d p := by
            rw [e, sp_ds, if_neg (fun z => h0 z.2)]
          have ih2 := ih (p + 1) kp sd (by omega) (by omega) (by rw [e9]; exact hc)
          rw [e9] at ih2
          exact ih2
      · rw [if_neg (fun z => hdd ((nI_eq (by omega) hd).mp z))]
        have e9 : sp_day B h d (p + 1) = sp_day B h d p := by
          rw [e, sp_ds, if_neg (fun z => hdd z.1)]
        have ih2 := ih (p + 1) kp sd (by omega) (by omega) (by rw [e9]; exact hc)
        rw [e9] at ih2
        exact ih2
theorem e4_days {A : Nat → Nat} (hi : sp_iv A) {gv lk kd dd dy : Nat → Int32} (hdd : sp_d A dd dy) (h : Int32) : ∀ (n d : Nat) (kp sd : Nat → Int32), d ≤ 10 → 10 - d < n → sp_c (sp_days A h d) kp gv lk kd sd → ∃ kp' sd' : Nat → Int32, sp_c (sp_days A h 10) kp' gv lk kd sd' ∧ f_X4_settleByDays_L2 (nI (A 3)) gv dy lk kd h n (nI (sp_days A h d 4)) kp sd (nI d) = some (nI (sp_days A h 10 4), kp', sd') := by
  intro n
  induction n with
  | zero => intro d kp sd _ h2; omega
  | succ n ih =>
    intro d kp sd g1 g2 hc
    obtain ⟨ci, cl⟩ := sp_days_ok hi h d
    rw [f_X4_settleByDays_L2_s]
    have e9 : ((9 : Int32) < nI d) = (9 < d) := propext (nI_ltI (a := 9) (by omega) (by omega))
    simp only [e9]
    by_cases hd : d = 10
    · subst hd
      rw [if_pos (by omega)]
      exact ⟨kp, sd, hc, rfl⟩
    · rw [if_neg (by omega)]
      obtain ⟨k1, s1, c1, c2⟩ := e4_day ci cl hdd (f_X4_settleByDays_L2 (nI (A 3)) gv dy lk kd h n) h (d := d) (by omega) bs_F 0 kp sd (Nat.zero_le _) (by have := hi.2.2.2.1; unfold bs_F; omega) hc
      obtain ⟨k2, s2, d1, d2⟩ := ih (d + 1) k1 s1 (by omega) (by omega) c1
      exact ⟨k2, s2, d1, c2.trans d2⟩
def sp_kept (A : Nat → Nat) (g : Int32) : Nat → Nat
  | 0 => 0
  | p + 1 => sp_kept A g p + (if nI (A (17 + p)) = g ∧ A (49 + p) = 1 then 1 else 0)
theorem e4_kept_L {A : Nat → Nat} {kp gv lk kd sd : Nat → Int32} (hc : sp_c A kp gv lk kd sd) (h : sp_iv A) (g : Int32) : ∀ (n q : Nat), q ≤ A 3 → A 3 - q < n → f_X4_howManyKept_L4 (nI (A 3)) gv sd g n (nI (sp_kept A g q)) (nI q) = some (nI (sp_kept A g (A 3))) := by
  intro n
  have h3 := h.2.2.2.1
  induction n with
  | zero => intro q _ h2; omega
  | succ n ih =>
    intro q h1 h2
    have e : sp_kept A g (q + 1) = sp_kept A g q + (if nI (A (17 + q)) = g ∧ A (49 + q) = 1 then 1 else 0) := rfl
    rw [f_X4_howManyKept_L4_s]
    by_cases hq : q = A 3
    · rw [hq, if_pos (by rw [nI_leI (by omega) (by omega)]; exact Nat.le_refl _)]
    · have ih2 := ih (q + 1) (by omega) (by omega)
      obtain ⟨a1, a2, a3, a4⟩ := hc.2 q (by omega)
      have hr := h.2.2.2.2.2.2 q (by omega)
      rw [e] at ih2
      rw [if_neg (by rw [nI_leI (by omega) (by omega)]; omega), if_pos (bs_inN (by omega) (by omega)), nI_clamp (by omega), a1, a4]
      have e1 : (nI (A (49 + q)) = (1 : Int32)) = (A (49 + q) = 1) := propext (nI_eq (b := 1) (by omega) (by omega))
      have e2 : nI (sp_kept A g q) + 1 = nI (sp_kept A g q + 1) := nI_1 _
      have e4 : nI (sp_kept A g q) + 0 = nI (sp_kept A g q + 0) := nI_add _ 0
      have e5 : nI q + 1 = nI (q + 1) := nI_1 q
      rw [e2, e4, e5]
      simp only [e1]
      by_cases hg : nI (A (17 + q)) = g
      · rw [if_pos hg, if_pos (bs_inN (by omega) (by omega))]
        by_cases hk : A (49 + q) = 1
        · rw [if_pos ⟨hg, hk⟩] at ih2
          rw [if_pos hk]
          exact ih2
        · rw [if_neg (fun z => hk z.2)] at ih2
          rw [if_neg hk]
          exact ih2
      · rw [if_neg (fun z => hg z.1)] at ih2
        rw [if_neg hg]
        exact ih2
theorem e7_back_L (as : Nat → Int32) (km w : Int32) : ∀ (n i : Nat) (st : Nat → Int32), i ≤ 57 → 57 - i < n → (∀ j, j < i → st j = as j) → ∃ st' : Nat → Int32, (∀ j, j < 57 → st' j = as j) ∧ f_X7_settleAll_L183 as km w n st (nI i) = some (w, st', as, km) := by
  intro n
  induction n with
  | zero => intro i st _ h2; omega
  | succ n ih =>
    intro i st h1 h2 h3
    rw [f_X7_settleAll_L183_s]
    have e9 : ((57 : Int32) ≤ nI i) = (57 ≤ i) := propext (nI_leI (a := 57) (by omega) (by omega))
    have e5 : nI i + 1 = nI (i + 1) := nI_1 i
    rw [e5]
    simp only [e9]
    by_cases hi : i = 57
    · subst hi
      rw [if_pos (by omega)]
      exact ⟨st, h3, rfl⟩
    · rw [if_neg (by omega), if_pos (bs_inN (by omega) (by omega)), if_pos (bs_inN (by omega) (by omega)), nI_clamp (by omega)]
      refine ih (i + 1) _ (by omega) (by omega) (fun j hj => ?_)
      by_cases hji : j = i
      · subst hji
        rw [pk_us]
      · rw [pk_un hji]
        exact h3 j (by omega)
theorem e7_kept_L {A : Nat → Nat} {st : Nat → Int32} (hs : sp_at st A) (h : sp_iv A) (as : Nat → Int32) (g w : Int32) : ∀ (n q : Nat), q ≤ A 3 → A 3 - q < n → f_X7_settleAll_L121 st as g w n (nI (sp_kept A g q)) (nI q) = f_X7_settleAll_L183 as (nI (sp_kept A g (A 3))) w bs_F st 0 := by
  intro n
  have h3 := h.2.2.2.1
  induction n with
  | zero => intro q _ h2; omega
  | succ n ih =>
    intro q h1 h2
    have e : sp_kept A g (q + 1) = sp_kept A g q + (if nI (A (17 + q)) = g ∧ A (49 + q) = 1 then 1 else 0) := rfl
    rw [f_X7_settleAll_L121_s, hs 3 (by omega)]
    by_cases hq : q = A 3
    · rw [hq, if_pos (by rw [nI_leI (by omega) (by omega)]; exact Nat.le_refl _)]
    · have ih2 := ih (q + 1) (by omega) (by omega)
      have hr := h.2.2.2.2.2.2 q (by omega)
      rw [e] at ih2
      have e17 : (17 : Int32) + nI q = nI (17 + q) := nI_add 17 q
      have e49 : (49 : Int32) + nI q = nI (49 + q) := nI_add 49 q
      rw [if_neg (by rw [nI_leI (by omega) (by omega)]; omega), e17, e49, if_pos (bs_inN (by omega) (by omega)), nI_clamp (by omega), nI_clamp (by omega), hs _ (by omega), hs _ (by omega)]
      have e1 : (nI (A (49 + q)) = (1 : Int32)) = (A (49 + q) = 1) := propext (nI_eq (b := 1) (by omega) (by omega))
      have e2 : nI (sp_kept A g q) + 1 = nI (sp_kept A g q + 1) := nI_1 _
      have e4 : nI (sp_kept A g q) + 0 = nI (sp_kept A g q + 0) := nI_add _ 0
      have e5 : nI q + 1 = nI (q + 1) := nI_1 q
      rw [e2, e4, e5]
      simp only [e1]
      by_cases hg : nI (A (17 + q)) = g
      · rw [if_pos hg, if_pos (bs_inN (by omega) (by omega))]
        by_cases hk : A (49 + q) = 1
        · rw [if_pos ⟨hg, hk⟩] at ih2
          rw [if_pos hk]
          exact ih2
        · rw [if_neg (fun z => hk z.2)] at ih2
          rw [if_neg hk]
          exact ih2
      · rw [if_neg (fun z => hg z.1)] at ih2
        rw [if_neg hg]
        exact ih2
theorem e7_days {A : Nat → Nat} (hi : sp_iv A) (as : Nat → Int32) (km : Int32) {g : Nat} (hg : g < A 2) (h : Int32) : ∀ (n d : Nat) (st : Nat → Int32), d ≤ 10 → 10 - d < n → sp_at st (sp_days A h d) → ∃ st' : Nat → Int32, (∀ j, j < 57 → st' j = as j) ∧ f_X7_settleAll_L28 as km (nI g) h n st (nI d) = some (nI (sp_days A h 10 (5 + g)), st', as, nI (sp_kept (sp_days A h 10) (nI g) (A 3))) := by
  intro n
  induction n with
  | zero => intro d st _ h2; omega
  | succ n ih =>
    intro d st g1 g2 hs
    obtain ⟨ci, cl⟩ := sp_days_ok hi h d
    have h2 := hi.2.2.1
    rw [f_X7_settleAll_L28_s]
    have e9 : ((9 : Int32) < nI d) = (9 < d) := propext (nI_ltI (a := 9) (by omega) (by omega))
    simp only [e9]
    by_cases hd : d = 10
    · subst hd
      have e3 : sp_days A h 10 3 = A 3 := cl 3 (by omega) (by omega) (by omega)
      have e5g : (5 : Int32) + nI g = nI (5 + g) := nI_add 5 g
      have h8 := hi.2.2.2.1
      rw [if_pos (by omega), e5g, if_pos (bs_inN (by omega) (by omega)), nI_clamp (by omega), hs (5 + g) (by omega)]
      have e := e7_kept_L hs ci as (nI g) (nI (sp_days A h 10 (5 + g))) bs_F 0 (Nat.zero_le _) (by unfold bs_F; omega)
      rw [e3] at e
      obtain ⟨st', b1, b2⟩ := e7_back_L as (nI (sp_kept (sp_days A h 10) (nI g) (A 3))) (nI (sp_days A h 10 (5 + g))) bs_F 0 st (by omega) (by unfold bs_F; omega) (fun j hj => by omega)
      exact ⟨st', b1, e.trans b2⟩
    · rw [if_neg (by omega)]
      obtain ⟨s1, c1, c2⟩ := e7_day ci cl (f_X7_settleAll_L28 as km (nI g) h n) as km (nI g) h (d := d) (by omega) bs_F 0 st (Nat.zero_le _) (by have := hi.2.2.2.1; unfold bs_F; omega) hs
      obtain ⟨s2, d1, d2⟩ := ih (d + 1) s1 (by omega) (by omega) c1
      exact ⟨s2, d1, c2.trans d2⟩
theorem e7_aside_L (st : Nat → Int32) (km g h : Int32) : ∀ (n i : Nat) (as : Nat → Int32), i ≤ 57 → 57 - i < n → (∀ j, j < i → as j = st j) → ∃ as' : Nat → Int32, (∀ j, j < 57 → as' j = st j) ∧ f_X7_settleAll_L2 st km g h n as (nI i) = f_X7_settleAll_L28 as' km g h bs_F st 0 := by
  intro n
  induction n with
  | zero => intro i as _ h2; omega
  | succ n ih =>
    intro i as h1 h2 h3
    rw [f_X7_settleAll_L2_s]
    have e9 : ((57 : Int32) ≤ nI i) = (57 ≤ i) := propext (nI_leI (a := 57) (by omega) (by omega))
    have e5 : nI i + 1 = nI (i + 1) := nI_1 i
    rw [e5]
    simp only [e9]
    by_cases hi : i = 57
    · subst hi
      rw [if_pos (by omega)]
      exact ⟨as, h3, rfl⟩
    · rw [if_neg (by omega), if_pos (bs_inN (by omega) (by omega)), if_pos (bs_inN (by omega) (by omega)), nI_clamp (by omega)]
      refine ih (i + 1) _ (by omega) (by omega) (fun j hj => ?_)
      by_cases hji : j = i
      · subst hji
        rw [pk_us]
      · rw [pk_un hji]
        exact h3 j (by omega)
theorem e7_settleAll {A : Nat → Nat} {st : Nat → Int32} (hs : sp_at st A) (hi : sp_iv A) (as : Nat → Int32) (km : Int32) {g : Nat} (hg : g < A 2) (h : Int32) : ∃ st' as' : Nat → Int32, sp_at st' A ∧ f_X7_settleAll st as km (nI g) h = some (nI (sp_days A h 10 (5 + g)), st', as', nI (sp_kept (sp_days A h 10) (nI g) (A 3))) := by
  obtain ⟨as', a1, a2⟩ := e7_aside_L st km (nI g) h bs_F 0 as (by omega) (by unfold bs_F; omega) (fun j hj => by omega)
  obtain ⟨st', b1, b2⟩ := e7_days hi as' km hg h bs_F 0 st (by omega) (by unfold bs_F; omega) hs
  exact ⟨st', as', fun j hj => by rw [b1 j hj, a1 j hj]; exact hs j hj, a2.trans b2⟩
