/-! acts: the class's ring of what was before, the model's states before -/
def sp_act (pr wx pn ks : Int32) (B C : Nat → Nat) : Prop := wx = nI (B 0) ∧ pn = nI (B 4) ∧ ((pr = -1 ∧ ∀ i, i < 57 → i ≠ 0 → i ≠ 4 → B i = C i) ∨ ∃ p, p < B 3 ∧ pr = nI p ∧ B (49 + p) = 0 ∧ ks = nI (B (5 + B (17 + p))) ∧ ∀ i, i < 57 → i ≠ 0 → i ≠ 4 → i ≠ 49 + p → i ≠ 5 + B (17 + p) → B i = C i)
theorem sp_act_congr {pr wx pn ks : Int32} {B C C' : Nat → Nat} (h : sp_act pr wx pn ks B C) (hc : ∀ i, i < 57 → C i = C' i) : sp_act pr wx pn ks B C' := by
  obtain ⟨h1, h2, h3⟩ := h
  refine ⟨h1, h2, ?_⟩
  rcases h3 with ⟨a, b⟩ | ⟨p, a1, a2, a3, a4, a5⟩
  · exact Or.inl ⟨a, fun i i1 i2 i3 => (b i i1 i2 i3).trans (hc i i1)⟩
  · exact Or.inr ⟨p, a1, a2, a3, a4, fun i i1 i2 i3 i4 i5 => (a5 i i1 i2 i3 i4 i5).trans (hc i i1)⟩
def sp_acts (o n : Nat) (po wo no ko acts : Nat → Int32) (A : Nat → Nat) : Prop := ∃ B : Nat → Nat → Nat, (∀ i, i < 57 → B n i = A i) ∧ ∀ j, j < n → sp_iv (B j) ∧ (∀ i, i < 57 → acts (57 * j + i) = nI (B j i)) ∧ sp_act (po ((o + j) % 24)) (wo ((o + j) % 24)) (no ((o + j) % 24)) (ko ((o + j) % 24)) (B j) (B (j + 1))
theorem e7_note_L (st : Nat → Int32) {m : Nat} (hm : m < 24) : ∀ (n i : Nat) (ac : Nat → Int32), i ≤ 57 → 57 - i < n → ∃ ac' : Nat → Int32, (∀ k, (k < 57 * m + i ∨ 57 * m + 57 ≤ k) → ac' k = ac k) ∧ (∀ j, i ≤ j → j < 57 → ac' (57 * m + j) = st j) ∧ f_X7_note_L51 st (nI m) n ac (nI i) = some (ac', nI (m + 1)) := by
  intro n
  induction n with
  | zero => intro i ac _ h2; omega
  | succ n ih =>
    intro i ac h1 h2
    rw [f_X7_note_L51_s]
    have e9 : ((57 : Int32) ≤ nI i) = (57 ≤ i) := propext (nI_leI (a := 57) (by omega) (by omega))
    have e5 : nI i + 1 = nI (i + 1) := nI_1 i
    have e6 : nI m + 1 = nI (m + 1) := nI_1 m
    have e7 : (57 : Int32) * nI m + nI i = nI (57 * m + i) := by
      rw [show (57 : Int32) = nI 57 from rfl, pk_mul, nI_add]
    rw [e5, e6, e7]
    simp only [e9]
    by_cases hi : i = 57
    · subst hi
      rw [if_pos (by omega)]
      exact ⟨ac, fun _ _ => rfl, fun j a b => by omega, rfl⟩
    · rw [if_neg (by omega), if_pos (bs_inN (by omega) (by omega)), if_pos (bs_inN (by omega) (by omega)), nI_clamp (by omega), nI_clamp (by omega)]
      obtain ⟨ac', a1, a2, a3⟩ := ih (i + 1) (upd ac (57 * m + i) (st i)) (by omega) (by omega)
      refine ⟨ac', fun k hk => ?_, fun j j1 j2 => ?_, a3⟩
      · rw [a1 k (by omega), pk_un (by omega)]
      · by_cases hj : j = i
        · subst hj
          rw [a1 _ (by omega), pk_us]
        · exact a2 j (by omega) j2
theorem e7_shift_L (st : Nat → Int32) : ∀ (n i : Nat) (ac0 ac : Nat → Int32), i ≤ 1311 → 1311 - i < n → (∀ k, i ≤ k → k < 1368 → ac k = ac0 k) → ∃ ac' : Nat → Int32, (∀ k, i ≤ k → k < 1311 → ac' k = ac0 (k + 57)) ∧ (∀ k, k < i → ac' k = ac k) ∧ f_X7_note_L11 st (nI 24) n ac (nI i) = f_X7_note_L51 st (nI 23) bs_F ac' 0 := by
  intro n
  induction n with
  | zero => intro i ac0 ac _ h2; omega
  | succ n ih =>
    intro i ac0 ac h1 h2 h3
    rw [f_X7_note_L11_s]
    have e9 : ((1311 : Int32) ≤ nI i) = (1311 ≤ i) := propext (nI_leI (a := 1311) (by omega) (by omega))
    have e5 : nI i + 1 = nI (i + 1) := nI_1 i
    have e6 : nI 24 - 1 = nI 23 := by decide
    have e7 : nI i + 57 = nI (i + 57) := nI_add i 57
    rw [e5, e6, e7]
    simp only [e9]
    by_cases hi : i = 1311
    · subst hi
      rw [if_pos (by omega)]
      exact ⟨ac, fun k a b => by omega, fun _ _ => rfl, rfl⟩
    · rw [if_neg (by omega), if_pos (bs_inN (by omega) (by omega)), if_pos (bs_inN (by omega) (by omega)), nI_clamp (by omega), nI_clamp (by omega)]
      obtain ⟨ac', a1, a2, a3⟩ := ih (i + 1) ac0 (upd ac i (ac (i + 57))) (by omega) (by omega) (fun k k1 k2 => by rw [pk_un (by omega)]; exact h3 k (by omega) k2)
      refine ⟨ac', fun k k1 k2 => ?_, fun k hk => ?_, a3⟩
      · by_cases hk : k = i
        · subst hk
          rw [a2 k (by omega), pk_us]
          exact h3 (k + 57) (by omega) (by omega)
        · exact a1 k (by omega) k2
      · rw [a2 k (by omega), pk_un (by omega)]
theorem e7_note (st acts : Nat → Int32) {n : Nat} (hn : n ≤ 24) : ∃ ac' : Nat → Int32, f_X7_note st acts (nI n) = some (ac', nI (if n = 24 then 24 else n + 1)) ∧ (∀ i, i < 57 → ac' (57 * (if n = 24 then 23 else n) + i) = st i) ∧ (∀ j, j < (if n = 24 then 23 else n) → ∀ i, i < 57 → ac' (57 * j + i) = acts (57 * (if n = 24 then j + 1 else j) + i)) := by
  unfold f_X7_note
  have e9 : (nI n = (24 : Int32)) = (n = 24) := propext (nI_eq (b := 24) (by omega) (by omega))
  simp only [e9]
  by_cases h24 : n = 24
  · subst h24
    simp only [if_true]
    obtain ⟨a1, b1, b2, b3⟩ := e7_shift_L st bs_F 0 acts acts (by omega) (by unfold bs_F; omega) (fun _ _ _ => rfl)
    obtain ⟨a2, c1, c2, c3⟩ := e7_note_L st (m := 23) (by omega) bs_F 0 a1 (by omega) (by unfold bs_F; omega)
    refine ⟨a2, b3.trans c3, fun i hi => c2 i (Nat.zero_le _) hi, fun j hj i hi => ?_⟩
    rw [c1 _ (by omega), b1 _ (Nat.zero_le _) (by omega)]
    exact congrArg acts (by omega)
  · simp only [if_neg h24]
    obtain ⟨a2, c1, c2, c3⟩ := e7_note_L st (m := n) (by omega) bs_F 0 acts (by omega) (by unfold bs_F; omega)
    exact ⟨a2, c3, fun i hi => c2 i (Nat.zero_le _) hi, fun j hj i hi => c1 _ (by omega)⟩
def sp_os (o n : Nat) : Nat := if n = 24 then (o + 1) % 24 else o
def sp_slot (o n : Nat) : Nat := if n = 24 then ((o + 1) % 24 + 23) % 24 else (o + n) % 24
theorem sp_slot_lt (o n : Nat) : sp_slot o n < 24 := by
  unfold sp_slot
  split <;> exact Nat.mod_lt _ (by omega)
theorem e0_remember (po wo no ko : Nat → Int32) {o n : Nat} (ho : o < 24) (hn : n ≤ 24) (wx pn : Int32) (kp gv : Nat → Int32) (p2 : Int32) (hp : p2 = -1 ∨ ∃ p g : Nat, p < 8 ∧ g < 4 ∧ p2 = nI p ∧ gv p = nI g) : ∃ ko' : Nat → Int32, f_X0_remember po wo no ko (nI o) (nI n) wx pn kp gv p2 = some (upd po (sp_slot o n) p2, upd wo (sp_slot o n) wx, upd no (sp_slot o n) pn, ko', nI (sp_os o n), nI (if n = 24 then 24 else n + 1)) ∧ (∀ k, k ≠ sp_slot o n → ko' k = ko k) ∧ ∀ p g : Nat, p < 8 → g < 4 → p2 = nI p → gv p = nI g → ko' (sp_slot o n) = kp g := by
  have hsl := sp_slot_lt o n
  unfold f_X0_remember
  have e9 : (nI n = (24 : Int32)) = (n = 24) := propext (nI_eq (b := 24) (by omega) (by omega))
  simp only [e9]
  by_cases h24 : n = 24
  · subst h24
    have hos : sp_os o 24 = (o + 1) % 24 := if_pos rfl
    have ei : ((nI (sp_os o 24) + (nI 24 - 1)) - (nI (sp_os o 24) + (nI 24 - 1)) / 24 * 24) = nI (sp_slot o 24) := by
      rw [hos]
      simp (disch := omega) only [bs_lits, nI_add, pk_rem, pk_sub]
      rfl
    have eo : (nI o + 1) - (nI o + 1) / 24 * 24 = nI (sp_os o 24) := by
      simp (disch := omega) only [bs_lits, nI_add, pk_rem]
      rfl
    have ek : nI 24 - 1 + 1 = nI 24 := by decide
    rw [if_pos rfl]
    simp only [ei, eo, ek]
    rw [if_pos (bs_inN hsl (by omega)), if_pos (bs_inN hsl (by omega)), if_pos (bs_inN hsl (by omega)), nI_clamp (by omega)]
    rcases hp with rfl | ⟨p, g, h1, h2, rfl, h4⟩
    · rw [if_pos rfl]
      refine ⟨ko, rfl, fun _ _ => rfl, fun p g h1 h2 h3 => ?_⟩
      have : (-1 : Int32).toInt = (nI p).toInt := by rw [h3]
      rw [nI_toInt (by omega)] at this
      have e : (-1 : Int32).toInt = -1 := by decide
      omega
    · have hne : ¬ nI p = -1 := by
        intro hh
        have : (-1 : Int32).toInt = (nI p).toInt := by rw [hh]
        rw [nI_toInt (by omega)] at this
        have e : (-1 : Int32).toInt = -1 := by decide
        omega
      rw [if_neg hne, if_pos (bs_inN h1 (by omega)), nI_clamp (by omega), h4, if_pos (bs_inN h2 (by omega)), if_pos (bs_inN hsl (by omega)), nI_clamp (by omega)]
      refine ⟨_, rfl, fun k hk => pk_un hk, fun p' g' h1' h2' h3' h4' => ?_⟩
      have hpp : p = p' := (nI_eq (by omega) (by omega)).mp h3'
      subst hpp
      rw [h4] at h4'
      have hgg : g = g' := (nI_eq (by omega) (by omega)).mp h4'
      subst hgg
      exact pk_us
  · have ei : ((nI o + nI n) - (nI o + nI n) / 24 * 24) = nI (sp_slot o n) := by
      simp (disch := omega) only [bs_lits, nI_add, pk_rem]
      unfold sp_slot
      rw [if_neg h24]
    have eo : nI o = nI (sp_os o n) := by
      unfold sp_os
      rw [if_neg h24]
    have ek : nI n + 1 = nI (n + 1) := nI_1 n
    rw [if_neg h24]
    simp only [ei, ek, if_neg h24]
    rw [if_pos (bs_inN hsl (by omega)), if_pos (bs_inN hsl (by omega)), if_pos (bs_inN hsl (by omega)), nI_clamp (by omega)]
    rcases hp with rfl | ⟨p, g, h1, h2, rfl, h4⟩
    · rw [if_pos rfl, eo]
      refine ⟨ko, rfl, fun _ _ => rfl, fun p g h1 h2 h3 => ?_⟩
      have : (-1 : Int32).toInt = (nI p).toInt := by rw [h3]
      rw [nI_toInt (by omega)] at this
      have e : (-1 : Int32).toInt = -1 := by decide
      omega
    · have hne : ¬ nI p = -1 := by
        intro hh
        have : (-1 : Int32).toInt = (nI p).toInt := by rw [hh]
        rw [nI_toInt (by omega)] at this
        have e : (-1 : Int32).toInt = -1 := by decide
        omega
      rw [if_neg hne, if_pos (bs_inN h1 (by omega)), nI_clamp (by omega), h4, if_pos (bs_inN h2 (by omega)), if_pos (bs_inN hsl (by omega)), nI_clamp (by omega), eo]
      refine ⟨_, rfl, fun k hk => pk_un hk, fun p' g' h1' h2' h3' h4' => ?_⟩
      have hpp : p = p' := (nI_eq (by omega) (by omega)).mp h3'
      subst hpp
      rw [h4] at h4'
      have hgg : g = g' := (nI_eq (by omega) (by omega)).mp h4'
      subst hgg
      exact pk_us
/-- an act is noted on both sides -/
theorem sp_noted {o n : Nat} (ho : o < 24) (hn : n ≤ 24) {po wo no ko acts st kp gv lk kd sd : Nat → Int32} {A : Nat → Nat} (ha : sp_acts o n po wo no ko acts A) (hs : sp_at st A) (hi : sp_iv A) (hc : sp_c A kp gv lk kd sd) (p2 : Int32) (hp : p2 = -1 ∨ ∃ p : Nat, p < A 3 ∧ p2 = nI p) : ∃ (z : (Nat → Int32) × (Nat → Int32) × (Nat → Int32) × (Nat → Int32) × Int32 × Int32) (w : (Nat → Int32) × Int32) (o' n' : Nat), f_X0_remember po wo no ko (nI o) (nI n) (nI (A 0)) (nI (A 4)) kp gv p2 = some z ∧ f_X7_note st acts (nI n) = some w ∧ o' < 24 ∧ n' ≤ 24 ∧ 0 < n' ∧ z.2.2.2.2.1 = nI o' ∧ z.2.2.2.2.2 = nI n' ∧ w.2 = nI n' ∧ ∀ A' : Nat → Nat, (∀ ks : Int32, (∀ p, p < A 3 → p2 = nI p → ks = nI (A (5 + A (17 + p)))) → sp_act p2 (nI (A 0)) (nI (A 4)) ks A A') → sp_acts o' n' z.1 z.2.1 z.2.2.1 z.2.2.2.1 w.1 A' := by
  have h8 := hi.2.2.2.1
  have h2 := hi.2.2.1
  have hp' : p2 = -1 ∨ ∃ p g : Nat, p < 8 ∧ g < 4 ∧ p2 = nI p ∧ gv p = nI g := by
    rcases hp with e | ⟨p, e1, e2⟩
    · exact Or.inl e
    · have hr := hi.2.2.2.2.2.2 p e1
      exact Or.inr ⟨p, A (17 + p), by omega, by omega, e2, (hc.2 p e1).1⟩
  obtain ⟨ko', r1, r2, r3⟩ := e0_remember po wo no ko ho hn (nI (A 0)) (nI (A 4)) kp gv p2 hp'
  obtain ⟨ac', n1, n2, n3⟩ := e7_note st acts hn
  refine ⟨_, _, sp_os o n, if n = 24 then 24 else n + 1, r1, n1, ?_, ?_, ?_, rfl, rfl, rfl, ?_⟩
  · unfold sp_os
    split
    · exact Nat.mod_lt _ (by omega)
    · exact ho
  · split <;> omega
  · split <;> omega
  intro A' hA'
  obtain ⟨B, b1, b2⟩ := ha
  have hks : ∀ p, p < A 3 → p2 = nI p → ko' (sp_slot o n) = nI (A (5 + A (17 + p))) := by
    intro p e1 e2
    have hr := hi.2.2.2.2.2.2 p e1
    rw [r3 p (A (17 + p)) (by omega) (by omega) e2 (hc.2 p e1).1]
    exact hc.1 _ hr.2.2.1
  have hact := hA' (ko' (sp_slot o n)) hks
  by_cases h24 : n = 24
  · subst h24
    simp only [if_true] at n2 n3 ⊢
    refine ⟨fun j => if j = 24 then A' else if j = 23 then A else B (j + 1), fun i _ => rfl, fun j hj => ?_⟩
    by_cases h23 : j = 23
    · subst h23
      have es : (sp_os o 24 + 23) % 24 = sp_slot o 24 := rfl
      refine ⟨hi, fun i hi' => ?_, ?_⟩
      · rw [n2 i hi']
        exact hs i hi'
      · rw [es, pk_us, pk_us, pk_us]
        exact hact
    · have es : (sp_os o 24 + j) % 24 = (o + (j + 1)) % 24 := by
        unfold sp_os
        rw [if_pos rfl]
        omega
      have hne : (o + (j + 1)) % 24 ≠ sp_slot o 24 := by
        unfold sp_slot
        rw [if_pos rfl]
        omega
      obtain ⟨c1, c2, c3⟩ := b2 (j + 1) (by omega)
      have eB : (fun j => if j = 24 then A' else if j = 23 then A else B (j + 1)) j = B (j + 1) := by
        show (if j = 24 then A' else if j = 23 then A else B (j + 1)) = B (j + 1)
        rw [if_neg (by omega), if_neg h23]
      rw [eB]
      refine ⟨c1, fun i hi' => ?_, ?_⟩
      · rw [n3 j (by omega) i hi']
        exact c2 i hi'
      · rw [es, pk_un hne, pk_un hne, pk_un hne, r2 _ hne]
        refine sp_act_congr c3 (fun i hi' => ?_)
        show B (j + 1 + 1) i = (if j + 1 = 24 then A' else if j + 1 = 23 then A else B (j + 1 + 1)) i
        rw [if_neg (by omega)]
        by_cases h22 : j + 1 = 23
        · rw [if_pos h22]
          rw [show j + 1 + 1 = 24 by omega]
          exact b1 i hi'
        · rw [if_neg h22]
  · simp only [if_neg h24] at n2 n3 ⊢
    have eo : sp_os o n = o := by unfold sp_os; rw [if_neg h24]
    refine ⟨fun j => if j = n + 1 then A' else if j = n then A else B j, fun i _ => by simp, fun j hj => ?_⟩
    rw [eo]
    by_cases hjn : j = n
    · subst hjn
      have es : (o + j) % 24 = sp_slot o j := by unfold sp_slot; rw [if_neg h24]
      have eB : (fun j' => if j' = j + 1 then A' else if j' = j then A else B j') j = A := by
        show (if j = j + 1 then A' else if j = j then A else B j) = A
        rw [if_neg (by omega), if_pos rfl]
      have eC : (fun j' => if j' = j + 1 then A' else if j' = j then A else B j') (j + 1) = A' := by
        show (if j + 1 = j + 1 then A' else if j + 1 = j then A else B (j + 1)) = A'
        rw [if_pos rfl]
      rw [eB, eC]
      refine ⟨hi, fun i hi' => ?_, ?_⟩
      · rw [n2 i hi']
        exact hs i hi'
      · rw [es, pk_us, pk_us, pk_us]
        exact hact
    · have hne : (o + j) % 24 ≠ sp_slot o n := by
        unfold sp_slot
        rw [if_neg h24]
        omega
      obtain ⟨c1, c2, c3⟩ := b2 j (by omega)
      have eB : (fun j' => if j' = n + 1 then A' else if j' = n then A else B j') j = B j := by
        show (if j = n + 1 then A' else if j = n then A else B j) = B j
        rw [if_neg (by omega), if_neg hjn]
      rw [eB]
      refine ⟨c1, fun i hi' => ?_, ?_⟩
      · rw [n3 j (by omega) i hi']
        exact c2 i hi'
      · rw [pk_un hne, pk_un hne, pk_un hne, r2 _ hne]
        refine sp_act_congr c3 (fun i hi' => ?_)
        show B (j + 1) i = (if j + 1 = n + 1 then A' else if j + 1 = n then A else B (j + 1)) i
        rw [if_neg (by omega)]
        by_cases hjn2 : j + 1 = n
        · rw [if_pos hjn2, hjn2]
          exact b1 i hi'
        · rw [if_neg hjn2]
/-! undone -/
theorem e7_undo_L (ac : Nat → Int32) {m : Nat} (hm : m < 24) : ∀ (n i : Nat) (st : Nat → Int32), i ≤ 57 → 57 - i < n → (∀ j, j < i → st j = ac (57 * m + j)) → ∃ st' : Nat → Int32, (∀ j, j < 57 → st' j = ac (57 * m + j)) ∧ f_X7_undo_L22 ac (nI m) n st (nI i) = some (nI m, st', nI m) := by
  intro n
  induction n with
  | zero => intro i st _ h2; omega
  | succ n ih =>
    intro i st h1 h2 h3
    rw [f_X7_undo_L22_s]
    have e9 : ((57 : Int32) ≤ nI i) = (57 ≤ i) := propext (nI_leI (a := 57) (by omega) (by omega))
    have e5 : nI i + 1 = nI (i + 1) := nI_1 i
    have e7 : (57 : Int32) * nI m + nI i = nI (57 * m + i) := by
      rw [show (57 : Int32) = nI 57 from rfl, pk_mul, nI_add]
    rw [e5, e7]
    simp only [e9]
    by_cases hi : i = 57
    · subst hi
      rw [if_pos (by omega)]
      exact ⟨st, h3, rfl⟩
    · rw [if_neg (by omega), if_pos (bs_inN (by omega) (by omega)), if_pos (bs_inN (by omega) (by omega)), nI_clamp (by omega), nI_clamp (by omega)]
      refine ih (i + 1) _ (by omega) (by omega) (fun j hj => ?_)
      by_cases hji : j = i
      · subst hji
        rw [pk_us]
      · rw [pk_un hji]
        exact h3 j (by omega)
theorem sp_undone {o n : Nat} (ho : o < 24) (hn : n < 24) {po wo no ko acts st kp gv lk kd sd dd dy : Nat → Int32} {A : Nat → Nat} (ha : sp_acts o (n + 1) po wo no ko acts A) (hi : sp_iv A) (hc : sp_c A kp gv lk kd sd) (hd : sp_d A dd dy) (wx pn : Int32) : ∃ (B : Nat → Nat) (z : Int32 × Int32 × Int32 × (Nat → Int32) × (Nat → Int32)) (w : Int32 × (Nat → Int32) × Int32), f_X0_takeBack po wo no ko (nI o) (nI (n + 1)) wx pn kp gv sd = some z ∧ f_X7_undo st acts (nI (n + 1)) = some w ∧ z.1 = nI n ∧ w.1 = nI n ∧ w.2.2 = nI n ∧ sp_at w.2.1 B ∧ sp_iv B ∧ sp_c B z.2.2.2.1 gv lk kd z.2.2.2.2 ∧ sp_d B dd dy ∧ z.2.1 = nI (B 0) ∧ z.2.2.1 = nI (B 4) ∧ (B 1 = A 1 ∧ B 2 = A 2 ∧ B 3 = A 3) ∧ sp_acts o n po wo no ko acts B := by
  obtain ⟨B, b1, b2⟩ := ha
  obtain ⟨c1, c2, c3⟩ := b2 n (Nat.lt_succ_self n)
  obtain ⟨d1, d2, d3⟩ := c3
  have hsl : (o + n) % 24 < 24 := Nat.mod_lt _ (by omega)
  have e1 : nI (n + 1) - 1 = nI n := nI_pred n
  have ei : (nI o + nI n) - (nI o + nI n) / 24 * 24 = nI ((o + n) % 24) := by
    simp (disch := omega) only [bs_lits, nI_add, pk_rem]
  have hm : f_X7_undo st acts (nI (n + 1)) = f_X7_undo_L22 acts (nI n) bs_F st 0 := by
    unfold f_X7_undo
    rw [if_neg (fun z => by have := (nI_eq (b := 0) (by omega) (by omega)).mp z; omega), e1]
  obtain ⟨st', s1, s2⟩ := e7_undo_L acts (m := n) hn bs_F 0 st (by omega) (by unfold bs_F; omega) (fun j hj => by omega)
  have hat : sp_at st' (B n) := fun i hi' => by rw [s1 i hi']; exact c2 i hi'
  have hrest : sp_acts o n po wo no ko acts (B n) := ⟨B, fun _ _ => rfl, fun j hj => b2 j (by omega)⟩
  have hBA : ∀ i, i < 57 → B (n + 1) i = A i := b1
  refine ⟨B n, ?_⟩
  have hcls : ∀ rr : Option (Int32 × Int32 × Int32 × (Nat → Int32) × (Nat → Int32)), f_X0_takeBack po wo no ko (nI o) (nI (n + 1)) wx pn kp gv sd = rr → f_X0_takeBack po wo no ko (nI o) (nI (n + 1)) wx pn kp gv sd = rr := fun _ h => h
  rcases d3 with ⟨k1, k2⟩ | ⟨p, k1, k2, k3, k4, k5⟩
  · have hf : f_X0_takeBack po wo no ko (nI o) (nI (n + 1)) wx pn kp gv sd = some (nI n, nI (B n 0), nI (B n 4), kp, sd) := by
      unfold f_X0_takeBack
      rw [if_neg (fun z => by have := (nI_eq (b := 0) (by omega) (by omega)).mp z; omega)]
      simp only [e1, ei]
      rw [if_pos (bs_inN hsl (by omega)), if_pos (bs_inN hsl (by omega)), if_pos (bs_inN hsl (by omega)), nI_clamp (by omega), if_pos k1, d1, d2]
    have eq : ∀ i, i < 57 → i ≠ 0 → i ≠ 4 → B n i = A i := fun i i1 i2 i3 => (k2 i i1 i2 i3).trans (hBA i i1)
    have e3 := eq 3 (by omega) (by omega) (by omega)
    have e2 := eq 2 (by omega) (by omega) (by omega)
    have h8 := c1.2.2.2.1
    have h4 := c1.2.2.1
    refine ⟨_, _, hf, hm.trans s2, rfl, rfl, rfl, hat, c1, ⟨fun g hg => ?_, fun q hq => ?_⟩, fun q hq => ?_, rfl, rfl, ⟨eq 1 (by omega) (by omega) (by omega), e2, e3⟩, hrest⟩
    · rw [eq (5 + g) (by omega) (by omega) (by omega)]
      exact hc.1 g (by omega)
    · rw [eq (9 + q) (by omega) (by omega) (by omega), eq (17 + q) (by omega) (by omega) (by omega), eq (41 + q) (by omega) (by omega) (by omega), eq (49 + q) (by omega) (by omega) (by omega)]
      exact hc.2 q (by omega)
    · rw [eq (25 + q) (by omega) (by omega) (by omega), eq (33 + q) (by omega) (by omega) (by omega)]
      exact hd q (by omega)
  · have h8 := c1.2.2.2.1
    have h4 := c1.2.2.1
    have hr := c1.2.2.2.2.2.2 p k1
    have eq : ∀ i, i < 57 → i ≠ 0 → i ≠ 4 → i ≠ 49 + p → i ≠ 5 + B n (17 + p) → B n i = A i := fun i i1 i2 i3 i4 i5 => (k5 i i1 i2 i3 i4 i5).trans (hBA i i1)
    have e3 := eq 3 (by omega) (by omega) (by omega) (by omega) (by omega)
    have e2 := eq 2 (by omega) (by omega) (by omega) (by omega) (by omega)
    have e17 := eq (17 + p) (by omega) (by omega) (by omega) (by omega) (by omega)
    obtain ⟨g1, g2, g3, g4⟩ := hc.2 p (by omega)
    have hne : ¬ nI p = -1 := by
      intro hh
      have : (-1 : Int32).toInt = (nI p).toInt := by rw [hh]
      rw [nI_toInt (by omega)] at this
      have e : (-1 : Int32).toInt = -1 := by decide
      omega
    have hf : f_X0_takeBack po wo no ko (nI o) (nI (n + 1)) wx pn kp gv sd = some (nI n, nI (B n 0), nI (B n 4), upd kp (B n (17 + p)) (nI (B n (5 + B n (17 + p)))), upd sd p 0) := by
      unfold f_X0_takeBack
      rw [if_neg (fun z => by have := (nI_eq (b := 0) (by omega) (by omega)).mp z; omega)]
      simp only [e1, ei]
      rw [if_pos (bs_inN hsl (by omega)), if_pos (bs_inN hsl (by omega)), if_pos (bs_inN hsl (by omega)), nI_clamp (by omega), k2, if_neg hne, d1, d2]
      simp (disch := omega) only [bs_inN, if_true, nI_clamp, g1, e17.symm, k4]
    refine ⟨_, _, hf, hm.trans s2, rfl, rfl, rfl, hat, c1, ⟨fun g hg => ?_, fun q hq => ?_⟩, fun q hq => ?_, rfl, rfl, ⟨eq 1 (by omega) (by omega) (by omega) (by omega) (by omega), e2, e3⟩, hrest⟩
    · show upd kp (B n (17 + p)) (nI (B n (5 + B n (17 + p)))) g = _
      by_cases hg2 : g = B n (17 + p)
      · subst hg2
        exact pk_us
      · rw [pk_un hg2, eq (5 + g) (by omega) (by omega) (by omega) (by omega) (by omega)]
        exact hc.1 g (by omega)
    · rw [eq (9 + q) (by omega) (by omega) (by omega) (by omega) (by omega), eq (17 + q) (by omega) (by omega) (by omega) (by omega) (by omega), eq (41 + q) (by omega) (by omega) (by omega) (by omega) (by omega)]
      obtain ⟨m1, m2, m3, m4⟩ := hc.2 q (by omega)
      refine ⟨m1, m2, m3, ?_⟩
      show upd sd p 0 q = _
      by_cases hqp : q = p
      · subst hqp
        rw [pk_us, k3]
        rfl
      · rw [pk_un hqp, eq (49 + q) (by omega) (by omega) (by omega) (by omega) (by omega)]
        exact m4
    · rw [eq (25 + q) (by omega) (by omega) (by omega) (by omega) (by omega), eq (33 + q) (by omega) (by omega) (by omega) (by omega) (by omega)]
      exact hd q (by omega)
