set_option maxHeartbeats 4000000 in
set_option maxRecDepth 100000 in
theorem k_X6_isWithin (l : Launch) (dC : Nat → ClassId) (dI : Nat → Nat → Nat) (cI cZ cS cG : ClassId) (p1 : Int32) (p2 : Int32) (p3 : Int32) (out : Int32) (hf : f_X6_isWithin p1 p2 p3 = some out) : bs_C l dC dI cI cZ cS cG yX6_isWithin wsX6_isWithin ({ frames := 0, cells := 0, slots := 0, locals := 0 } : Room) [.int p1, .int p2, .int p3] ([]) out ([]) := by
  refine bs_ofI (cc := cX6_isWithin) (maxL := 3) (by decide) rfl (Nat.le_of_ble_eq_true rfl) ?_
  intro p e s m below meth c A Q hx hb hown hml hts hE H locs hP hD hA hS ls hl hret
  have hK := hE.1
  have hl : lv_has ls 3 [(0, .int p1), (1, .int p2), (2, .int p3)] := hl
  unfold f_X6_isWithin at hf
  refine lv_iload_n hx hb dX6_isWithin_0 rfl (lv_at hl 0 rfl) ?_
  refine lv_iload_n hx hb dX6_isWithin_1 rfl (lv_at hl 1 rfl) ?_
  refine lv_icmp_lt (tgt := 14) hx hb dX6_isWithin_2 (by decide) (fun c1 => ?_) (fun c1 => ?_)
  · have hf := bs_t hf c1
    refine lv_iconst (v := 0) hx hb dX6_isWithin_14 (by decide) ?_
    obtain rfl := Option.some.inj hf
    exact hret H locs _ _ hP hS bs_n0 dX6_isWithin_15
  · have hf := bs_f hf c1
    refine lv_iload_n hx hb dX6_isWithin_5 rfl (lv_at hl 0 rfl) ?_
    refine lv_iload_n hx hb dX6_isWithin_6 rfl (lv_at hl 2 rfl) ?_
    refine lv_icmp_gt (tgt := 14) hx hb dX6_isWithin_7 (by decide) (fun c2 => ?_) (fun c2 => ?_)
    · have hf := bs_t hf c2
      refine lv_iconst (v := 0) hx hb dX6_isWithin_14 (by decide) ?_
      obtain rfl := Option.some.inj hf
      exact hret H locs _ _ hP hS bs_n0 dX6_isWithin_15
    · have hf := bs_f hf c2
      refine lv_iconst (v := 1) hx hb dX6_isWithin_10 (by decide) ?_
      refine lv_goto (tgt := 15) hx hb dX6_isWithin_11 (by decide) ?_
      obtain rfl := Option.some.inj hf
      exact hret H locs _ _ hP hS bs_n1 dX6_isWithin_15
set_option maxHeartbeats 4000000 in
set_option maxRecDepth 100000 in
theorem k_X6_isRow (l : Launch) (dC : Nat → ClassId) (dI : Nat → Nat → Nat) (cI cZ cS cG : ClassId) (p1 : Int32) (out : Int32) (hf : f_X6_isRow p1 = some out) : bs_C l dC dI cI cZ cS cG yX6_isRow wsX6_isRow ({ frames := 1, cells := 0, slots := 0, locals := 22 } : Room) [.int p1] ([]) out ([]) := by
  refine bs_ofI (cc := cX6_isRow) (maxL := 1) (by decide) rfl (Nat.le_of_ble_eq_true rfl) ?_
  intro p e s m below meth c A Q hx hb hown hml hts hE H locs hP hD hA hS ls hl hret
  have hK := hE.1
  have hl : lv_has ls 1 [(0, .int p1)] := hl
  unfold f_X6_isRow at hf
  refine lv_iload_n hx hb dX6_isRow_0 rfl (lv_at hl 0 rfl) ?_
  refine lv_iconst (v := 0) hx hb dX6_isRow_1 (by decide) ?_
  refine lv_bipush (v := 7) hx hb dX6_isRow_2 (by decide) ?_
  obtain ⟨z1, hz1, hf⟩ := bs_b hf
  refine bs_cSi ⟨hx, hb, hml, hown, hts⟩ (k_X6_isWithin l dC dI cI cZ cS cG p1 (0 : Int32) (7 : Int32) z1 hz1) (va_cwS 3 hts gX6_isRow_X6_isWithin rfl rfl rfl (by decide +kernel) ⟨Nat.le_of_ble_eq_true rfl, Nat.le_of_ble_eq_true rfl⟩) hE hP hD hA hS rfl rfl hl.1 (Nat.le_of_ble_eq_true rfl) dX6_isRow_4 (fun H locs hP hS => ?_)
  obtain ⟨g2, hf⟩ := bs_g hf
  obtain rfl := Option.some.inj hf
  exact hret H locs _ _ hP hS (bs_nz g2) dX6_isRow_7
set_option maxHeartbeats 4000000 in
set_option maxRecDepth 100000 in
theorem k_X6_finding (l : Launch) (dC : Nat → ClassId) (dI : Nat → Nat → Nat) (cI cZ cS cG : ClassId) (psh : Nat) (rowsh : Nat) (tapeh : Nat) (nowh : Nat) (drafth : Nat) (trialh : Nat) (psq_images : Nat) (actsh : Nat) (sackh : Nat) (asksh : Nat) (ps_latestFault : Int32) (ps_latestFinding : Int32) (p1 : Int32) (out : Int32 × Int32) (hf : f_X6_finding ps_latestFinding p1 = some out) : bs_C l dC dI cI cZ cS cG yX6_finding wsX6_finding ({ frames := 0, cells := 0, slots := 0, locals := 0 } : Room) [.ref psh, .int p1] ([(psh, .inr (6, [.ref rowsh, .ref tapeh, .ref nowh, .ref drafth, .ref trialh, .ref psq_images, .ref actsh, .ref sackh, .ref asksh, .int ps_latestFault, .int ps_latestFinding]))]) out.1 ([(psh, .inr (6, [.ref rowsh, .ref tapeh, .ref nowh, .ref drafth, .ref trialh, .ref psq_images, .ref actsh, .ref sackh, .ref asksh, .int ps_latestFault, .int out.2]))]) := by
  refine bs_ofI (cc := cX6_finding) (maxL := 2) (by decide) rfl (Nat.le_of_ble_eq_true rfl) ?_
  intro p e s m below meth c A Q hx hb hown hml hts hE H locs hP hD hA hS ls hl hret
  have hK := hE.1
  have hl : lv_has ls 2 [(0, .ref psh), (1, .int p1)] := hl
  have hin6 : ∀ w ∈ u_ws RX6 TX6 11, w ∈ wsX6_finding := by decide +kernel
  have k296 := hts (.fieldLink RX6 296 "PromiseScales" "latestFinding" "I") (by decide +kernel)
  unfold f_X6_finding at hf
  refine lv_aload_n hx hb dX6_finding_0 rfl (lv_at hl 0 rfl) ?_
  refine lv_iload_n hx hb dX6_finding_1 rfl (lv_at hl 1 rfl) ?_
  refine va_put (D := (dC, dI)) (ci := 6) (v := .int p1) (ty := .int) (C := RX6) (T := TX6) (N := 11) hx hb hts hin6 tyX6 tyX6_ok nmX6 hown hK hP hD hS 0 rfl rfl 10 (by decide) k296 (fun _ h9 => h9) rfl (by decide +kernel) rfl rfl (Nat.le_of_ble_eq_true rfl) dX6_finding_2 (fun H locs hP hD hS => ?_)
  have hP : va_P (dC, dI) vwCl ([(psh, .inr (6, [.ref rowsh, .ref tapeh, .ref nowh, .ref drafth, .ref trialh, .ref psq_images, .ref actsh, .ref sackh, .ref asksh, .int ps_latestFault, .int p1]))]) H := hP
  have hD : va_D A ([(psh, .inr (6, [.ref rowsh, .ref tapeh, .ref nowh, .ref drafth, .ref trialh, .ref psq_images, .ref actsh, .ref sackh, .ref asksh, .int ps_latestFault, .int p1]))]) := hD
  refine lv_ldcw hx hb hown (hts (.constant RX6 299 (-1000010)) (by decide +kernel)) dX6_finding_5 ?_
  refine lv_iload_n hx hb dX6_finding_8 rfl (lv_at hl 1 rfl) ?_
  refine lv_isub hx hb dX6_finding_9 ?_
  obtain rfl := Option.some.inj hf
  exact hret H locs _ _ hP hS rfl dX6_finding_10
set_option maxHeartbeats 4000000 in
set_option maxRecDepth 100000 in
theorem k_X6_answered (l : Launch) (dC : Nat → ClassId) (dI : Nat → Nat → Nat) (cI cZ cS cG : ClassId) (psh : Nat) (rowsh : Nat) (tapeh : Nat) (nowh : Nat) (drafth : Nat) (trialh : Nat) (psq_images : Nat) (actsh : Nat) (sackh : Nat) (asksh : Nat) (ps_latestFault : Int32) (ps_latestFinding : Int32) (p1 : Int32) (out : Int32 × Int32) (hf : f_X6_answered ps_latestFinding p1 = some out) : bs_C l dC dI cI cZ cS cG yX6_answered wsX6_answered ({ frames := 0, cells := 0, slots := 0, locals := 0 } : Room) [.ref psh, .int p1] ([(psh, .inr (6, [.ref rowsh, .ref tapeh, .ref nowh, .ref drafth, .ref trialh, .ref psq_images, .ref actsh, .ref sackh, .ref asksh, .int ps_latestFault, .int ps_latestFinding]))]) out.1 ([(psh, .inr (6, [.ref rowsh, .ref tapeh, .ref nowh, .ref drafth, .ref trialh, .ref psq_images, .ref actsh, .ref sackh, .ref asksh, .int ps_latestFault, .int out.2]))]) := by
  refine bs_ofI (cc := cX6_answered) (maxL := 2) (by decide) rfl (Nat.le_of_ble_eq_true rfl) ?_
  intro p e s m below meth c A Q hx hb hown hml hts hE H locs hP hD hA hS ls hl hret
  have hK := hE.1
  have hl : lv_has ls 2 [(0, .ref psh), (1, .int p1)] := hl
  have hin6 : ∀ w ∈ u_ws RX6 TX6 11, w ∈ wsX6_answered := by decide +kernel
  have k296 := hts (.fieldLink RX6 296 "PromiseScales" "latestFinding" "I") (by decide +kernel)
  unfold f_X6_answered at hf
  refine lv_aload_n hx hb dX6_answered_0 rfl (lv_at hl 0 rfl) ?_
  refine lv_iconst (v := 0) hx hb dX6_answered_1 (by decide) ?_
  refine va_put (D := (dC, dI)) (ci := 6) (v := .int 0) (ty := .int) (C := RX6) (T := TX6) (N := 11) hx hb hts hin6 tyX6 tyX6_ok nmX6 hown hK hP hD hS 0 rfl rfl 10 (by decide) k296 (fun _ h9 => h9) rfl (by decide +kernel) rfl rfl (Nat.le_of_ble_eq_true rfl) dX6_answered_2 (fun H locs hP hD hS => ?_)
  have hP : va_P (dC, dI) vwCl ([(psh, .inr (6, [.ref rowsh, .ref tapeh, .ref nowh, .ref drafth, .ref trialh, .ref psq_images, .ref actsh, .ref sackh, .ref asksh, .int ps_latestFault, .int 0]))]) H := hP
  have hD : va_D A ([(psh, .inr (6, [.ref rowsh, .ref tapeh, .ref nowh, .ref drafth, .ref trialh, .ref psq_images, .ref actsh, .ref sackh, .ref asksh, .int ps_latestFault, .int 0]))]) := hD
  refine lv_iload_n hx hb dX6_answered_5 rfl (lv_at hl 1 rfl) ?_
  obtain rfl := Option.some.inj hf
  exact hret H locs _ _ hP hS rfl dX6_answered_6
set_option maxHeartbeats 4000000 in
set_option maxRecDepth 100000 in
theorem k_X6_row (l : Launch) (dC : Nat → ClassId) (dI : Nat → Nat → Nat) (cI cZ cS cG : ClassId) (psh : Nat) (rowsh : Nat) (tapeh : Nat) (nowh : Nat) (drafth : Nat) (trialh : Nat) (psq_images : Nat) (actsh : Nat) (sackh : Nat) (asksh : Nat) (rowsq_items : Nat) (rowsg : Nat → Nat) (rowsq_laneOf : Nat) (rowsq_lengthOf : Nat) (ps_latestFault : Int32) (ps_latestFinding : Int32) (rows_items : Nat → Nat → Int32) (rows_laneOf : Nat → Int32) (rows_lengthOf : Nat → Int32) (p1 : Int32) (p2 : Int32) (p3 : Int32) (out : Int32 × Int32 × (Nat → Nat → Int32) × (Nat → Int32) × (Nat → Int32)) (hf : f_X6_row ps_latestFinding rows_items rows_laneOf rows_lengthOf p1 p2 p3 = some out) : bs_C l dC dI cI cZ cS cG yX6_row wsX6_row ({ frames := 2, cells := 0, slots := 0, locals := 42 } : Room) [.ref psh, .int p1, .int p2, .int p3] ([(psh, .inr (6, [.ref rowsh, .ref tapeh, .ref nowh, .ref drafth, .ref trialh, .ref psq_images, .ref actsh, .ref sackh, .ref asksh, .int ps_latestFault, .int ps_latestFinding])), (rowsh, .inr (3, [.ref rowsq_items, .ref rowsq_laneOf, .ref rowsq_lengthOf])), (rowsq_items, .inl (cG, 8, .inr (.inr (.inr (.inr (fun j : Nat => if j < 8 then some (rowsg j) else none)))))), (rowsq_laneOf, .inl (cI, 8, .inl rows_laneOf)), (rowsq_lengthOf, .inl (cI, 8, .inl rows_lengthOf))] ++ bs_rw cI rowsg rows_items) out.1 ([(psh, .inr (6, [.ref rowsh, .ref tapeh, .ref nowh, .ref drafth, .ref trialh, .ref psq_images, .ref actsh, .ref sackh, .ref asksh, .int ps_latestFault, .int out.2.1])), (rowsh, .inr (3, [.ref rowsq_items, .ref rowsq_laneOf, .ref rowsq_lengthOf])), (rowsq_items, .inl (cG, 8, .inr (.inr (.inr (.inr (fun j : Nat => if j < 8 then some (rowsg j) else none)))))), (rowsq_laneOf, .inl (cI, 8, .inl out.2.2.2.1)), (rowsq_lengthOf, .inl (cI, 8, .inl out.2.2.2.2))] ++ bs_rw cI rowsg out.2.2.1) := by
  refine bs_ofI (cc := cX6_row) (maxL := 4) (by decide) rfl (Nat.le_of_ble_eq_true rfl) ?_
  intro p e s m below meth c A Q hx hb hown hml hts hE H locs hP hD hA hS ls hl hret
  have hK := hE.1
  have hl : lv_has ls 4 [(0, .ref psh), (1, .int p1), (2, .int p2), (3, .int p3)] := hl
  have hin6 : ∀ w ∈ u_ws RX6 TX6 11, w ∈ wsX6_row := by decide +kernel
  have k10 := hts (.fieldLink RX6 10 "PromiseScales" "rows" "LPromiseScales$Rows;") (by decide +kernel)
  unfold f_X6_row at hf
  refine lv_iload_n hx hb dX6_row_0 rfl (lv_at hl 1 rfl) ?_
  obtain ⟨z1, hz1, hf⟩ := bs_b hf
  refine bs_cSi ⟨hx, hb, hml, hown, hts⟩ (k_X6_isRow l dC dI cI cZ cS cG p1 z1 hz1) (va_cwS 1 hts gX6_row_X6_isRow rfl rfl rfl (by decide +kernel) ⟨Nat.le_of_ble_eq_true rfl, Nat.le_of_ble_eq_true rfl⟩) hE hP hD hA hS rfl rfl hl.1 (Nat.le_of_ble_eq_true rfl) dX6_row_1 (fun H locs hP hS => ?_)
  refine lv_if_eq (tgt := 22) hx hb dX6_row_4 (by decide) (fun c2 => ?_) (fun c2 => ?_)
  · have hf := bs_t hf c2
    refine lv_ldc hx hb hown (hts (.constant RX6 69 (-1000001)) (by decide +kernel)) dX6_row_22 ?_
    obtain rfl := Option.some.inj hf
    exact hret H locs _ _ hP hS rfl dX6_row_24
  · have hf := bs_f hf c2
    refine lv_iload_n hx hb dX6_row_7 rfl (lv_at hl 2 rfl) ?_
    refine lv_iconst (v := 0) hx hb dX6_row_8 (by decide) ?_
    refine lv_iconst (v := 2) hx hb dX6_row_9 (by decide) ?_
    obtain ⟨z3, hz3, hf⟩ := bs_b hf
    refine bs_cSi ⟨hx, hb, hml, hown, hts⟩ (k_X6_isWithin l dC dI cI cZ cS cG p2 (0 : Int32) (2 : Int32) z3 hz3) (va_cwS 3 hts gX6_row_X6_isWithin rfl rfl rfl (by decide +kernel) ⟨Nat.le_of_ble_eq_true rfl, Nat.le_of_ble_eq_true rfl⟩) hE hP hD hA hS rfl rfl hl.1 (Nat.le_of_ble_eq_true rfl) dX6_row_10 (fun H locs hP hS => ?_)
    refine lv_if_eq (tgt := 22) hx hb dX6_row_13 (by decide) (fun c4 => ?_) (fun c4 => ?_)
    · have hf := bs_t hf c4
      refine lv_ldc hx hb hown (hts (.constant RX6 69 (-1000001)) (by decide +kernel)) dX6_row_22 ?_
      obtain rfl := Option.some.inj hf
      exact hret H locs _ _ hP hS rfl dX6_row_24
    · have hf := bs_f hf c4
      refine lv_iload_n hx hb dX6_row_16 rfl (lv_at hl 3 rfl) ?_
      refine lv_bipush (v := 40) hx hb dX6_row_17 (by decide) ?_
      refine lv_icmp_le (tgt := 25) hx hb dX6_row_19 (by decide) (fun c5 => ?_) (fun c5 => ?_)
      · have hf := bs_t hf c5
        refine lv_iload_n hx hb dX6_row_25 rfl (lv_at hl 3 rfl) ?_
        refine lv_if_ge (tgt := 35) hx hb dX6_row_26 (by decide) (fun c6 => ?_) (fun c6 => ?_)
        · have hf := bs_t hf c6
          refine lv_aload_n hx hb dX6_row_35 rfl (lv_at hl 0 rfl) ?_
          refine va_get (D := (dC, dI)) (ci := 6) (v := .ref rowsh) (C := RX6) (T := TX6) (N := 11) hx hb hts hin6 hown hK hP 0 rfl rfl 0 (by decide) k10 (fun _ h9 => h9) rfl dX6_row_36 ?_
          refine lv_iload_n hx hb dX6_row_39 rfl (lv_at hl 1 rfl) ?_
          refine lv_iload_n hx hb dX6_row_40 rfl (lv_at hl 2 rfl) ?_
          refine lv_iload_n hx hb dX6_row_41 rfl (lv_at hl 3 rfl) ?_
          obtain ⟨z7, hz7, hf⟩ := bs_b hf
          refine bs_cVv (ws1 := [(psh, .inr (6, [.ref rowsh, .ref tapeh, .ref nowh, .ref drafth, .ref trialh, .ref psq_images, .ref actsh, .ref sackh, .ref asksh, .int ps_latestFault, .int ps_latestFinding])), (rowsh, .inr (3, [.ref rowsq_items, .ref rowsq_laneOf, .ref rowsq_lengthOf])), (rowsq_items, .inl (cG, 8, .inr (.inr (.inr (.inr (fun j : Nat => if j < 8 then some (rowsg j) else none)))))), (rowsq_laneOf, .inl (cI, 8, .inl z7.2.1)), (rowsq_lengthOf, .inl (cI, 8, .inl z7.2.2))] ++ bs_rw cI rowsg z7.1) ⟨hx, hb, hml, hown, hts⟩ (k_X3_make l dC dI cI cZ cS cG rowsh rowsq_items rowsg rowsq_laneOf rowsq_lengthOf rows_items rows_laneOf rows_lengthOf p1 p2 p3 z7 hz7) (cwV 3 hts gX6_row_X3_make rfl rfl rfl (by decide +kernel) ⟨Nat.le_of_ble_eq_true rfl, Nat.le_of_ble_eq_true rfl⟩) hE hP hD hA hS [1, 2, 3, 4, 5, 6, 7, 8, 9, 10, 11, 12] rfl rfl 3 0 rfl rfl rfl rfl rfl rfl rfl hl.1 (Nat.le_of_ble_eq_true rfl) dX6_row_42 (fun H locs hP hD hS => ?_)
          refine lv_aload_n hx hb dX6_row_45 rfl (lv_at hl 0 rfl) ?_
          refine lv_iload_n hx hb dX6_row_46 rfl (lv_at hl 3 rfl) ?_
          obtain ⟨z8, hz8, hf⟩ := bs_b hf
          refine bs_cVi (ws1 := [(psh, .inr (6, [.ref rowsh, .ref tapeh, .ref nowh, .ref drafth, .ref trialh, .ref psq_images, .ref actsh, .ref sackh, .ref asksh, .int ps_latestFault, .int z8.2])), (rowsh, .inr (3, [.ref rowsq_items, .ref rowsq_laneOf, .ref rowsq_lengthOf])), (rowsq_items, .inl (cG, 8, .inr (.inr (.inr (.inr (fun j : Nat => if j < 8 then some (rowsg j) else none)))))), (rowsq_laneOf, .inl (cI, 8, .inl z7.2.1)), (rowsq_lengthOf, .inl (cI, 8, .inl z7.2.2))] ++ bs_rw cI rowsg z7.1) ⟨hx, hb, hml, hown, hts⟩ (k_X6_answered l dC dI cI cZ cS cG psh rowsh tapeh nowh drafth trialh psq_images actsh sackh asksh ps_latestFault ps_latestFinding p3 z8 hz8) (cwV 1 hts gX6_row_X6_answered rfl rfl rfl (by decide +kernel) ⟨Nat.le_of_ble_eq_true rfl, Nat.le_of_ble_eq_true rfl⟩) hE hP hD hA hS [0] rfl rfl 6 0 rfl rfl rfl rfl rfl rfl rfl hl.1 (Nat.le_of_ble_eq_true rfl) dX6_row_47 (fun H locs hP hD hS => ?_)
          obtain rfl := Option.some.inj hf
          exact hret H locs _ _ hP hS rfl dX6_row_50
        · have hf := bs_f hf c6
          refine lv_aload_n hx hb dX6_row_29 rfl (lv_at hl 0 rfl) ?_
          refine lv_iconst (v := 4) hx hb dX6_row_30 (by decide) ?_
          obtain ⟨z9, hz9, hf⟩ := bs_b hf
          refine bs_cVi (ws1 := [(psh, .inr (6, [.ref rowsh, .ref tapeh, .ref nowh, .ref drafth, .ref trialh, .ref psq_images, .ref actsh, .ref sackh, .ref asksh, .int ps_latestFault, .int z9.2])), (rowsh, .inr (3, [.ref rowsq_items, .ref rowsq_laneOf, .ref rowsq_lengthOf])), (rowsq_items, .inl (cG, 8, .inr (.inr (.inr (.inr (fun j : Nat => if j < 8 then some (rowsg j) else none)))))), (rowsq_laneOf, .inl (cI, 8, .inl rows_laneOf)), (rowsq_lengthOf, .inl (cI, 8, .inl rows_lengthOf))] ++ bs_rw cI rowsg rows_items) ⟨hx, hb, hml, hown, hts⟩ (k_X6_finding l dC dI cI cZ cS cG psh rowsh tapeh nowh drafth trialh psq_images actsh sackh asksh ps_latestFault ps_latestFinding (4 : Int32) z9 hz9) (cwV 1 hts gX6_row_X6_finding rfl rfl rfl (by decide +kernel) ⟨Nat.le_of_ble_eq_true rfl, Nat.le_of_ble_eq_true rfl⟩) hE hP hD hA hS [0] rfl rfl 6 0 rfl rfl rfl rfl rfl rfl rfl hl.1 (Nat.le_of_ble_eq_true rfl) dX6_row_31 (fun H locs hP hD hS => ?_)
          obtain rfl := Option.some.inj hf
          exact hret H locs _ _ hP hS rfl dX6_row_34
      · have hf := bs_f hf c5
        refine lv_ldc hx hb hown (hts (.constant RX6 69 (-1000001)) (by decide +kernel)) dX6_row_22 ?_
        obtain rfl := Option.some.inj hf
        exact hret H locs _ _ hP hS rfl dX6_row_24
set_option maxHeartbeats 4000000 in
set_option maxRecDepth 100000 in
theorem k_X6_set (l : Launch) (dC : Nat → ClassId) (dI : Nat → Nat → Nat) (cI cZ cS cG : ClassId) (psh : Nat) (rowsh : Nat) (tapeh : Nat) (nowh : Nat) (drafth : Nat) (trialh : Nat) (psq_images : Nat) (actsh : Nat) (sackh : Nat) (asksh : Nat) (rowsq_items : Nat) (rowsg : Nat → Nat) (rowsq_laneOf : Nat) (rowsq_lengthOf : Nat) (ps_latestFault : Int32) (ps_latestFinding : Int32) (rows_items : Nat → Nat → Int32) (rows_laneOf : Nat → Int32) (rows_lengthOf : Nat → Int32) (p1 : Int32) (p2 : Int32) (p3 : Int32) (out : Int32 × Int32 × (Nat → Nat → Int32)) (hf : f_X6_set ps_latestFinding rows_items rows_laneOf rows_lengthOf p1 p2 p3 = some out) : bs_C l dC dI cI cZ cS cG yX6_set wsX6_set ({ frames := 2, cells := 0, slots := 0, locals := 44 } : Room) [.ref psh, .int p1, .int p2, .int p3] ([(psh, .inr (6, [.ref rowsh, .ref tapeh, .ref nowh, .ref drafth, .ref trialh, .ref psq_images, .ref actsh, .ref sackh, .ref asksh, .int ps_latestFault, .int ps_latestFinding])), (rowsh, .inr (3, [.ref rowsq_items, .ref rowsq_laneOf, .ref rowsq_lengthOf])), (rowsq_items, .inl (cG, 8, .inr (.inr (.inr (.inr (fun j : Nat => if j < 8 then some (rowsg j) else none)))))), (rowsq_laneOf, .inl (cI, 8, .inl rows_laneOf)), (rowsq_lengthOf, .inl (cI, 8, .inl rows_lengthOf))] ++ bs_rw cI rowsg rows_items) out.1 ([(psh, .inr (6, [.ref rowsh, .ref tapeh, .ref nowh, .ref drafth, .ref trialh, .ref psq_images, .ref actsh, .ref sackh, .ref asksh, .int ps_latestFault, .int out.2.1])), (rowsh, .inr (3, [.ref rowsq_items, .ref rowsq_laneOf, .ref rowsq_lengthOf])), (rowsq_items, .inl (cG, 8, .inr (.inr (.inr (.inr (fun j : Nat => if j < 8 then some (rowsg j) else none)))))), (rowsq_laneOf, .inl (cI, 8, .inl rows_laneOf)), (rowsq_lengthOf, .inl (cI, 8, .inl rows_lengthOf))] ++ bs_rw cI rowsg out.2.2) := by
  refine bs_ofI (cc := cX6_set) (maxL := 5) (by decide) rfl (Nat.le_of_ble_eq_true rfl) ?_
  intro p e s m below meth c A Q hx hb hown hml hts hE H locs hP hD hA hS ls hl hret
  have hK := hE.1
  have hl : lv_has ls 5 [(0, .ref psh), (1, .int p1), (2, .int p2), (3, .int p3)] := hl
  have hin6 : ∀ w ∈ u_ws RX6 TX6 11, w ∈ wsX6_set := by decide +kernel
  have k10 := hts (.fieldLink RX6 10 "PromiseScales" "rows" "LPromiseScales$Rows;") (by decide +kernel)
  unfold f_X6_set at hf
  refine lv_iload_n hx hb dX6_set_0 rfl (lv_at hl 1 rfl) ?_
  obtain ⟨z1, hz1, hf⟩ := bs_b hf
  refine bs_cSi ⟨hx, hb, hml, hown, hts⟩ (k_X6_isRow l dC dI cI cZ cS cG p1 z1 hz1) (va_cwS 1 hts gX6_set_X6_isRow rfl rfl rfl (by decide +kernel) ⟨Nat.le_of_ble_eq_true rfl, Nat.le_of_ble_eq_true rfl⟩) hE hP hD hA hS rfl rfl hl.1 (Nat.le_of_ble_eq_true rfl) dX6_set_1 (fun H locs hP hS => ?_)
  refine lv_if_ne (tgt := 10) hx hb dX6_set_4 (by decide) (fun c2 => ?_) (fun c2 => ?_)
  · have hf := bs_f hf c2
    refine lv_aload_n hx hb dX6_set_10 rfl (lv_at hl 0 rfl) ?_
    refine va_get (D := (dC, dI)) (ci := 6) (v := .ref rowsh) (C := RX6) (T := TX6) (N := 11) hx hb hts hin6 hown hK hP 0 rfl rfl 0 (by decide) k10 (fun _ h9 => h9) rfl dX6_set_11 ?_
    refine lv_iload_n hx hb dX6_set_14 rfl (lv_at hl 1 rfl) ?_
    refine lv_iload_n hx hb dX6_set_15 rfl (lv_at hl 2 rfl) ?_
    refine lv_iconst (v := 1) hx hb dX6_set_16 (by decide) ?_
    obtain ⟨z3, hz3, hf⟩ := bs_b hf
    refine bs_cViR ⟨hx, hb, hml, hown, hts⟩ (k_X3_findingOfRun l dC dI cI cZ cS cG rowsh rowsq_items rowsg rowsq_laneOf rowsq_lengthOf rows_items rows_laneOf rows_lengthOf p1 p2 (1 : Int32) z3 hz3) (cwV 3 hts gX6_set_X3_findingOfRun rfl rfl rfl (by decide +kernel) ⟨Nat.le_of_ble_eq_true rfl, Nat.le_of_ble_eq_true rfl⟩) hE hP hD hA hS [1, 2, 3, 4, 5, 6, 7, 8, 9, 10, 11, 12] rfl rfl 3 0 rfl rfl rfl rfl hl.1 (Nat.le_of_ble_eq_true rfl) dX6_set_17 (fun H locs hP hS => ?_)
    refine lv_istore (lv' := [(4, .int z3), (0, .ref psh), (1, .int p1), (2, .int p2), (3, .int p3)]) hx hb dX6_set_20 hl (by decide) rfl (fun ls hl => ?_)
    refine lv_iload hx hb dX6_set_22 (lv_at hl 0 rfl) ?_
    refine lv_if_eq (tgt := 34) hx hb dX6_set_24 (by decide) (fun c4 => ?_) (fun c4 => ?_)
    · have hf := bs_t hf c4
      refine lv_aload_n hx hb dX6_set_34 rfl (lv_at hl 1 rfl) ?_
      refine lv_aload_n hx hb dX6_set_35 rfl (lv_at hl 1 rfl) ?_
      refine va_get (D := (dC, dI)) (ci := 6) (v := .ref rowsh) (C := RX6) (T := TX6) (N := 11) hx hb hts hin6 hown hK hP 0 rfl rfl 0 (by decide) k10 (fun _ h9 => h9) rfl dX6_set_36 ?_
      refine lv_iload_n hx hb dX6_set_39 rfl (lv_at hl 2 rfl) ?_
      refine lv_iload_n hx hb dX6_set_40 rfl (lv_at hl 3 rfl) ?_
      refine lv_iload_n hx hb dX6_set_41 rfl (lv_at hl 4 rfl) ?_
      obtain ⟨z5, hz5, hf⟩ := bs_b hf
      refine bs_cVi (ws1 := [(psh, .inr (6, [.ref rowsh, .ref tapeh, .ref nowh, .ref drafth, .ref trialh, .ref psq_images, .ref actsh, .ref sackh, .ref asksh, .int ps_latestFault, .int ps_latestFinding])), (rowsh, .inr (3, [.ref rowsq_items, .ref rowsq_laneOf, .ref rowsq_lengthOf])), (rowsq_items, .inl (cG, 8, .inr (.inr (.inr (.inr (fun j : Nat => if j < 8 then some (rowsg j) else none)))))), (rowsq_laneOf, .inl (cI, 8, .inl rows_laneOf)), (rowsq_lengthOf, .inl (cI, 8, .inl rows_lengthOf))] ++ bs_rw cI rowsg z5.2) ⟨hx, hb, hml, hown, hts⟩ (k_X3_put l dC dI cI cZ cS cG rowsh rowsq_items rowsg rowsq_laneOf rowsq_lengthOf rows_items rows_laneOf rows_lengthOf p1 p2 p3 z5 hz5) (cwV 3 hts gX6_set_X3_put rfl rfl rfl (by decide +kernel) ⟨Nat.le_of_ble_eq_true rfl, Nat.le_of_ble_eq_true rfl⟩) hE hP hD hA hS [1, 2, 3, 4, 5, 6, 7, 8, 9, 10, 11, 12] rfl rfl 3 0 rfl rfl rfl rfl rfl rfl rfl hl.1 (Nat.le_of_ble_eq_true rfl) dX6_set_42 (fun H locs hP hD hS => ?_)
      obtain ⟨z6, hz6, hf⟩ := bs_b hf
      refine bs_cVi (ws1 := [(psh, .inr (6, [.ref rowsh, .ref tapeh, .ref nowh, .ref drafth, .ref trialh, .ref psq_images, .ref actsh, .ref sackh, .ref asksh, .int ps_latestFault, .int z6.2])), (rowsh, .inr (3, [.ref rowsq_items, .ref rowsq_laneOf, .ref rowsq_lengthOf])), (rowsq_items, .inl (cG, 8, .inr (.inr (.inr (.inr (fun j : Nat => if j < 8 then some (rowsg j) else none)))))), (rowsq_laneOf, .inl (cI, 8, .inl rows_laneOf)), (rowsq_lengthOf, .inl (cI, 8, .inl rows_lengthOf))] ++ bs_rw cI rowsg z5.2) ⟨hx, hb, hml, hown, hts⟩ (k_X6_answered l dC dI cI cZ cS cG psh rowsh tapeh nowh drafth trialh psq_images actsh sackh asksh ps_latestFault ps_latestFinding z5.1 z6 hz6) (cwV 1 hts gX6_set_X6_answered rfl rfl rfl (by decide +kernel) ⟨Nat.le_of_ble_eq_true rfl, Nat.le_of_ble_eq_true rfl⟩) hE hP hD hA hS [0] rfl rfl 6 0 rfl rfl rfl rfl rfl rfl rfl hl.1 (Nat.le_of_ble_eq_true rfl) dX6_set_45 (fun H locs hP hD hS => ?_)
      obtain rfl := Option.some.inj hf
      exact hret H locs _ _ hP hS rfl dX6_set_48
    · have hf := bs_f hf c4
      refine lv_aload_n hx hb dX6_set_27 rfl (lv_at hl 1 rfl) ?_
      refine lv_iload hx hb dX6_set_28 (lv_at hl 0 rfl) ?_
      obtain ⟨z7, hz7, hf⟩ := bs_b hf
      refine bs_cVi (ws1 := [(psh, .inr (6, [.ref rowsh, .ref tapeh, .ref nowh, .ref drafth, .ref trialh, .ref psq_images, .ref actsh, .ref sackh, .ref asksh, .int ps_latestFault, .int z7.2])), (rowsh, .inr (3, [.ref rowsq_items, .ref rowsq_laneOf, .ref rowsq_lengthOf])), (rowsq_items, .inl (cG, 8, .inr (.inr (.inr (.inr (fun j : Nat => if j < 8 then some (rowsg j) else none)))))), (rowsq_laneOf, .inl (cI, 8, .inl rows_laneOf)), (rowsq_lengthOf, .inl (cI, 8, .inl rows_lengthOf))] ++ bs_rw cI rowsg rows_items) ⟨hx, hb, hml, hown, hts⟩ (k_X6_finding l dC dI cI cZ cS cG psh rowsh tapeh nowh drafth trialh psq_images actsh sackh asksh ps_latestFault ps_latestFinding z3 z7 hz7) (cwV 1 hts gX6_set_X6_finding rfl rfl rfl (by decide +kernel) ⟨Nat.le_of_ble_eq_true rfl, Nat.le_of_ble_eq_true rfl⟩) hE hP hD hA hS [0] rfl rfl 6 0 rfl rfl rfl rfl rfl rfl rfl hl.1 (Nat.le_of_ble_eq_true rfl) dX6_set_30 (fun H locs hP hD hS => ?_)
      obtain rfl := Option.some.inj hf
      exact hret H locs _ _ hP hS rfl dX6_set_33
  · have hf := bs_t hf c2
    refine lv_ldc hx hb hown (hts (.constant RX6 69 (-1000001)) (by decide +kernel)) dX6_set_7 ?_
    obtain rfl := Option.some.inj hf
    exact hret H locs _ _ hP hS rfl dX6_set_9
set_option maxHeartbeats 4000000 in
set_option maxRecDepth 100000 in
theorem k_X6_copy (l : Launch) (dC : Nat → ClassId) (dI : Nat → Nat → Nat) (cI cZ cS cG : ClassId) (psh : Nat) (rowsh : Nat) (tapeh : Nat) (nowh : Nat) (drafth : Nat) (trialh : Nat) (psq_images : Nat) (actsh : Nat) (sackh : Nat) (asksh : Nat) (rowsq_items : Nat) (rowsg : Nat → Nat) (rowsq_laneOf : Nat) (rowsq_lengthOf : Nat) (ps_latestFault : Int32) (ps_latestFinding : Int32) (rows_items : Nat → Nat → Int32) (rows_laneOf : Nat → Int32) (rows_lengthOf : Nat → Int32) (p1 : Int32) (p2 : Int32) (p3 : Int32) (p4 : Int32) (p5 : Int32) (out : Int32 × Int32 × (Nat → Nat → Int32)) (hf : f_X6_copy ps_latestFinding rows_items rows_laneOf rows_lengthOf p1 p2 p3 p4 p5 = some out) : bs_C l dC dI cI cZ cS cG yX6_copy wsX6_copy ({ frames := 3, cells := 0, slots := 0, locals := 70 } : Room) [.ref psh, .int p1, .int p2, .int p3, .int p4, .int p5] ([(psh, .inr (6, [.ref rowsh, .ref tapeh, .ref nowh, .ref drafth, .ref trialh, .ref psq_images, .ref actsh, .ref sackh, .ref asksh, .int ps_latestFault, .int ps_latestFinding])), (rowsh, .inr (3, [.ref rowsq_items, .ref rowsq_laneOf, .ref rowsq_lengthOf])), (rowsq_items, .inl (cG, 8, .inr (.inr (.inr (.inr (fun j : Nat => if j < 8 then some (rowsg j) else none)))))), (rowsq_laneOf, .inl (cI, 8, .inl rows_laneOf)), (rowsq_lengthOf, .inl (cI, 8, .inl rows_lengthOf))] ++ bs_rw cI rowsg rows_items) out.1 ([(psh, .inr (6, [.ref rowsh, .ref tapeh, .ref nowh, .ref drafth, .ref trialh, .ref psq_images, .ref actsh, .ref sackh, .ref asksh, .int ps_latestFault, .int out.2.1])), (rowsh, .inr (3, [.ref rowsq_items, .ref rowsq_laneOf, .ref rowsq_lengthOf])), (rowsq_items, .inl (cG, 8, .inr (.inr (.inr (.inr (fun j : Nat => if j < 8 then some (rowsg j) else none)))))), (rowsq_laneOf, .inl (cI, 8, .inl rows_laneOf)), (rowsq_lengthOf, .inl (cI, 8, .inl rows_lengthOf))] ++ bs_rw cI rowsg out.2.2) := by
  refine bs_ofI (cc := cX6_copy) (maxL := 7) (by decide) rfl (Nat.le_of_ble_eq_true rfl) ?_
  intro p e s m below meth c A Q hx hb hown hml hts hE H locs hP hD hA hS ls hl hret
  have hK := hE.1
  have hl : lv_has ls 7 [(0, .ref psh), (1, .int p1), (2, .int p2), (3, .int p3), (4, .int p4), (5, .int p5)] := hl
  have hin6 : ∀ w ∈ u_ws RX6 TX6 11, w ∈ wsX6_copy := by decide +kernel
  have k10 := hts (.fieldLink RX6 10 "PromiseScales" "rows" "LPromiseScales$Rows;") (by decide +kernel)
  unfold f_X6_copy at hf
  refine lv_iload_n hx hb dX6_copy_0 rfl (lv_at hl 1 rfl) ?_
  obtain ⟨z1, hz1, hf⟩ := bs_b hf
  refine bs_cSi ⟨hx, hb, hml, hown, hts⟩ (k_X6_isRow l dC dI cI cZ cS cG p1 z1 hz1) (va_cwS 1 hts gX6_copy_X6_isRow rfl rfl rfl (by decide +kernel) ⟨Nat.le_of_ble_eq_true rfl, Nat.le_of_ble_eq_true rfl⟩) hE hP hD hA hS rfl rfl hl.1 (Nat.le_of_ble_eq_true rfl) dX6_copy_1 (fun H locs hP hS => ?_)
  refine lv_if_eq (tgt := 14) hx hb dX6_copy_4 (by decide) (fun c2 => ?_) (fun c2 => ?_)
  · have hf := bs_t hf c2
    refine lv_ldc hx hb hown (hts (.constant RX6 69 (-1000001)) (by decide +kernel)) dX6_copy_14 ?_
    obtain rfl := Option.some.inj hf
    exact hret H locs _ _ hP hS rfl dX6_copy_16
  · have hf := bs_f hf c2
    refine lv_iload_n hx hb dX6_copy_7 rfl (lv_at hl 3 rfl) ?_
    obtain ⟨z3, hz3, hf⟩ := bs_b hf
    refine bs_cSi ⟨hx, hb, hml, hown, hts⟩ (k_X6_isRow l dC dI cI cZ cS cG p3 z3 hz3) (va_cwS 1 hts gX6_copy_X6_isRow rfl rfl rfl (by decide +kernel) ⟨Nat.le_of_ble_eq_true rfl, Nat.le_of_ble_eq_true rfl⟩) hE hP hD hA hS rfl rfl hl.1 (Nat.le_of_ble_eq_true rfl) dX6_copy_8 (fun H locs hP hS => ?_)
    refine lv_if_ne (tgt := 17) hx hb dX6_copy_11 (by decide) (fun c4 => ?_) (fun c4 => ?_)
    · have hf := bs_f hf c4
      refine lv_aload_n hx hb dX6_copy_17 rfl (lv_at hl 0 rfl) ?_
      refine va_get (D := (dC, dI)) (ci := 6) (v := .ref rowsh) (C := RX6) (T := TX6) (N := 11) hx hb hts hin6 hown hK hP 0 rfl rfl 0 (by decide) k10 (fun _ h9 => h9) rfl dX6_copy_18 ?_
      refine lv_iload_n hx hb dX6_copy_21 rfl (lv_at hl 1 rfl) ?_
      refine lv_iload_n hx hb dX6_copy_22 rfl (lv_at hl 2 rfl) ?_
      refine lv_iload_n hx hb dX6_copy_23 rfl (lv_at hl 3 rfl) ?_
      refine lv_iload hx hb dX6_copy_24 (lv_at hl 4 rfl) ?_
      refine lv_iload hx hb dX6_copy_26 (lv_at hl 5 rfl) ?_
      obtain ⟨z5, hz5, hf⟩ := bs_b hf
      refine bs_cViR ⟨hx, hb, hml, hown, hts⟩ (k_X3_findingOfCopy l dC dI cI cZ cS cG rowsh rowsq_items rowsg rowsq_laneOf rowsq_lengthOf rows_items rows_laneOf rows_lengthOf p1 p2 p3 p4 p5 z5 hz5) (cwV 5 hts gX6_copy_X3_findingOfCopy rfl rfl rfl (by decide +kernel) ⟨Nat.le_of_ble_eq_true rfl, Nat.le_of_ble_eq_true rfl⟩) hE hP hD hA hS [1, 2, 3, 4, 5, 6, 7, 8, 9, 10, 11, 12] rfl rfl 3 0 rfl rfl rfl rfl hl.1 (Nat.le_of_ble_eq_true rfl) dX6_copy_28 (fun H locs hP hS => ?_)
      refine lv_istore (lv' := [(6, .int z5), (0, .ref psh), (1, .int p1), (2, .int p2), (3, .int p3), (4, .int p4), (5, .int p5)]) hx hb dX6_copy_31 hl (by decide) rfl (fun ls hl => ?_)
      refine lv_iload hx hb dX6_copy_33 (lv_at hl 0 rfl) ?_
      refine lv_if_eq (tgt := 45) hx hb dX6_copy_35 (by decide) (fun c6 => ?_) (fun c6 => ?_)
      · have hf := bs_t hf c6
        refine lv_aload_n hx hb dX6_copy_45 rfl (lv_at hl 1 rfl) ?_
        refine va_get (D := (dC, dI)) (ci := 6) (v := .ref rowsh) (C := RX6) (T := TX6) (N := 11) hx hb hts hin6 hown hK hP 0 rfl rfl 0 (by decide) k10 (fun _ h9 => h9) rfl dX6_copy_46 ?_
        refine lv_iload_n hx hb dX6_copy_49 rfl (lv_at hl 2 rfl) ?_
        refine lv_iload_n hx hb dX6_copy_50 rfl (lv_at hl 3 rfl) ?_
        refine lv_iload_n hx hb dX6_copy_51 rfl (lv_at hl 4 rfl) ?_
        refine lv_iload hx hb dX6_copy_52 (lv_at hl 5 rfl) ?_
        refine lv_iload hx hb dX6_copy_54 (lv_at hl 6 rfl) ?_
        obtain ⟨z7, hz7, hf⟩ := bs_b hf
        refine bs_cVv (ws1 := [(psh, .inr (6, [.ref rowsh, .ref tapeh, .ref nowh, .ref drafth, .ref trialh, .ref psq_images, .ref actsh, .ref sackh, .ref asksh, .int ps_latestFault, .int ps_latestFinding])), (rowsh, .inr (3, [.ref rowsq_items, .ref rowsq_laneOf, .ref rowsq_lengthOf])), (rowsq_items, .inl (cG, 8, .inr (.inr (.inr (.inr (fun j : Nat => if j < 8 then some (rowsg j) else none)))))), (rowsq_laneOf, .inl (cI, 8, .inl rows_laneOf)), (rowsq_lengthOf, .inl (cI, 8, .inl rows_lengthOf))] ++ bs_rw cI rowsg z7) ⟨hx, hb, hml, hown, hts⟩ (k_X3_move l dC dI cI cZ cS cG rowsh rowsq_items rowsg rowsq_laneOf rowsq_lengthOf rows_items rows_laneOf rows_lengthOf p1 p2 p3 p4 p5 z7 hz7) (cwV 5 hts gX6_copy_X3_move rfl rfl rfl (by decide +kernel) ⟨Nat.le_of_ble_eq_true rfl, Nat.le_of_ble_eq_true rfl⟩) hE hP hD hA hS [1, 2, 3, 4, 5, 6, 7, 8, 9, 10, 11, 12] rfl rfl 3 0 rfl rfl rfl rfl rfl rfl rfl hl.1 (Nat.le_of_ble_eq_true rfl) dX6_copy_56 (fun H locs hP hD hS => ?_)
        refine lv_aload_n hx hb dX6_copy_59 rfl (lv_at hl 1 rfl) ?_
        refine lv_iload hx hb dX6_copy_60 (lv_at hl 6 rfl) ?_
        obtain ⟨z8, hz8, hf⟩ := bs_b hf
        refine bs_cVi (ws1 := [(psh, .inr (6, [.ref rowsh, .ref tapeh, .ref nowh, .ref drafth, .ref trialh, .ref psq_images, .ref actsh, .ref sackh, .ref asksh, .int ps_latestFault, .int z8.2])), (rowsh, .inr (3, [.ref rowsq_items, .ref rowsq_laneOf, .ref rowsq_lengthOf])), (rowsq_items, .inl (cG, 8, .inr (.inr (.inr (.inr (fun j : Nat => if j < 8 then some (rowsg j) else none)))))), (rowsq_laneOf, .inl (cI, 8, .inl rows_laneOf)), (rowsq_lengthOf, .inl (cI, 8, .inl rows_lengthOf))] ++ bs_rw cI rowsg z7) ⟨hx, hb, hml, hown, hts⟩ (k_X6_answered l dC dI cI cZ cS cG psh rowsh tapeh nowh drafth trialh psq_images actsh sackh asksh ps_latestFault ps_latestFinding p5 z8 hz8) (cwV 1 hts gX6_copy_X6_answered rfl rfl rfl (by decide +kernel) ⟨Nat.le_of_ble_eq_true rfl, Nat.le_of_ble_eq_true rfl⟩) hE hP hD hA hS [0] rfl rfl 6 0 rfl rfl rfl rfl rfl rfl rfl hl.1 (Nat.le_of_ble_eq_true rfl) dX6_copy_62 (fun H locs hP hD hS => ?_)
        obtain rfl := Option.some.inj hf
        exact hret H locs _ _ hP hS rfl dX6_copy_65
      · have hf := bs_f hf c6
        refine lv_aload_n hx hb dX6_copy_38 rfl (lv_at hl 1 rfl) ?_
        refine lv_iload hx hb dX6_copy_39 (lv_at hl 0 rfl) ?_
        obtain ⟨z9, hz9, hf⟩ := bs_b hf
        refine bs_cVi (ws1 := [(psh, .inr (6, [.ref rowsh, .ref tapeh, .ref nowh, .ref drafth, .ref trialh, .ref psq_images, .ref actsh, .ref sackh, .ref asksh, .int ps_latestFault, .int z9.2])), (rowsh, .inr (3, [.ref rowsq_items, .ref rowsq_laneOf, .ref rowsq_lengthOf])), (rowsq_items, .inl (cG, 8, .inr (.inr (.inr (.inr (fun j : Nat => if j < 8 then some (rowsg j) else none)))))), (rowsq_laneOf, .inl (cI, 8, .inl rows_laneOf)), (rowsq_lengthOf, .inl (cI, 8, .inl rows_lengthOf))] ++ bs_rw cI rowsg rows_items) ⟨hx, hb, hml, hown, hts⟩ (k_X6_finding l dC dI cI cZ cS cG psh rowsh tapeh nowh drafth trialh psq_images actsh sackh asksh ps_latestFault ps_latestFinding z5 z9 hz9) (cwV 1 hts gX6_copy_X6_finding rfl rfl rfl (by decide +kernel) ⟨Nat.le_of_ble_eq_true rfl, Nat.le_of_ble_eq_true rfl⟩) hE hP hD hA hS [0] rfl rfl 6 0 rfl rfl rfl rfl rfl rfl rfl hl.1 (Nat.le_of_ble_eq_true rfl) dX6_copy_41 (fun H locs hP hD hS => ?_)
        obtain rfl := Option.some.inj hf
        exact hret H locs _ _ hP hS rfl dX6_copy_44
    · have hf := bs_t hf c4
      refine lv_ldc hx hb hown (hts (.constant RX6 69 (-1000001)) (by decide +kernel)) dX6_copy_14 ?_
      obtain rfl := Option.some.inj hf
      exact hret H locs _ _ hP hS rfl dX6_copy_16
set_option maxHeartbeats 4000000 in
set_option maxRecDepth 100000 in
theorem k_X6_drop (l : Launch) (dC : Nat → ClassId) (dI : Nat → Nat → Nat) (cI cZ cS cG : ClassId) (psh : Nat) (rowsh : Nat) (tapeh : Nat) (nowh : Nat) (drafth : Nat) (trialh : Nat) (psq_images : Nat) (actsh : Nat) (sackh : Nat) (asksh : Nat) (rowsq_items : Nat) (rowsg : Nat → Nat) (rowsq_laneOf : Nat) (rowsq_lengthOf : Nat) (ps_latestFault : Int32) (ps_latestFinding : Int32) (rows_items : Nat → Nat → Int32) (rows_laneOf : Nat → Int32) (rows_lengthOf : Nat → Int32) (p1 : Int32) (out : Int32 × Int32 × (Nat → Int32)) (hf : f_X6_drop ps_latestFinding rows_lengthOf p1 = some out) : bs_C l dC dI cI cZ cS cG yX6_drop wsX6_drop ({ frames := 2, cells := 0, slots := 0, locals := 42 } : Room) [.ref psh, .int p1] ([(psh, .inr (6, [.ref rowsh, .ref tapeh, .ref nowh, .ref drafth, .ref trialh, .ref psq_images, .ref actsh, .ref sackh, .ref asksh, .int ps_latestFault, .int ps_latestFinding])), (rowsh, .inr (3, [.ref rowsq_items, .ref rowsq_laneOf, .ref rowsq_lengthOf])), (rowsq_items, .inl (cG, 8, .inr (.inr (.inr (.inr (fun j : Nat => if j < 8 then some (rowsg j) else none)))))), (rowsq_laneOf, .inl (cI, 8, .inl rows_laneOf)), (rowsq_lengthOf, .inl (cI, 8, .inl rows_lengthOf))] ++ bs_rw cI rowsg rows_items) out.1 ([(psh, .inr (6, [.ref rowsh, .ref tapeh, .ref nowh, .ref drafth, .ref trialh, .ref psq_images, .ref actsh, .ref sackh, .ref asksh, .int ps_latestFault, .int out.2.1])), (rowsh, .inr (3, [.ref rowsq_items, .ref rowsq_laneOf, .ref rowsq_lengthOf])), (rowsq_items, .inl (cG, 8, .inr (.inr (.inr (.inr (fun j : Nat => if j < 8 then some (rowsg j) else none)))))), (rowsq_laneOf, .inl (cI, 8, .inl rows_laneOf)), (rowsq_lengthOf, .inl (cI, 8, .inl out.2.2))] ++ bs_rw cI rowsg rows_items) := by
  refine bs_ofI (cc := cX6_drop) (maxL := 2) (by decide) rfl (Nat.le_of_ble_eq_true rfl) ?_
  intro p e s m below meth c A Q hx hb hown hml hts hE H locs hP hD hA hS ls hl hret
  have hK := hE.1
  have hl : lv_has ls 2 [(0, .ref psh), (1, .int p1)] := hl
  have hin6 : ∀ w ∈ u_ws RX6 TX6 11, w ∈ wsX6_drop := by decide +kernel
  have k10 := hts (.fieldLink RX6 10 "PromiseScales" "rows" "LPromiseScales$Rows;") (by decide +kernel)
  unfold f_X6_drop at hf
  refine lv_iload_n hx hb dX6_drop_0 rfl (lv_at hl 1 rfl) ?_
  obtain ⟨z1, hz1, hf⟩ := bs_b hf
  refine bs_cSi ⟨hx, hb, hml, hown, hts⟩ (k_X6_isRow l dC dI cI cZ cS cG p1 z1 hz1) (va_cwS 1 hts gX6_drop_X6_isRow rfl rfl rfl (by decide +kernel) ⟨Nat.le_of_ble_eq_true rfl, Nat.le_of_ble_eq_true rfl⟩) hE hP hD hA hS rfl rfl hl.1 (Nat.le_of_ble_eq_true rfl) dX6_drop_1 (fun H locs hP hS => ?_)
  refine lv_if_ne (tgt := 10) hx hb dX6_drop_4 (by decide) (fun c2 => ?_) (fun c2 => ?_)
  · have hf := bs_f hf c2
    refine lv_aload_n hx hb dX6_drop_10 rfl (lv_at hl 0 rfl) ?_
    refine va_get (D := (dC, dI)) (ci := 6) (v := .ref rowsh) (C := RX6) (T := TX6) (N := 11) hx hb hts hin6 hown hK hP 0 rfl rfl 0 (by decide) k10 (fun _ h9 => h9) rfl dX6_drop_11 ?_
    refine lv_iload_n hx hb dX6_drop_14 rfl (lv_at hl 1 rfl) ?_
    obtain ⟨z3, hz3, hf⟩ := bs_b hf
    refine bs_cViR ⟨hx, hb, hml, hown, hts⟩ (k_X3_isMissing l dC dI cI cZ cS cG rowsh rowsq_items rowsg rowsq_laneOf rowsq_lengthOf rows_items rows_laneOf rows_lengthOf p1 z3 hz3) (cwV 1 hts gX6_drop_X3_isMissing rfl rfl rfl (by decide +kernel) ⟨Nat.le_of_ble_eq_true rfl, Nat.le_of_ble_eq_true rfl⟩) hE hP hD hA hS [1, 2, 3, 4, 5, 6, 7, 8, 9, 10, 11, 12] rfl rfl 3 0 rfl rfl rfl rfl hl.1 (Nat.le_of_ble_eq_true rfl) dX6_drop_15 (fun H locs hP hS => ?_)
    refine lv_if_eq (tgt := 27) hx hb dX6_drop_18 (by decide) (fun c4 => ?_) (fun c4 => ?_)
    · have hf := bs_t hf c4
      refine lv_aload_n hx hb dX6_drop_27 rfl (lv_at hl 0 rfl) ?_
      refine lv_aload_n hx hb dX6_drop_28 rfl (lv_at hl 0 rfl) ?_
      refine va_get (D := (dC, dI)) (ci := 6) (v := .ref rowsh) (C := RX6) (T := TX6) (N := 11) hx hb hts hin6 hown hK hP 0 rfl rfl 0 (by decide) k10 (fun _ h9 => h9) rfl dX6_drop_29 ?_
      refine lv_iload_n hx hb dX6_drop_32 rfl (lv_at hl 1 rfl) ?_
      obtain ⟨z5, hz5, hf⟩ := bs_b hf
      refine bs_cVi (ws1 := [(psh, .inr (6, [.ref rowsh, .ref tapeh, .ref nowh, .ref drafth, .ref trialh, .ref psq_images, .ref actsh, .ref sackh, .ref asksh, .int ps_latestFault, .int ps_latestFinding])), (rowsh, .inr (3, [.ref rowsq_items, .ref rowsq_laneOf, .ref rowsq_lengthOf])), (rowsq_items, .inl (cG, 8, .inr (.inr (.inr (.inr (fun j : Nat => if j < 8 then some (rowsg j) else none)))))), (rowsq_laneOf, .inl (cI, 8, .inl rows_laneOf)), (rowsq_lengthOf, .inl (cI, 8, .inl z5.2))] ++ bs_rw cI rowsg rows_items) ⟨hx, hb, hml, hown, hts⟩ (k_X3_remove l dC dI cI cZ cS cG rowsh rowsq_items rowsg rowsq_laneOf rowsq_lengthOf rows_items rows_laneOf rows_lengthOf p1 z5 hz5) (cwV 1 hts gX6_drop_X3_remove rfl rfl rfl (by decide +kernel) ⟨Nat.le_of_ble_eq_true rfl, Nat.le_of_ble_eq_true rfl⟩) hE hP hD hA hS [1, 2, 3, 4, 5, 6, 7, 8, 9, 10, 11, 12] rfl rfl 3 0 rfl rfl rfl rfl rfl rfl rfl hl.1 (Nat.le_of_ble_eq_true rfl) dX6_drop_33 (fun H locs hP hD hS => ?_)
      obtain ⟨z6, hz6, hf⟩ := bs_b hf
      refine bs_cVi (ws1 := [(psh, .inr (6, [.ref rowsh, .ref tapeh, .ref nowh, .ref drafth, .ref trialh, .ref psq_images, .ref actsh, .ref sackh, .ref asksh, .int ps_latestFault, .int z6.2])), (rowsh, .inr (3, [.ref rowsq_items, .ref rowsq_laneOf, .ref rowsq_lengthOf])), (rowsq_items, .inl (cG, 8, .inr (.inr (.inr (.inr (fun j : Nat => if j < 8 then some (rowsg j) else none)))))), (rowsq_laneOf, .inl (cI, 8, .inl rows_laneOf)), (rowsq_lengthOf, .inl (cI, 8, .inl z5.2))] ++ bs_rw cI rowsg rows_items) ⟨hx, hb, hml, hown, hts⟩ (k_X6_answered l dC dI cI cZ cS cG psh rowsh tapeh nowh drafth trialh psq_images actsh sackh asksh ps_latestFault ps_latestFinding z5.1 z6 hz6) (cwV 1 hts gX6_drop_X6_answered rfl rfl rfl (by decide +kernel) ⟨Nat.le_of_ble_eq_true rfl, Nat.le_of_ble_eq_true rfl⟩) hE hP hD hA hS [0] rfl rfl 6 0 rfl rfl rfl rfl rfl rfl rfl hl.1 (Nat.le_of_ble_eq_true rfl) dX6_drop_36 (fun H locs hP hD hS => ?_)
      obtain rfl := Option.some.inj hf
      exact hret H locs _ _ hP hS rfl dX6_drop_39
    · have hf := bs_f hf c4
      refine lv_aload_n hx hb dX6_drop_21 rfl (lv_at hl 0 rfl) ?_
      refine lv_iconst (v := 1) hx hb dX6_drop_22 (by decide) ?_
      obtain ⟨z7, hz7, hf⟩ := bs_b hf
      refine bs_cVi (ws1 := [(psh, .inr (6, [.ref rowsh, .ref tapeh, .ref nowh, .ref drafth, .ref trialh, .ref psq_images, .ref actsh, .ref sackh, .ref asksh, .int ps_latestFault, .int z7.2])), (rowsh, .inr (3, [.ref rowsq_items, .ref rowsq_laneOf, .ref rowsq_lengthOf])), (rowsq_items, .inl (cG, 8, .inr (.inr (.inr (.inr (fun j : Nat => if j < 8 then some (rowsg j) else none)))))), (rowsq_laneOf, .inl (cI, 8, .inl rows_laneOf)), (rowsq_lengthOf, .inl (cI, 8, .inl rows_lengthOf))] ++ bs_rw cI rowsg rows_items) ⟨hx, hb, hml, hown, hts⟩ (k_X6_finding l dC dI cI cZ cS cG psh rowsh tapeh nowh drafth trialh psq_images actsh sackh asksh ps_latestFault ps_latestFinding (1 : Int32) z7 hz7) (cwV 1 hts gX6_drop_X6_finding rfl rfl rfl (by decide +kernel) ⟨Nat.le_of_ble_eq_true rfl, Nat.le_of_ble_eq_true rfl⟩) hE hP hD hA hS [0] rfl rfl 6 0 rfl rfl rfl rfl rfl rfl rfl hl.1 (Nat.le_of_ble_eq_true rfl) dX6_drop_23 (fun H locs hP hD hS => ?_)
      obtain rfl := Option.some.inj hf
      exact hret H locs _ _ hP hS rfl dX6_drop_26
  · have hf := bs_t hf c2
    refine lv_ldc hx hb hown (hts (.constant RX6 69 (-1000001)) (by decide +kernel)) dX6_drop_7 ?_
    obtain rfl := Option.some.inj hf
    exact hret H locs _ _ hP hS rfl dX6_drop_9
set_option maxHeartbeats 4000000 in
set_option maxRecDepth 100000 in
theorem k_X6_feed (l : Launch) (dC : Nat → ClassId) (dI : Nat → Nat → Nat) (cI cZ cS cG : ClassId) (psh : Nat) (rowsh : Nat) (tapeh : Nat) (nowh : Nat) (drafth : Nat) (trialh : Nat) (psq_images : Nat) (actsh : Nat) (sackh : Nat) (asksh : Nat) (tapeq_letters : Nat) (ps_latestFault : Int32) (ps_latestFinding : Int32) (tape_letters : Nat → Int32) (tape_bytes : Int32) (tape_at : Int32) (tape_faultMet : Int32) (p1 : Int32) (out : Int32 × (Nat → Int32) × Int32) (hf : f_X6_feed tape_letters tape_bytes p1 = some out) : bs_C l dC dI cI cZ cS cG yX6_feed wsX6_feed ({ frames := 2, cells := 0, slots := 0, locals := 41 } : Room) [.ref psh, .int p1] ([(psh, .inr (6, [.ref rowsh, .ref tapeh, .ref nowh, .ref drafth, .ref trialh, .ref psq_images, .ref actsh, .ref sackh, .ref asksh, .int ps_latestFault, .int ps_latestFinding])), (tapeh, .inr (5, [.ref tapeq_letters, .int tape_bytes, .int tape_at, .int tape_faultMet])), (tapeq_letters, .inl (cI, 120, .inl tape_letters))]) out.1 ([(psh, .inr (6, [.ref rowsh, .ref tapeh, .ref nowh, .ref drafth, .ref trialh, .ref psq_images, .ref actsh, .ref sackh, .ref asksh, .int ps_latestFault, .int ps_latestFinding])), (tapeh, .inr (5, [.ref tapeq_letters, .int out.2.2, .int tape_at, .int tape_faultMet])), (tapeq_letters, .inl (cI, 120, .inl out.2.1))]) := by
  refine bs_ofI (cc := cX6_feed) (maxL := 2) (by decide) rfl (Nat.le_of_ble_eq_true rfl) ?_
  intro p e s m below meth c A Q hx hb hown hml hts hE H locs hP hD hA hS ls hl hret
  have hK := hE.1
  have hl : lv_has ls 2 [(0, .ref psh), (1, .int p1)] := hl
  have hin6 : ∀ w ∈ u_ws RX6 TX6 11, w ∈ wsX6_feed := by decide +kernel
  have k19 := hts (.fieldLink RX6 19 "PromiseScales" "tape" "LPromiseScales$Tape;") (by decide +kernel)
  unfold f_X6_feed at hf
  refine lv_iload_n hx hb dX6_feed_0 rfl (lv_at hl 1 rfl) ?_
  refine lv_iconst (v := 0) hx hb dX6_feed_1 (by decide) ?_
  refine lv_sipush (v := 255) hx hb dX6_feed_2 (by decide) ?_
  obtain ⟨z1, hz1, hf⟩ := bs_b hf
  refine bs_cSi ⟨hx, hb, hml, hown, hts⟩ (k_X6_isWithin l dC dI cI cZ cS cG p1 (0 : Int32) (255 : Int32) z1 hz1) (va_cwS 3 hts gX6_feed_X6_isWithin rfl rfl rfl (by decide +kernel) ⟨Nat.le_of_ble_eq_true rfl, Nat.le_of_ble_eq_true rfl⟩) hE hP hD hA hS rfl rfl hl.1 (Nat.le_of_ble_eq_true rfl) dX6_feed_5 (fun H locs hP hS => ?_)
  refine lv_if_ne (tgt := 14) hx hb dX6_feed_8 (by decide) (fun c2 => ?_) (fun c2 => ?_)
  · have hf := bs_f hf c2
    refine lv_aload_n hx hb dX6_feed_14 rfl (lv_at hl 0 rfl) ?_
    refine va_get (D := (dC, dI)) (ci := 6) (v := .ref tapeh) (C := RX6) (T := TX6) (N := 11) hx hb hts hin6 hown hK hP 0 rfl rfl 1 (by decide) k19 (fun _ h9 => h9) rfl dX6_feed_15 ?_
    obtain ⟨z3, hz3, hf⟩ := bs_b hf
    refine bs_cViR ⟨hx, hb, hml, hown, hts⟩ (k_X5_isFull l dC dI cI cZ cS cG tapeh tapeq_letters tape_letters tape_bytes tape_at tape_faultMet z3 hz3) (cwV 0 hts gX6_feed_X5_isFull rfl rfl rfl (by decide +kernel) ⟨Nat.le_of_ble_eq_true rfl, Nat.le_of_ble_eq_true rfl⟩) hE hP hD hA hS [1, 2] rfl rfl 5 0 rfl rfl rfl rfl hl.1 (Nat.le_of_ble_eq_true rfl) dX6_feed_18 (fun H locs hP hS => ?_)
    refine lv_if_eq (tgt := 27) hx hb dX6_feed_21 (by decide) (fun c4 => ?_) (fun c4 => ?_)
    · have hf := bs_t hf c4
      refine lv_aload_n hx hb dX6_feed_27 rfl (lv_at hl 0 rfl) ?_
      refine va_get (D := (dC, dI)) (ci := 6) (v := .ref tapeh) (C := RX6) (T := TX6) (N := 11) hx hb hts hin6 hown hK hP 0 rfl rfl 1 (by decide) k19 (fun _ h9 => h9) rfl dX6_feed_28 ?_
      refine lv_iload_n hx hb dX6_feed_31 rfl (lv_at hl 1 rfl) ?_
      obtain ⟨z5, hz5, hf⟩ := bs_b hf
      refine bs_cVi (ws1 := [(psh, .inr (6, [.ref rowsh, .ref tapeh, .ref nowh, .ref drafth, .ref trialh, .ref psq_images, .ref actsh, .ref sackh, .ref asksh, .int ps_latestFault, .int ps_latestFinding])), (tapeh, .inr (5, [.ref tapeq_letters, .int z5.2.2, .int tape_at, .int tape_faultMet])), (tapeq_letters, .inl (cI, 120, .inl z5.2.1))]) ⟨hx, hb, hml, hown, hts⟩ (k_X5_add l dC dI cI cZ cS cG tapeh tapeq_letters tape_letters tape_bytes tape_at tape_faultMet p1 z5 hz5) (cwV 1 hts gX6_feed_X5_add rfl rfl rfl (by decide +kernel) ⟨Nat.le_of_ble_eq_true rfl, Nat.le_of_ble_eq_true rfl⟩) hE hP hD hA hS [1, 2] rfl rfl 5 0 rfl rfl rfl rfl rfl rfl rfl hl.1 (Nat.le_of_ble_eq_true rfl) dX6_feed_32 (fun H locs hP hD hS => ?_)
      obtain rfl := Option.some.inj hf
      exact hret H locs _ _ hP hS rfl dX6_feed_35
    · have hf := bs_f hf c4
      refine lv_ldc hx hb hown (hts (.constant RX6 106 (-1000003)) (by decide +kernel)) dX6_feed_24 ?_
      obtain rfl := Option.some.inj hf
      exact hret H locs _ _ hP hS rfl dX6_feed_26
  · have hf := bs_t hf c2
    refine lv_ldc hx hb hown (hts (.constant RX6 69 (-1000001)) (by decide +kernel)) dX6_feed_11 ?_
    obtain rfl := Option.some.inj hf
    exact hret H locs _ _ hP hS rfl dX6_feed_13
set_option maxHeartbeats 4000000 in
set_option maxRecDepth 100000 in
theorem k_X6_scales (l : Launch) (dC : Nat → ClassId) (dI : Nat → Nat → Nat) (cI cZ cS cG : ClassId) (psh : Nat) (rowsh : Nat) (tapeh : Nat) (nowh : Nat) (drafth : Nat) (trialh : Nat) (psq_images : Nat) (actsh : Nat) (sackh : Nat) (asksh : Nat) (tapeq_letters : Nat) (nowq_keeping : Nat) (nowq_giverOf : Nat) (nowq_deedOf : Nat) (nowq_dayOf : Nat) (nowq_likelyOf : Nat) (nowq_kindOf : Nat) (nowq_settledOf : Nat) (draftq_keeping : Nat) (draftq_giverOf : Nat) (draftq_deedOf : Nat) (draftq_dayOf : Nat) (draftq_likelyOf : Nat) (draftq_kindOf : Nat) (draftq_settledOf : Nat) (actsq_promiseOf : Nat) (actsq_waxOf : Nat) (actsq_panOf : Nat) (actsq_keepsOf : Nat) (ps_latestFault : Int32) (ps_latestFinding : Int32) (tape_letters : Nat → Int32) (tape_bytes : Int32) (tape_at : Int32) (tape_faultMet : Int32) (now_told : Int32) (now_wax : Int32) (now_stick : Int32) (now_givers : Int32) (now_promises : Int32) (now_pan : Int32) (now_keeping : Nat → Int32) (now_giverOf : Nat → Int32) (now_deedOf : Nat → Int32) (now_dayOf : Nat → Int32) (now_likelyOf : Nat → Int32) (now_kindOf : Nat → Int32) (now_settledOf : Nat → Int32) (draft_told : Int32) (draft_wax : Int32) (draft_stick : Int32) (draft_givers : Int32) (draft_promises : Int32) (draft_pan : Int32) (draft_keeping : Nat → Int32) (draft_giverOf : Nat → Int32) (draft_deedOf : Nat → Int32) (draft_dayOf : Nat → Int32) (draft_likelyOf : Nat → Int32) (draft_kindOf : Nat → Int32) (draft_settledOf : Nat → Int32) (acts_promiseOf : Nat → Int32) (acts_waxOf : Nat → Int32) (acts_panOf : Nat → Int32) (acts_keepsOf : Nat → Int32) (acts_oldest : Int32) (acts_kept : Int32) (out : Int32 × Int32 × Int32 × Int32 × Int32 × Int32 × Int32 × Int32 × Int32 × Int32 × Int32 × (Nat → Int32) × (Nat → Int32) × (Nat → Int32) × (Nat → Int32) × (Nat → Int32) × (Nat → Int32) × (Nat → Int32) × Int32 × Int32 × Int32 × Int32 × Int32 × Int32 × (Nat → Int32) × (Nat → Int32) × (Nat → Int32) × (Nat → Int32) × (Nat → Int32) × (Nat → Int32) × (Nat → Int32) × Int32 × Int32) (hf : f_X6_scales ps_latestFault tape_letters tape_bytes tape_at tape_faultMet now_told now_wax now_stick now_givers now_promises now_pan now_keeping now_giverOf now_deedOf now_dayOf now_likelyOf now_kindOf now_settledOf draft_told draft_wax draft_stick draft_givers draft_promises draft_pan draft_keeping draft_giverOf draft_deedOf draft_dayOf draft_likelyOf draft_kindOf draft_settledOf acts_oldest acts_kept = some out) : bs_C l dC dI cI cZ cS cG yX6_scales wsX6_scales ({ frames := 5, cells := 0, slots := 0, locals := 116 } : Room) [.ref psh] ([(psh, .inr (6, [.ref rowsh, .ref tapeh, .ref nowh, .ref drafth, .ref trialh, .ref psq_images, .ref actsh, .ref sackh, .ref asksh, .int ps_latestFault, .int ps_latestFinding])), (tapeh, .inr (5, [.ref tapeq_letters, .int tape_bytes, .int tape_at, .int tape_faultMet])), (tapeq_letters, .inl (cI, 120, .inl tape_letters)), (nowh, .inr (4, [.int now_told, .int now_wax, .int now_stick, .int now_givers, .int now_promises, .int now_pan, .ref nowq_keeping, .ref nowq_giverOf, .ref nowq_deedOf, .ref nowq_dayOf, .ref nowq_likelyOf, .ref nowq_kindOf, .ref nowq_settledOf])), (nowq_keeping, .inl (cI, 4, .inl now_keeping)), (nowq_giverOf, .inl (cI, 8, .inl now_giverOf)), (nowq_deedOf, .inl (cI, 8, .inl now_deedOf)), (nowq_dayOf, .inl (cI, 8, .inl now_dayOf)), (nowq_likelyOf, .inl (cI, 8, .inl now_likelyOf)), (nowq_kindOf, .inl (cI, 8, .inl now_kindOf)), (nowq_settledOf, .inl (cI, 8, .inl now_settledOf)), (drafth, .inr (4, [.int draft_told, .int draft_wax, .int draft_stick, .int draft_givers, .int draft_promises, .int draft_pan, .ref draftq_keeping, .ref draftq_giverOf, .ref draftq_deedOf, .ref draftq_dayOf, .ref draftq_likelyOf, .ref draftq_kindOf, .ref draftq_settledOf])), (draftq_keeping, .inl (cI, 4, .inl draft_keeping)), (draftq_giverOf, .inl (cI, 8, .inl draft_giverOf)), (draftq_deedOf, .inl (cI, 8, .inl draft_deedOf)), (draftq_dayOf, .inl (cI, 8, .inl draft_dayOf)), (draftq_likelyOf, .inl (cI, 8, .inl draft_likelyOf)), (draftq_kindOf, .inl (cI, 8, .inl draft_kindOf)), (draftq_settledOf, .inl (cI, 8, .inl draft_settledOf)), (actsh, .inr (0, [.ref actsq_promiseOf, .ref actsq_waxOf, .ref actsq_panOf, .ref actsq_keepsOf, .int acts_oldest, .int acts_kept])), (actsq_promiseOf, .inl (cI, 24, .inl acts_promiseOf)), (actsq_waxOf, .inl (cI, 24, .inl acts_waxOf)), (actsq_panOf, .inl (cI, 24, .inl acts_panOf)), (actsq_keepsOf, .inl (cI, 24, .inl acts_keepsOf))]) out.1 ([(psh, .inr (6, [.ref rowsh, .ref tapeh, .ref nowh, .ref drafth, .ref trialh, .ref psq_images, .ref actsh, .ref sackh, .ref asksh, .int out.2.1, .int ps_latestFinding])), (tapeh, .inr (5, [.ref tapeq_letters, .int out.2.2.1, .int out.2.2.2.1, .int out.2.2.2.2.1])), (tapeq_letters, .inl (cI, 120, .inl tape_letters)), (nowh, .inr (4, [.int out.2.2.2.2.2.1, .int out.2.2.2.2.2.2.1, .int out.2.2.2.2.2.2.2.1, .int out.2.2.2.2.2.2.2.2.1, .int out.2.2.2.2.2.2.2.2.2.1, .int out.2.2.2.2.2.2.2.2.2.2.1, .ref nowq_keeping, .ref nowq_giverOf, .ref nowq_deedOf, .ref nowq_dayOf, .ref nowq_likelyOf, .ref nowq_kindOf, .ref nowq_settledOf])), (nowq_keeping, .inl (cI, 4, .inl out.2.2.2.2.2.2.2.2.2.2.2.1)), (nowq_giverOf, .inl (cI, 8, .inl out.2.2.2.2.2.2.2.2.2.2.2.2.1)), (nowq_deedOf, .inl (cI, 8, .inl out.2.2.2.2.2.2.2.2.2.2.2.2.2.1)), (nowq_dayOf, .inl (cI, 8, .inl out.2.2.2.2.2.2.2.2.2.2.2.2.2.2.1)), (nowq_likelyOf, .inl (cI, 8, .inl out.2.2.2.2.2.2.2.2.2.2.2.2.2.2.2.1)), (nowq_kindOf, .inl (cI, 8, .inl out.2.2.2.2.2.2.2.2.2.2.2.2.2.2.2.2.1)), (nowq_settledOf, .inl (cI, 8, .inl out.2.2.2.2.2.2.2.2.2.2.2.2.2.2.2.2.2.1)), (drafth, .inr (4, [.int out.2.2.2.2.2.2.2.2.2.2.2.2.2.2.2.2.2.2.1, .int out.2.2.2.2.2.2.2.2.2.2.2.2.2.2.2.2.2.2.2.1, .int out.2.2.2.2.2.2.2.2.2.2.2.2.2.2.2.2.2.2.2.2.1, .int out.2.2.2.2.2.2.2.2.2.2.2.2.2.2.2.2.2.2.2.2.2.1, .int out.2.2.2.2.2.2.2.2.2.2.2.2.2.2.2.2.2.2.2.2.2.2.1, .int out.2.2.2.2.2.2.2.2.2.2.2.2.2.2.2.2.2.2.2.2.2.2.2.1, .ref draftq_keeping, .ref draftq_giverOf, .ref draftq_deedOf, .ref draftq_dayOf, .ref draftq_likelyOf, .ref draftq_kindOf, .ref draftq_settledOf])), (draftq_keeping, .inl (cI, 4, .inl out.2.2.2.2.2.2.2.2.2.2.2.2.2.2.2.2.2.2.2.2.2.2.2.2.1)), (draftq_giverOf, .inl (cI, 8, .inl out.2.2.2.2.2.2.2.2.2.2.2.2.2.2.2.2.2.2.2.2.2.2.2.2.2.1)), (draftq_deedOf, .inl (cI, 8, .inl out.2.2.2.2.2.2.2.2.2.2.2.2.2.2.2.2.2.2.2.2.2.2.2.2.2.2.1)), (draftq_dayOf, .inl (cI, 8, .inl out.2.2.2.2.2.2.2.2.2.2.2.2.2.2.2.2.2.2.2.2.2.2.2.2.2.2.2.1)), (draftq_likelyOf, .inl (cI, 8, .inl out.2.2.2.2.2.2.2.2.2.2.2.2.2.2.2.2.2.2.2.2.2.2.2.2.2.2.2.2.1)), (draftq_kindOf, .inl (cI, 8, .inl out.2.2.2.2.2.2.2.2.2.2.2.2.2.2.2.2.2.2.2.2.2.2.2.2.2.2.2.2.2.1)), (draftq_settledOf, .inl (cI, 8, .inl out.2.2.2.2.2.2.2.2.2.2.2.2.2.2.2.2.2.2.2.2.2.2.2.2.2.2.2.2.2.2.1)), (actsh, .inr (0, [.ref actsq_promiseOf, .ref actsq_waxOf, .ref actsq_panOf, .ref actsq_keepsOf, .int out.2.2.2.2.2.2.2.2.2.2.2.2.2.2.2.2.2.2.2.2.2.2.2.2.2.2.2.2.2.2.2.1, .int out.2.2.2.2.2.2.2.2.2.2.2.2.2.2.2.2.2.2.2.2.2.2.2.2.2.2.2.2.2.2.2.2])), (actsq_promiseOf, .inl (cI, 24, .inl acts_promiseOf)), (actsq_waxOf, .inl (cI, 24, .inl acts_waxOf)), (actsq_panOf, .inl (cI, 24, .inl acts_panOf)), (actsq_keepsOf, .inl (cI, 24, .inl acts_keepsOf))]) := by
  refine bs_ofI (cc := cX6_scales) (maxL := 2) (by decide) rfl (Nat.le_of_ble_eq_true rfl) ?_
  intro p e s m below meth c A Q hx hb hown hml hts hE H locs hP hD hA hS ls hl hret
  have hK := hE.1
  have hl : lv_has ls 2 [(0, .ref psh)] := hl
  have hin4 : ∀ w ∈ u_ws RX4 TX4 13, w ∈ wsX6_scales := by decide +kernel
  have hin6 : ∀ w ∈ u_ws RX6 TX6 11, w ∈ wsX6_scales := by decide +kernel
  have k19 := hts (.fieldLink RX6 19 "PromiseScales" "tape" "LPromiseScales$Tape;") (by decide +kernel)
  have k26 := hts (.fieldLink RX6 26 "PromiseScales" "now" "LPromiseScales$Scales;") (by decide +kernel)
  have k30 := hts (.fieldLink RX6 30 "PromiseScales" "draft" "LPromiseScales$Scales;") (by decide +kernel)
  have k43 := hts (.fieldLink RX6 43 "PromiseScales" "acts" "LPromiseScales$Acts;") (by decide +kernel)
  have k114 := hts (.fieldLink RX6 114 "PromiseScales" "latestFault" "I") (by decide +kernel)
  have k130 := hts (.fieldLink RX6 130 "PromiseScales$Scales" "promises" "I") (by decide +kernel)
  unfold f_X6_scales at hf
  refine lv_aload_n hx hb dX6_scales_0 rfl (lv_at hl 0 rfl) ?_
  refine va_get (D := (dC, dI)) (ci := 6) (v := .ref tapeh) (C := RX6) (T := TX6) (N := 11) hx hb hts hin6 hown hK hP 0 rfl rfl 1 (by decide) k19 (fun _ h9 => h9) rfl dX6_scales_1 ?_
  refine lv_aload_n hx hb dX6_scales_4 rfl (lv_at hl 0 rfl) ?_
  refine va_get (D := (dC, dI)) (ci := 6) (v := .ref drafth) (C := RX6) (T := TX6) (N := 11) hx hb hts hin6 hown hK hP 0 rfl rfl 3 (by decide) k30 (fun _ h9 => h9) rfl dX6_scales_5 ?_
  obtain ⟨z1, hz1, hf⟩ := bs_b hf
  refine bs_cVi (ws1 := [(psh, .inr (6, [.ref rowsh, .ref tapeh, .ref nowh, .ref drafth, .ref trialh, .ref psq_images, .ref actsh, .ref sackh, .ref asksh, .int ps_latestFault, .int ps_latestFinding])), (tapeh, .inr (5, [.ref tapeq_letters, .int z1.2.1, .int z1.2.2.1, .int z1.2.2.2.1])), (tapeq_letters, .inl (cI, 120, .inl tape_letters)), (nowh, .inr (4, [.int now_told, .int now_wax, .int now_stick, .int now_givers, .int now_promises, .int now_pan, .ref nowq_keeping, .ref nowq_giverOf, .ref nowq_deedOf, .ref nowq_dayOf, .ref nowq_likelyOf, .ref nowq_kindOf, .ref nowq_settledOf])), (nowq_keeping, .inl (cI, 4, .inl now_keeping)), (nowq_giverOf, .inl (cI, 8, .inl now_giverOf)), (nowq_deedOf, .inl (cI, 8, .inl now_deedOf)), (nowq_dayOf, .inl (cI, 8, .inl now_dayOf)), (nowq_likelyOf, .inl (cI, 8, .inl now_likelyOf)), (nowq_kindOf, .inl (cI, 8, .inl now_kindOf)), (nowq_settledOf, .inl (cI, 8, .inl now_settledOf)), (drafth, .inr (4, [.int z1.2.2.2.2.1, .int z1.2.2.2.2.2.1, .int z1.2.2.2.2.2.2.1, .int z1.2.2.2.2.2.2.2.1, .int z1.2.2.2.2.2.2.2.2.1, .int z1.2.2.2.2.2.2.2.2.2.1, .ref draftq_keeping, .ref draftq_giverOf, .ref draftq_deedOf, .ref draftq_dayOf, .ref draftq_likelyOf, .ref draftq_kindOf, .ref draftq_settledOf])), (draftq_keeping, .inl (cI, 4, .inl z1.2.2.2.2.2.2.2.2.2.2.1)), (draftq_giverOf, .inl (cI, 8, .inl z1.2.2.2.2.2.2.2.2.2.2.2.1)), (draftq_deedOf, .inl (cI, 8, .inl z1.2.2.2.2.2.2.2.2.2.2.2.2.1)), (draftq_dayOf, .inl (cI, 8, .inl z1.2.2.2.2.2.2.2.2.2.2.2.2.2.1)), (draftq_likelyOf, .inl (cI, 8, .inl z1.2.2.2.2.2.2.2.2.2.2.2.2.2.2.1)), (draftq_kindOf, .inl (cI, 8, .inl z1.2.2.2.2.2.2.2.2.2.2.2.2.2.2.2.1)), (draftq_settledOf, .inl (cI, 8, .inl z1.2.2.2.2.2.2.2.2.2.2.2.2.2.2.2.2)), (actsh, .inr (0, [.ref actsq_promiseOf, .ref actsq_waxOf, .ref actsq_panOf, .ref actsq_keepsOf, .int acts_oldest, .int acts_kept])), (actsq_promiseOf, .inl (cI, 24, .inl acts_promiseOf)), (actsq_waxOf, .inl (cI, 24, .inl acts_waxOf)), (actsq_panOf, .inl (cI, 24, .inl acts_panOf)), (actsq_keepsOf, .inl (cI, 24, .inl acts_keepsOf))]) ⟨hx, hb, hml, hown, hts⟩ (k_X5_readInto l dC dI cI cZ cS cG tapeh tapeq_letters drafth draftq_keeping draftq_giverOf draftq_deedOf draftq_dayOf draftq_likelyOf draftq_kindOf draftq_settledOf tape_letters tape_bytes tape_at tape_faultMet draft_told draft_wax draft_stick draft_givers draft_promises draft_pan draft_keeping draft_giverOf draft_deedOf draft_dayOf draft_likelyOf draft_kindOf draft_settledOf z1 hz1) (cwV 1 hts gX6_scales_X5_readInto rfl rfl rfl (by decide +kernel) ⟨Nat.le_of_ble_eq_true rfl, Nat.le_of_ble_eq_true rfl⟩) hE hP hD hA hS [1, 2, 11, 12, 13, 14, 15, 16, 17, 18] rfl rfl 5 0 rfl rfl rfl rfl rfl rfl rfl hl.1 (Nat.le_of_ble_eq_true rfl) dX6_scales_8 (fun H locs hP hD hS => ?_)
  refine lv_istore_n (lv' := [(1, .int z1.1), (0, .ref psh)]) hx hb dX6_scales_11 rfl hl (by decide) rfl (fun ls hl => ?_)
  refine lv_iload_n hx hb dX6_scales_12 rfl (lv_at hl 0 rfl) ?_
  refine lv_if_eq (tgt := 32) hx hb dX6_scales_13 (by decide) (fun c2 => ?_) (fun c2 => ?_)
  · have hf := bs_t hf c2
    refine lv_aload_n hx hb dX6_scales_32 rfl (lv_at hl 1 rfl) ?_
    refine va_get (D := (dC, dI)) (ci := 6) (v := .ref nowh) (C := RX6) (T := TX6) (N := 11) hx hb hts hin6 hown hK hP 0 rfl rfl 2 (by decide) k26 (fun _ h9 => h9) rfl dX6_scales_33 ?_
    refine lv_aload_n hx hb dX6_scales_36 rfl (lv_at hl 1 rfl) ?_
    refine va_get (D := (dC, dI)) (ci := 6) (v := .ref drafth) (C := RX6) (T := TX6) (N := 11) hx hb hts hin6 hown hK hP 0 rfl rfl 3 (by decide) k30 (fun _ h9 => h9) rfl dX6_scales_37 ?_
    obtain ⟨z3, hz3, hf⟩ := bs_b hf
    refine bs_cVv (ws1 := [(psh, .inr (6, [.ref rowsh, .ref tapeh, .ref nowh, .ref drafth, .ref trialh, .ref psq_images, .ref actsh, .ref sackh, .ref asksh, .int ps_latestFault, .int ps_latestFinding])), (tapeh, .inr (5, [.ref tapeq_letters, .int z1.2.1, .int z1.2.2.1, .int z1.2.2.2.1])), (tapeq_letters, .inl (cI, 120, .inl tape_letters)), (nowh, .inr (4, [.int z3.1, .int z3.2.1, .int z3.2.2.1, .int z3.2.2.2.1, .int z3.2.2.2.2.1, .int z3.2.2.2.2.2.1, .ref nowq_keeping, .ref nowq_giverOf, .ref nowq_deedOf, .ref nowq_dayOf, .ref nowq_likelyOf, .ref nowq_kindOf, .ref nowq_settledOf])), (nowq_keeping, .inl (cI, 4, .inl z3.2.2.2.2.2.2.1)), (nowq_giverOf, .inl (cI, 8, .inl z3.2.2.2.2.2.2.2.1)), (nowq_deedOf, .inl (cI, 8, .inl z3.2.2.2.2.2.2.2.2.1)), (nowq_dayOf, .inl (cI, 8, .inl z3.2.2.2.2.2.2.2.2.2.1)), (nowq_likelyOf, .inl (cI, 8, .inl z3.2.2.2.2.2.2.2.2.2.2.1)), (nowq_kindOf, .inl (cI, 8, .inl z3.2.2.2.2.2.2.2.2.2.2.2.1)), (nowq_settledOf, .inl (cI, 8, .inl z3.2.2.2.2.2.2.2.2.2.2.2.2)), (drafth, .inr (4, [.int z1.2.2.2.2.1, .int z1.2.2.2.2.2.1, .int z1.2.2.2.2.2.2.1, .int z1.2.2.2.2.2.2.2.1, .int z1.2.2.2.2.2.2.2.2.1, .int z1.2.2.2.2.2.2.2.2.2.1, .ref draftq_keeping, .ref draftq_giverOf, .ref draftq_deedOf, .ref draftq_dayOf, .ref draftq_likelyOf, .ref draftq_kindOf, .ref draftq_settledOf])), (draftq_keeping, .inl (cI, 4, .inl z1.2.2.2.2.2.2.2.2.2.2.1)), (draftq_giverOf, .inl (cI, 8, .inl z1.2.2.2.2.2.2.2.2.2.2.2.1)), (draftq_deedOf, .inl (cI, 8, .inl z1.2.2.2.2.2.2.2.2.2.2.2.2.1)), (draftq_dayOf, .inl (cI, 8, .inl z1.2.2.2.2.2.2.2.2.2.2.2.2.2.1)), (draftq_likelyOf, .inl (cI, 8, .inl z1.2.2.2.2.2.2.2.2.2.2.2.2.2.2.1)), (draftq_kindOf, .inl (cI, 8, .inl z1.2.2.2.2.2.2.2.2.2.2.2.2.2.2.2.1)), (draftq_settledOf, .inl (cI, 8, .inl z1.2.2.2.2.2.2.2.2.2.2.2.2.2.2.2.2)), (actsh, .inr (0, [.ref actsq_promiseOf, .ref actsq_waxOf, .ref actsq_panOf, .ref actsq_keepsOf, .int acts_oldest, .int acts_kept])), (actsq_promiseOf, .inl (cI, 24, .inl acts_promiseOf)), (actsq_waxOf, .inl (cI, 24, .inl acts_waxOf)), (actsq_panOf, .inl (cI, 24, .inl acts_panOf)), (actsq_keepsOf, .inl (cI, 24, .inl acts_keepsOf))]) ⟨hx, hb, hml, hown, hts⟩ (k_X4_become l dC dI cI cZ cS cG nowh nowq_keeping nowq_giverOf nowq_deedOf nowq_dayOf nowq_likelyOf nowq_kindOf nowq_settledOf drafth draftq_keeping draftq_giverOf draftq_deedOf draftq_dayOf draftq_likelyOf draftq_kindOf draftq_settledOf now_told now_wax now_stick now_givers now_promises now_pan now_keeping now_giverOf now_deedOf now_dayOf now_likelyOf now_kindOf now_settledOf z1.2.2.2.2.1 z1.2.2.2.2.2.1 z1.2.2.2.2.2.2.1 z1.2.2.2.2.2.2.2.1 z1.2.2.2.2.2.2.2.2.1 z1.2.2.2.2.2.2.2.2.2.1 z1.2.2.2.2.2.2.2.2.2.2.1 z1.2.2.2.2.2.2.2.2.2.2.2.1 z1.2.2.2.2.2.2.2.2.2.2.2.2.1 z1.2.2.2.2.2.2.2.2.2.2.2.2.2.1 z1.2.2.2.2.2.2.2.2.2.2.2.2.2.2.1 z1.2.2.2.2.2.2.2.2.2.2.2.2.2.2.2.1 z1.2.2.2.2.2.2.2.2.2.2.2.2.2.2.2.2 z3 hz3) (cwV 1 hts gX6_scales_X4_become rfl rfl rfl (by decide +kernel) ⟨Nat.le_of_ble_eq_true rfl, Nat.le_of_ble_eq_true rfl⟩) hE hP hD hA hS [3, 4, 5, 6, 7, 8, 9, 10, 11, 12, 13, 14, 15, 16, 17, 18] rfl rfl 4 0 rfl rfl rfl rfl rfl rfl rfl hl.1 (Nat.le_of_ble_eq_true rfl) dX6_scales_40 (fun H locs hP hD hS => ?_)
    refine lv_aload_n hx hb dX6_scales_43 rfl (lv_at hl 1 rfl) ?_
    refine va_get (D := (dC, dI)) (ci := 6) (v := .ref actsh) (C := RX6) (T := TX6) (N := 11) hx hb hts hin6 hown hK hP 0 rfl rfl 6 (by decide) k43 (fun _ h9 => h9) rfl dX6_scales_44 ?_
    obtain ⟨z4, hz4, hf⟩ := bs_b hf
    refine bs_cVv (ws1 := [(psh, .inr (6, [.ref rowsh, .ref tapeh, .ref nowh, .ref drafth, .ref trialh, .ref psq_images, .ref actsh, .ref sackh, .ref asksh, .int ps_latestFault, .int ps_latestFinding])), (tapeh, .inr (5, [.ref tapeq_letters, .int z1.2.1, .int z1.2.2.1, .int z1.2.2.2.1])), (tapeq_letters, .inl (cI, 120, .inl tape_letters)), (nowh, .inr (4, [.int z3.1, .int z3.2.1, .int z3.2.2.1, .int z3.2.2.2.1, .int z3.2.2.2.2.1, .int z3.2.2.2.2.2.1, .ref nowq_keeping, .ref nowq_giverOf, .ref nowq_deedOf, .ref nowq_dayOf, .ref nowq_likelyOf, .ref nowq_kindOf, .ref nowq_settledOf])), (nowq_keeping, .inl (cI, 4, .inl z3.2.2.2.2.2.2.1)), (nowq_giverOf, .inl (cI, 8, .inl z3.2.2.2.2.2.2.2.1)), (nowq_deedOf, .inl (cI, 8, .inl z3.2.2.2.2.2.2.2.2.1)), (nowq_dayOf, .inl (cI, 8, .inl z3.2.2.2.2.2.2.2.2.2.1)), (nowq_likelyOf, .inl (cI, 8, .inl z3.2.2.2.2.2.2.2.2.2.2.1)), (nowq_kindOf, .inl (cI, 8, .inl z3.2.2.2.2.2.2.2.2.2.2.2.1)), (nowq_settledOf, .inl (cI, 8, .inl z3.2.2.2.2.2.2.2.2.2.2.2.2)), (drafth, .inr (4, [.int z1.2.2.2.2.1, .int z1.2.2.2.2.2.1, .int z1.2.2.2.2.2.2.1, .int z1.2.2.2.2.2.2.2.1, .int z1.2.2.2.2.2.2.2.2.1, .int z1.2.2.2.2.2.2.2.2.2.1, .ref draftq_keeping, .ref draftq_giverOf, .ref draftq_deedOf, .ref draftq_dayOf, .ref draftq_likelyOf, .ref draftq_kindOf, .ref draftq_settledOf])), (draftq_keeping, .inl (cI, 4, .inl z1.2.2.2.2.2.2.2.2.2.2.1)), (draftq_giverOf, .inl (cI, 8, .inl z1.2.2.2.2.2.2.2.2.2.2.2.1)), (draftq_deedOf, .inl (cI, 8, .inl z1.2.2.2.2.2.2.2.2.2.2.2.2.1)), (draftq_dayOf, .inl (cI, 8, .inl z1.2.2.2.2.2.2.2.2.2.2.2.2.2.1)), (draftq_likelyOf, .inl (cI, 8, .inl z1.2.2.2.2.2.2.2.2.2.2.2.2.2.2.1)), (draftq_kindOf, .inl (cI, 8, .inl z1.2.2.2.2.2.2.2.2.2.2.2.2.2.2.2.1)), (draftq_settledOf, .inl (cI, 8, .inl z1.2.2.2.2.2.2.2.2.2.2.2.2.2.2.2.2)), (actsh, .inr (0, [.ref actsq_promiseOf, .ref actsq_waxOf, .ref actsq_panOf, .ref actsq_keepsOf, .int z4.1, .int z4.2])), (actsq_promiseOf, .inl (cI, 24, .inl acts_promiseOf)), (actsq_waxOf, .inl (cI, 24, .inl acts_waxOf)), (actsq_panOf, .inl (cI, 24, .inl acts_panOf)), (actsq_keepsOf, .inl (cI, 24, .inl acts_keepsOf))]) ⟨hx, hb, hml, hown, hts⟩ (k_X0_forgetAll l dC dI cI cZ cS cG actsh actsq_promiseOf actsq_waxOf actsq_panOf actsq_keepsOf acts_promiseOf acts_waxOf acts_panOf acts_keepsOf acts_oldest acts_kept z4 hz4) (cwV 0 hts gX6_scales_X0_forgetAll rfl rfl rfl (by decide +kernel) ⟨Nat.le_of_ble_eq_true rfl, Nat.le_of_ble_eq_true rfl⟩) hE hP hD hA hS [19, 20, 21, 22, 23] rfl rfl 0 0 rfl rfl rfl rfl rfl rfl rfl hl.1 (Nat.le_of_ble_eq_true rfl) dX6_scales_47 (fun H locs hP hD hS => ?_)
    refine lv_aload_n hx hb dX6_scales_50 rfl (lv_at hl 1 rfl) ?_
    refine va_get (D := (dC, dI)) (ci := 6) (v := .ref nowh) (C := RX6) (T := TX6) (N := 11) hx hb hts hin6 hown hK hP 0 rfl rfl 2 (by decide) k26 (fun _ h9 => h9) rfl dX6_scales_51 ?_
    refine va_get (D := (dC, dI)) (ci := 4) (v := .int z3.2.2.2.2.1) (C := RX4) (T := TX4) (N := 13) hx hb hts hin4 hown hK hP 3 rfl rfl 4 (by decide) k130 (fun _ h9 => h9) rfl dX6_scales_54 ?_
    obtain rfl := Option.some.inj hf
    exact hret H locs _ _ hP hS rfl dX6_scales_57
  · have hf := bs_f hf c2
    refine lv_aload_n hx hb dX6_scales_16 rfl (lv_at hl 1 rfl) ?_
    refine lv_iload_n hx hb dX6_scales_17 rfl (lv_at hl 0 rfl) ?_
    refine va_put (D := (dC, dI)) (ci := 6) (v := .int z1.1) (ty := .int) (C := RX6) (T := TX6) (N := 11) hx hb hts hin6 tyX6 tyX6_ok nmX6 hown hK hP hD hS 0 rfl rfl 9 (by decide) k114 (fun _ h9 => h9) rfl (by decide +kernel) rfl rfl (Nat.le_of_ble_eq_true rfl) dX6_scales_18 (fun H locs hP hD hS => ?_)
    have hP : va_P (dC, dI) vwCl ([(psh, .inr (6, [.ref rowsh, .ref tapeh, .ref nowh, .ref drafth, .ref trialh, .ref psq_images, .ref actsh, .ref sackh, .ref asksh, .int z1.1, .int ps_latestFinding])), (tapeh, .inr (5, [.ref tapeq_letters, .int z1.2.1, .int z1.2.2.1, .int z1.2.2.2.1])), (tapeq_letters, .inl (cI, 120, .inl tape_letters)), (nowh, .inr (4, [.int now_told, .int now_wax, .int now_stick, .int now_givers, .int now_promises, .int now_pan, .ref nowq_keeping, .ref nowq_giverOf, .ref nowq_deedOf, .ref nowq_dayOf, .ref nowq_likelyOf, .ref nowq_kindOf, .ref nowq_settledOf])), (nowq_keeping, .inl (cI, 4, .inl now_keeping)), (nowq_giverOf, .inl (cI, 8, .inl now_giverOf)), (nowq_deedOf, .inl (cI, 8, .inl now_deedOf)), (nowq_dayOf, .inl (cI, 8, .inl now_dayOf)), (nowq_likelyOf, .inl (cI, 8, .inl now_likelyOf)), (nowq_kindOf, .inl (cI, 8, .inl now_kindOf)), (nowq_settledOf, .inl (cI, 8, .inl now_settledOf)), (drafth, .inr (4, [.int z1.2.2.2.2.1, .int z1.2.2.2.2.2.1, .int z1.2.2.2.2.2.2.1, .int z1.2.2.2.2.2.2.2.1, .int z1.2.2.2.2.2.2.2.2.1, .int z1.2.2.2.2.2.2.2.2.2.1, .ref draftq_keeping, .ref draftq_giverOf, .ref draftq_deedOf, .ref draftq_dayOf, .ref draftq_likelyOf, .ref draftq_kindOf, .ref draftq_settledOf])), (draftq_keeping, .inl (cI, 4, .inl z1.2.2.2.2.2.2.2.2.2.2.1)), (draftq_giverOf, .inl (cI, 8, .inl z1.2.2.2.2.2.2.2.2.2.2.2.1)), (draftq_deedOf, .inl (cI, 8, .inl z1.2.2.2.2.2.2.2.2.2.2.2.2.1)), (draftq_dayOf, .inl (cI, 8, .inl z1.2.2.2.2.2.2.2.2.2.2.2.2.2.1)), (draftq_likelyOf, .inl (cI, 8, .inl z1.2.2.2.2.2.2.2.2.2.2.2.2.2.2.1)), (draftq_kindOf, .inl (cI, 8, .inl z1.2.2.2.2.2.2.2.2.2.2.2.2.2.2.2.1)), (draftq_settledOf, .inl (cI, 8, .inl z1.2.2.2.2.2.2.2.2.2.2.2.2.2.2.2.2)), (actsh, .inr (0, [.ref actsq_promiseOf, .ref actsq_waxOf, .ref actsq_panOf, .ref actsq_keepsOf, .int acts_oldest, .int acts_kept])), (actsq_promiseOf, .inl (cI, 24, .inl acts_promiseOf)), (actsq_waxOf, .inl (cI, 24, .inl acts_waxOf)), (actsq_panOf, .inl (cI, 24, .inl acts_panOf)), (actsq_keepsOf, .inl (cI, 24, .inl acts_keepsOf))]) H := hP
    have hD : va_D A ([(psh, .inr (6, [.ref rowsh, .ref tapeh, .ref nowh, .ref drafth, .ref trialh, .ref psq_images, .ref actsh, .ref sackh, .ref asksh, .int z1.1, .int ps_latestFinding])), (tapeh, .inr (5, [.ref tapeq_letters, .int z1.2.1, .int z1.2.2.1, .int z1.2.2.2.1])), (tapeq_letters, .inl (cI, 120, .inl tape_letters)), (nowh, .inr (4, [.int now_told, .int now_wax, .int now_stick, .int now_givers, .int now_promises, .int now_pan, .ref nowq_keeping, .ref nowq_giverOf, .ref nowq_deedOf, .ref nowq_dayOf, .ref nowq_likelyOf, .ref nowq_kindOf, .ref nowq_settledOf])), (nowq_keeping, .inl (cI, 4, .inl now_keeping)), (nowq_giverOf, .inl (cI, 8, .inl now_giverOf)), (nowq_deedOf, .inl (cI, 8, .inl now_deedOf)), (nowq_dayOf, .inl (cI, 8, .inl now_dayOf)), (nowq_likelyOf, .inl (cI, 8, .inl now_likelyOf)), (nowq_kindOf, .inl (cI, 8, .inl now_kindOf)), (nowq_settledOf, .inl (cI, 8, .inl now_settledOf)), (drafth, .inr (4, [.int z1.2.2.2.2.1, .int z1.2.2.2.2.2.1, .int z1.2.2.2.2.2.2.1, .int z1.2.2.2.2.2.2.2.1, .int z1.2.2.2.2.2.2.2.2.1, .int z1.2.2.2.2.2.2.2.2.2.1, .ref draftq_keeping, .ref draftq_giverOf, .ref draftq_deedOf, .ref draftq_dayOf, .ref draftq_likelyOf, .ref draftq_kindOf, .ref draftq_settledOf])), (draftq_keeping, .inl (cI, 4, .inl z1.2.2.2.2.2.2.2.2.2.2.1)), (draftq_giverOf, .inl (cI, 8, .inl z1.2.2.2.2.2.2.2.2.2.2.2.1)), (draftq_deedOf, .inl (cI, 8, .inl z1.2.2.2.2.2.2.2.2.2.2.2.2.1)), (draftq_dayOf, .inl (cI, 8, .inl z1.2.2.2.2.2.2.2.2.2.2.2.2.2.1)), (draftq_likelyOf, .inl (cI, 8, .inl z1.2.2.2.2.2.2.2.2.2.2.2.2.2.2.1)), (draftq_kindOf, .inl (cI, 8, .inl z1.2.2.2.2.2.2.2.2.2.2.2.2.2.2.2.1)), (draftq_settledOf, .inl (cI, 8, .inl z1.2.2.2.2.2.2.2.2.2.2.2.2.2.2.2.2)), (actsh, .inr (0, [.ref actsq_promiseOf, .ref actsq_waxOf, .ref actsq_panOf, .ref actsq_keepsOf, .int acts_oldest, .int acts_kept])), (actsq_promiseOf, .inl (cI, 24, .inl acts_promiseOf)), (actsq_waxOf, .inl (cI, 24, .inl acts_waxOf)), (actsq_panOf, .inl (cI, 24, .inl acts_panOf)), (actsq_keepsOf, .inl (cI, 24, .inl acts_keepsOf))]) := hD
    refine lv_ldc hx hb hown (hts (.constant RX6 118 (-1000100)) (by decide +kernel)) dX6_scales_21 ?_
    refine lv_aload_n hx hb dX6_scales_23 rfl (lv_at hl 1 rfl) ?_
    refine va_get (D := (dC, dI)) (ci := 6) (v := .ref tapeh) (C := RX6) (T := TX6) (N := 11) hx hb hts hin6 hown hK hP 0 rfl rfl 1 (by decide) k19 (fun _ h9 => h9) rfl dX6_scales_24 ?_
    obtain ⟨z5, hz5, hf⟩ := bs_b hf
    refine bs_cViR ⟨hx, hb, hml, hown, hts⟩ (k_X5_faultPlace l dC dI cI cZ cS cG tapeh tapeq_letters tape_letters z1.2.1 z1.2.2.1 z1.2.2.2.1 z5 hz5) (cwV 0 hts gX6_scales_X5_faultPlace rfl rfl rfl (by decide +kernel) ⟨Nat.le_of_ble_eq_true rfl, Nat.le_of_ble_eq_true rfl⟩) hE hP hD hA hS [1, 2] rfl rfl 5 0 rfl rfl rfl rfl hl.1 (Nat.le_of_ble_eq_true rfl) dX6_scales_27 (fun H locs hP hS => ?_)
    refine lv_isub hx hb dX6_scales_30 ?_
    obtain rfl := Option.some.inj hf
    exact hret H locs _ _ hP hS rfl dX6_scales_31
set_option maxHeartbeats 4000000 in
set_option maxRecDepth 100000 in
theorem k_X6_fault (l : Launch) (dC : Nat → ClassId) (dI : Nat → Nat → Nat) (cI cZ cS cG : ClassId) (psh : Nat) (rowsh : Nat) (tapeh : Nat) (nowh : Nat) (drafth : Nat) (trialh : Nat) (psq_images : Nat) (actsh : Nat) (sackh : Nat) (asksh : Nat) (ps_latestFault : Int32) (ps_latestFinding : Int32) (out : Int32) (hf : f_X6_fault ps_latestFault = some out) : bs_C l dC dI cI cZ cS cG yX6_fault wsX6_fault ({ frames := 0, cells := 0, slots := 0, locals := 0 } : Room) [.ref psh] ([(psh, .inr (6, [.ref rowsh, .ref tapeh, .ref nowh, .ref drafth, .ref trialh, .ref psq_images, .ref actsh, .ref sackh, .ref asksh, .int ps_latestFault, .int ps_latestFinding]))]) out ([(psh, .inr (6, [.ref rowsh, .ref tapeh, .ref nowh, .ref drafth, .ref trialh, .ref psq_images, .ref actsh, .ref sackh, .ref asksh, .int ps_latestFault, .int ps_latestFinding]))]) := by
  refine bs_ofI (cc := cX6_fault) (maxL := 1) (by decide) rfl (Nat.le_of_ble_eq_true rfl) ?_
  intro p e s m below meth c A Q hx hb hown hml hts hE H locs hP hD hA hS ls hl hret
  have hK := hE.1
  have hl : lv_has ls 1 [(0, .ref psh)] := hl
  have hin6 : ∀ w ∈ u_ws RX6 TX6 11, w ∈ wsX6_fault := by decide +kernel
  have k114 := hts (.fieldLink RX6 114 "PromiseScales" "latestFault" "I") (by decide +kernel)
  unfold f_X6_fault at hf
  refine lv_aload_n hx hb dX6_fault_0 rfl (lv_at hl 0 rfl) ?_
  refine va_get (D := (dC, dI)) (ci := 6) (v := .int ps_latestFault) (C := RX6) (T := TX6) (N := 11) hx hb hts hin6 hown hK hP 0 rfl rfl 9 (by decide) k114 (fun _ h9 => h9) rfl dX6_fault_1 ?_
  obtain rfl := Option.some.inj hf
  exact hret H locs _ _ hP hS rfl dX6_fault_4
set_option maxHeartbeats 4000000 in
set_option maxRecDepth 100000 in
theorem k_X6_isPromise (l : Launch) (dC : Nat → ClassId) (dI : Nat → Nat → Nat) (cI cZ cS cG : ClassId) (psh : Nat) (rowsh : Nat) (tapeh : Nat) (nowh : Nat) (drafth : Nat) (trialh : Nat) (psq_images : Nat) (actsh : Nat) (sackh : Nat) (asksh : Nat) (nowq_keeping : Nat) (nowq_giverOf : Nat) (nowq_deedOf : Nat) (nowq_dayOf : Nat) (nowq_likelyOf : Nat) (nowq_kindOf : Nat) (nowq_settledOf : Nat) (ps_latestFault : Int32) (ps_latestFinding : Int32) (now_told : Int32) (now_wax : Int32) (now_stick : Int32) (now_givers : Int32) (now_promises : Int32) (now_pan : Int32) (now_keeping : Nat → Int32) (now_giverOf : Nat → Int32) (now_deedOf : Nat → Int32) (now_dayOf : Nat → Int32) (now_likelyOf : Nat → Int32) (now_kindOf : Nat → Int32) (now_settledOf : Nat → Int32) (p1 : Int32) (out : Int32) (hf : f_X6_isPromise now_promises p1 = some out) : bs_C l dC dI cI cZ cS cG yX6_isPromise wsX6_isPromise ({ frames := 0, cells := 0, slots := 0, locals := 0 } : Room) [.ref psh, .int p1] ([(psh, .inr (6, [.ref rowsh, .ref tapeh, .ref nowh, .ref drafth, .ref trialh, .ref psq_images, .ref actsh, .ref sackh, .ref asksh, .int ps_latestFault, .int ps_latestFinding])), (nowh, .inr (4, [.int now_told, .int now_wax, .int now_stick, .int now_givers, .int now_promises, .int now_pan, .ref nowq_keeping, .ref nowq_giverOf, .ref nowq_deedOf, .ref nowq_dayOf, .ref nowq_likelyOf, .ref nowq_kindOf, .ref nowq_settledOf])), (nowq_keeping, .inl (cI, 4, .inl now_keeping)), (nowq_giverOf, .inl (cI, 8, .inl now_giverOf)), (nowq_deedOf, .inl (cI, 8, .inl now_deedOf)), (nowq_dayOf, .inl (cI, 8, .inl now_dayOf)), (nowq_likelyOf, .inl (cI, 8, .inl now_likelyOf)), (nowq_kindOf, .inl (cI, 8, .inl now_kindOf)), (nowq_settledOf, .inl (cI, 8, .inl now_settledOf))]) out ([(psh, .inr (6, [.ref rowsh, .ref tapeh, .ref nowh, .ref drafth, .ref trialh, .ref psq_images, .ref actsh, .ref sackh, .ref asksh, .int ps_latestFault, .int ps_latestFinding])), (nowh, .inr (4, [.int now_told, .int now_wax, .int now_stick, .int now_givers, .int now_promises, .int now_pan, .ref nowq_keeping, .ref nowq_giverOf, .ref nowq_deedOf, .ref nowq_dayOf, .ref nowq_likelyOf, .ref nowq_kindOf, .ref nowq_settledOf])), (nowq_keeping, .inl (cI, 4, .inl now_keeping)), (nowq_giverOf, .inl (cI, 8, .inl now_giverOf)), (nowq_deedOf, .inl (cI, 8, .inl now_deedOf)), (nowq_dayOf, .inl (cI, 8, .inl now_dayOf)), (nowq_likelyOf, .inl (cI, 8, .inl now_likelyOf)), (nowq_kindOf, .inl (cI, 8, .inl now_kindOf)), (nowq_settledOf, .inl (cI, 8, .inl now_settledOf))]) := by
  refine bs_ofI (cc := cX6_isPromise) (maxL := 2) (by decide) rfl (Nat.le_of_ble_eq_true rfl) ?_
  intro p e s m below meth c A Q hx hb hown hml hts hE H locs hP hD hA hS ls hl hret
  have hK := hE.1
  have hl : lv_has ls 2 [(0, .ref psh), (1, .int p1)] := hl
  have hin4 : ∀ w ∈ u_ws RX4 TX4 13, w ∈ wsX6_isPromise := by decide +kernel
  have hin6 : ∀ w ∈ u_ws RX6 TX6 11, w ∈ wsX6_isPromise := by decide +kernel
  have k26 := hts (.fieldLink RX6 26 "PromiseScales" "now" "LPromiseScales$Scales;") (by decide +kernel)
  have k130 := hts (.fieldLink RX6 130 "PromiseScales$Scales" "promises" "I") (by decide +kernel)
  unfold f_X6_isPromise at hf
  refine lv_iload_n hx hb dX6_isPromise_0 rfl (lv_at hl 1 rfl) ?_
  refine lv_if_lt (tgt := 19) hx hb dX6_isPromise_1 (by decide) (fun c1 => ?_) (fun c1 => ?_)
  · have hf := bs_t hf c1
    refine lv_iconst (v := 0) hx hb dX6_isPromise_19 (by decide) ?_
    obtain rfl := Option.some.inj hf
    exact hret H locs _ _ hP hS bs_n0 dX6_isPromise_20
  · have hf := bs_f hf c1
    refine lv_iload_n hx hb dX6_isPromise_4 rfl (lv_at hl 1 rfl) ?_
    refine lv_aload_n hx hb dX6_isPromise_5 rfl (lv_at hl 0 rfl) ?_
    refine va_get (D := (dC, dI)) (ci := 6) (v := .ref nowh) (C := RX6) (T := TX6) (N := 11) hx hb hts hin6 hown hK hP 0 rfl rfl 2 (by decide) k26 (fun _ h9 => h9) rfl dX6_isPromise_6 ?_
    refine va_get (D := (dC, dI)) (ci := 4) (v := .int now_promises) (C := RX4) (T := TX4) (N := 13) hx hb hts hin4 hown hK hP 1 rfl rfl 4 (by decide) k130 (fun _ h9 => h9) rfl dX6_isPromise_9 ?_
    refine lv_icmp_ge (tgt := 19) hx hb dX6_isPromise_12 (by decide) (fun c2 => ?_) (fun c2 => ?_)
    · have hf := bs_t hf c2
      refine lv_iconst (v := 0) hx hb dX6_isPromise_19 (by decide) ?_
      obtain rfl := Option.some.inj hf
      exact hret H locs _ _ hP hS bs_n0 dX6_isPromise_20
    · have hf := bs_f hf c2
      refine lv_iconst (v := 1) hx hb dX6_isPromise_15 (by decide) ?_
      refine lv_goto (tgt := 20) hx hb dX6_isPromise_16 (by decide) ?_
      obtain rfl := Option.some.inj hf
      exact hret H locs _ _ hP hS bs_n1 dX6_isPromise_20
set_option maxHeartbeats 4000000 in
set_option maxRecDepth 100000 in
theorem k_X6_isEither (l : Launch) (dC : Nat → ClassId) (dI : Nat → Nat → Nat) (cI cZ cS cG : ClassId) (p1 : Int32) (out : Int32) (hf : f_X6_isEither p1 = some out) : bs_C l dC dI cI cZ cS cG yX6_isEither wsX6_isEither ({ frames := 0, cells := 0, slots := 0, locals := 0 } : Room) [.int p1] ([]) out ([]) := by
  refine bs_ofI (cc := cX6_isEither) (maxL := 1) (by decide) rfl (Nat.le_of_ble_eq_true rfl) ?_
  intro p e s m below meth c A Q hx hb hown hml hts hE H locs hP hD hA hS ls hl hret
  have hK := hE.1
  have hl : lv_has ls 1 [(0, .int p1)] := hl
  unfold f_X6_isEither at hf
  refine lv_iload_n hx hb dX6_isEither_0 rfl (lv_at hl 0 rfl) ?_
  refine lv_if_eq (tgt := 9) hx hb dX6_isEither_1 (by decide) (fun c1 => ?_) (fun c1 => ?_)
  · have hf := bs_t hf c1
    refine lv_iconst (v := 1) hx hb dX6_isEither_9 (by decide) ?_
    refine lv_goto (tgt := 14) hx hb dX6_isEither_10 (by decide) ?_
    obtain rfl := Option.some.inj hf
    exact hret H locs _ _ hP hS bs_n1 dX6_isEither_14
  · have hf := bs_f hf c1
    refine lv_iload_n hx hb dX6_isEither_4 rfl (lv_at hl 0 rfl) ?_
    refine lv_iconst (v := 1) hx hb dX6_isEither_5 (by decide) ?_
    refine lv_icmp_ne (tgt := 13) hx hb dX6_isEither_6 (by decide) (fun c2 => ?_) (fun c2 => ?_)
    · have hf := bs_f hf c2
      refine lv_iconst (v := 0) hx hb dX6_isEither_13 (by decide) ?_
      obtain rfl := Option.some.inj hf
      exact hret H locs _ _ hP hS bs_n0 dX6_isEither_14
    · have hf := bs_t hf c2
      refine lv_iconst (v := 1) hx hb dX6_isEither_9 (by decide) ?_
      refine lv_goto (tgt := 14) hx hb dX6_isEither_10 (by decide) ?_
      obtain rfl := Option.some.inj hf
      exact hret H locs _ _ hP hS bs_n1 dX6_isEither_14
set_option maxHeartbeats 4000000 in
set_option maxRecDepth 100000 in
theorem k_X6_lay (l : Launch) (dC : Nat → ClassId) (dI : Nat → Nat → Nat) (cI cZ cS cG : ClassId) (psh : Nat) (rowsh : Nat) (tapeh : Nat) (nowh : Nat) (drafth : Nat) (trialh : Nat) (psq_images : Nat) (actsh : Nat) (sackh : Nat) (asksh : Nat) (nowq_keeping : Nat) (nowq_giverOf : Nat) (nowq_deedOf : Nat) (nowq_dayOf : Nat) (nowq_likelyOf : Nat) (nowq_kindOf : Nat) (nowq_settledOf : Nat) (actsq_promiseOf : Nat) (actsq_waxOf : Nat) (actsq_panOf : Nat) (actsq_keepsOf : Nat) (ps_latestFault : Int32) (ps_latestFinding : Int32) (now_told : Int32) (now_wax : Int32) (now_stick : Int32) (now_givers : Int32) (now_promises : Int32) (now_pan : Int32) (now_keeping : Nat → Int32) (now_giverOf : Nat → Int32) (now_deedOf : Nat → Int32) (now_dayOf : Nat → Int32) (now_likelyOf : Nat → Int32) (now_kindOf : Nat → Int32) (now_settledOf : Nat → Int32) (acts_promiseOf : Nat → Int32) (acts_waxOf : Nat → Int32) (acts_panOf : Nat → Int32) (acts_keepsOf : Nat → Int32) (acts_oldest : Int32) (acts_kept : Int32) (p1 : Int32) (p2 : Int32) (out : Int32 × Int32 × (Nat → Int32) × (Nat → Int32) × (Nat → Int32) × (Nat → Int32) × Int32 × Int32) (hf : f_X6_lay now_wax now_stick now_promises now_pan now_keeping now_giverOf now_likelyOf now_kindOf now_settledOf acts_promiseOf acts_waxOf acts_panOf acts_keepsOf acts_oldest acts_kept p1 p2 = some out) : bs_C l dC dI cI cZ cS cG yX6_lay wsX6_lay ({ frames := 4, cells := 0, slots := 0, locals := 92 } : Room) [.ref psh, .int p1, .int p2] ([(psh, .inr (6, [.ref rowsh, .ref tapeh, .ref nowh, .ref drafth, .ref trialh, .ref psq_images, .ref actsh, .ref sackh, .ref asksh, .int ps_latestFault, .int ps_latestFinding])), (nowh, .inr (4, [.int now_told, .int now_wax, .int now_stick, .int now_givers, .int now_promises, .int now_pan, .ref nowq_keeping, .ref nowq_giverOf, .ref nowq_deedOf, .ref nowq_dayOf, .ref nowq_likelyOf, .ref nowq_kindOf, .ref nowq_settledOf])), (nowq_keeping, .inl (cI, 4, .inl now_keeping)), (nowq_giverOf, .inl (cI, 8, .inl now_giverOf)), (nowq_deedOf, .inl (cI, 8, .inl now_deedOf)), (nowq_dayOf, .inl (cI, 8, .inl now_dayOf)), (nowq_likelyOf, .inl (cI, 8, .inl now_likelyOf)), (nowq_kindOf, .inl (cI, 8, .inl now_kindOf)), (nowq_settledOf, .inl (cI, 8, .inl now_settledOf)), (actsh, .inr (0, [.ref actsq_promiseOf, .ref actsq_waxOf, .ref actsq_panOf, .ref actsq_keepsOf, .int acts_oldest, .int acts_kept])), (actsq_promiseOf, .inl (cI, 24, .inl acts_promiseOf)), (actsq_waxOf, .inl (cI, 24, .inl acts_waxOf)), (actsq_panOf, .inl (cI, 24, .inl acts_panOf)), (actsq_keepsOf, .inl (cI, 24, .inl acts_keepsOf))]) out.1 ([(psh, .inr (6, [.ref rowsh, .ref tapeh, .ref nowh, .ref drafth, .ref trialh, .ref psq_images, .ref actsh, .ref sackh, .ref asksh, .int ps_latestFault, .int ps_latestFinding])), (nowh, .inr (4, [.int now_told, .int now_wax, .int now_stick, .int now_givers, .int now_promises, .int out.2.1, .ref nowq_keeping, .ref nowq_giverOf, .ref nowq_deedOf, .ref nowq_dayOf, .ref nowq_likelyOf, .ref nowq_kindOf, .ref nowq_settledOf])), (nowq_keeping, .inl (cI, 4, .inl now_keeping)), (nowq_giverOf, .inl (cI, 8, .inl now_giverOf)), (nowq_deedOf, .inl (cI, 8, .inl now_deedOf)), (nowq_dayOf, .inl (cI, 8, .inl now_dayOf)), (nowq_likelyOf, .inl (cI, 8, .inl now_likelyOf)), (nowq_kindOf, .inl (cI, 8, .inl now_kindOf)), (nowq_settledOf, .inl (cI, 8, .inl now_settledOf)), (actsh, .inr (0, [.ref actsq_promiseOf, .ref actsq_waxOf, .ref actsq_panOf, .ref actsq_keepsOf, .int out.2.2.2.2.2.2.1, .int out.2.2.2.2.2.2.2])), (actsq_promiseOf, .inl (cI, 24, .inl out.2.2.1)), (actsq_waxOf, .inl (cI, 24, .inl out.2.2.2.1)), (actsq_panOf, .inl (cI, 24, .inl out.2.2.2.2.1)), (actsq_keepsOf, .inl (cI, 24, .inl out.2.2.2.2.2.1))]) := by
  refine bs_ofI (cc := cX6_lay) (maxL := 3) (by decide) rfl (Nat.le_of_ble_eq_true rfl) ?_
  intro p e s m below meth c A Q hx hb hown hml hts hE H locs hP hD hA hS ls hl hret
  have hK := hE.1
  have hl : lv_has ls 3 [(0, .ref psh), (1, .int p1), (2, .int p2)] := hl
  have hin4 : ∀ w ∈ u_ws RX4 TX4 13, w ∈ wsX6_lay := by decide +kernel
  have hin6 : ∀ w ∈ u_ws RX6 TX6 11, w ∈ wsX6_lay := by decide +kernel
  have k26 := hts (.fieldLink RX6 26 "PromiseScales" "now" "LPromiseScales$Scales;") (by decide +kernel)
  have k43 := hts (.fieldLink RX6 43 "PromiseScales" "acts" "LPromiseScales$Acts;") (by decide +kernel)
  have k154 := hts (.fieldLink RX6 154 "PromiseScales$Scales" "pan" "I") (by decide +kernel)
  unfold f_X6_lay at hf
  refine lv_aload_n hx hb dX6_lay_0 rfl (lv_at hl 0 rfl) ?_
  refine lv_iload_n hx hb dX6_lay_1 rfl (lv_at hl 1 rfl) ?_
  obtain ⟨z1, hz1, hf⟩ := bs_b hf
  refine bs_cViR ⟨hx, hb, hml, hown, hts⟩ (k_X6_isPromise l dC dI cI cZ cS cG psh rowsh tapeh nowh drafth trialh psq_images actsh sackh asksh nowq_keeping nowq_giverOf nowq_deedOf nowq_dayOf nowq_likelyOf nowq_kindOf nowq_settledOf ps_latestFault ps_latestFinding now_told now_wax now_stick now_givers now_promises now_pan now_keeping now_giverOf now_deedOf now_dayOf now_likelyOf now_kindOf now_settledOf p1 z1 hz1) (cwV 1 hts gX6_lay_X6_isPromise rfl rfl rfl (by decide +kernel) ⟨Nat.le_of_ble_eq_true rfl, Nat.le_of_ble_eq_true rfl⟩) hE hP hD hA hS [0, 1, 2, 3, 4, 5, 6, 7, 8] rfl rfl 6 0 rfl rfl rfl rfl hl.1 (Nat.le_of_ble_eq_true rfl) dX6_lay_2 (fun H locs hP hS => ?_)
  refine lv_if_eq (tgt := 15) hx hb dX6_lay_5 (by decide) (fun c2 => ?_) (fun c2 => ?_)
  · have hf := bs_t hf c2
    refine lv_ldc hx hb hown (hts (.constant RX6 69 (-1000001)) (by decide +kernel)) dX6_lay_15 ?_
    obtain rfl := Option.some.inj hf
    exact hret H locs _ _ hP hS rfl dX6_lay_17
  · have hf := bs_f hf c2
    refine lv_iload_n hx hb dX6_lay_8 rfl (lv_at hl 2 rfl) ?_
    obtain ⟨z3, hz3, hf⟩ := bs_b hf
    refine bs_cSi ⟨hx, hb, hml, hown, hts⟩ (k_X6_isEither l dC dI cI cZ cS cG p2 z3 hz3) (va_cwS 1 hts gX6_lay_X6_isEither rfl rfl rfl (by decide +kernel) ⟨Nat.le_of_ble_eq_true rfl, Nat.le_of_ble_eq_true rfl⟩) hE hP hD hA hS rfl rfl hl.1 (Nat.le_of_ble_eq_true rfl) dX6_lay_9 (fun H locs hP hS => ?_)
    refine lv_if_ne (tgt := 18) hx hb dX6_lay_12 (by decide) (fun c4 => ?_) (fun c4 => ?_)
    · have hf := bs_f hf c4
      refine lv_aload_n hx hb dX6_lay_18 rfl (lv_at hl 0 rfl) ?_
      refine va_get (D := (dC, dI)) (ci := 6) (v := .ref nowh) (C := RX6) (T := TX6) (N := 11) hx hb hts hin6 hown hK hP 0 rfl rfl 2 (by decide) k26 (fun _ h9 => h9) rfl dX6_lay_19 ?_
      refine lv_iload_n hx hb dX6_lay_22 rfl (lv_at hl 1 rfl) ?_
      obtain ⟨z5, hz5, hf⟩ := bs_b hf
      refine bs_cViR ⟨hx, hb, hml, hown, hts⟩ (k_X4_isSettled l dC dI cI cZ cS cG nowh nowq_keeping nowq_giverOf nowq_deedOf nowq_dayOf nowq_likelyOf nowq_kindOf nowq_settledOf now_told now_wax now_stick now_givers now_promises now_pan now_keeping now_giverOf now_deedOf now_dayOf now_likelyOf now_kindOf now_settledOf p1 z5 hz5) (cwV 1 hts gX6_lay_X4_isSettled rfl rfl rfl (by decide +kernel) ⟨Nat.le_of_ble_eq_true rfl, Nat.le_of_ble_eq_true rfl⟩) hE hP hD hA hS [1, 2, 3, 4, 5, 6, 7, 8] rfl rfl 4 0 rfl rfl rfl rfl hl.1 (Nat.le_of_ble_eq_true rfl) dX6_lay_23 (fun H locs hP hS => ?_)
      refine lv_if_ne (tgt := 50) hx hb dX6_lay_26 (by decide) (fun c6 => ?_) (fun c6 => ?_)
      · have hf := bs_f hf c6
        refine lv_ldc hx hb hown (hts (.constant RX6 145 (-1000002)) (by decide +kernel)) dX6_lay_50 ?_
        obtain rfl := Option.some.inj hf
        exact hret H locs _ _ hP hS rfl dX6_lay_52
      · have hf := bs_t hf c6
        refine lv_aload_n hx hb dX6_lay_29 rfl (lv_at hl 0 rfl) ?_
        refine va_get (D := (dC, dI)) (ci := 6) (v := .ref nowh) (C := RX6) (T := TX6) (N := 11) hx hb hts hin6 hown hK hP 0 rfl rfl 2 (by decide) k26 (fun _ h9 => h9) rfl dX6_lay_30 ?_
        refine lv_iload_n hx hb dX6_lay_33 rfl (lv_at hl 1 rfl) ?_
        obtain ⟨z7, hz7, hf⟩ := bs_b hf
        refine bs_cViR ⟨hx, hb, hml, hown, hts⟩ (k_X4_isLaid l dC dI cI cZ cS cG nowh nowq_keeping nowq_giverOf nowq_deedOf nowq_dayOf nowq_likelyOf nowq_kindOf nowq_settledOf now_told now_wax now_stick now_givers now_promises now_pan now_keeping now_giverOf now_deedOf now_dayOf now_likelyOf now_kindOf now_settledOf p1 z7 hz7) (cwV 1 hts gX6_lay_X4_isLaid rfl rfl rfl (by decide +kernel) ⟨Nat.le_of_ble_eq_true rfl, Nat.le_of_ble_eq_true rfl⟩) hE hP hD hA hS [1, 2, 3, 4, 5, 6, 7, 8] rfl rfl 4 0 rfl rfl rfl rfl hl.1 (Nat.le_of_ble_eq_true rfl) dX6_lay_34 (fun H locs hP hS => ?_)
        refine lv_iload_n hx hb dX6_lay_37 rfl (lv_at hl 2 rfl) ?_
        refine lv_iconst (v := 1) hx hb dX6_lay_38 (by decide) ?_
        refine lv_icmp_ne (tgt := 46) hx hb dX6_lay_39 (by decide) (fun c8 => ?_) (fun c8 => ?_)
        · have hf := bs_f hf c8
          refine lv_iconst (v := 0) hx hb dX6_lay_46 (by decide) ?_
          refine lv_icmp_ne (tgt := 53) hx hb dX6_lay_47 (by decide) (fun c9 => ?_) (fun c9 => ?_)
          · have hf := bs_f hf c9
            refine lv_aload_n hx hb dX6_lay_53 rfl (lv_at hl 0 rfl) ?_
            refine va_get (D := (dC, dI)) (ci := 6) (v := .ref actsh) (C := RX6) (T := TX6) (N := 11) hx hb hts hin6 hown hK hP 0 rfl rfl 6 (by decide) k43 (fun _ h9 => h9) rfl dX6_lay_54 ?_
            refine lv_aload_n hx hb dX6_lay_57 rfl (lv_at hl 0 rfl) ?_
            refine va_get (D := (dC, dI)) (ci := 6) (v := .ref nowh) (C := RX6) (T := TX6) (N := 11) hx hb hts hin6 hown hK hP 0 rfl rfl 2 (by decide) k26 (fun _ h9 => h9) rfl dX6_lay_58 ?_
            refine lv_iload_n hx hb dX6_lay_61 rfl (lv_at hl 1 rfl) ?_
            obtain ⟨z10, hz10, hf⟩ := bs_b hf
            refine bs_cVv (ws1 := [(psh, .inr (6, [.ref rowsh, .ref tapeh, .ref nowh, .ref drafth, .ref trialh, .ref psq_images, .ref actsh, .ref sackh, .ref asksh, .int ps_latestFault, .int ps_latestFinding])), (nowh, .inr (4, [.int now_told, .int now_wax, .int now_stick, .int now_givers, .int now_promises, .int now_pan, .ref nowq_keeping, .ref nowq_giverOf, .ref nowq_deedOf, .ref nowq_dayOf, .ref nowq_likelyOf, .ref nowq_kindOf, .ref nowq_settledOf])), (nowq_keeping, .inl (cI, 4, .inl now_keeping)), (nowq_giverOf, .inl (cI, 8, .inl now_giverOf)), (nowq_deedOf, .inl (cI, 8, .inl now_deedOf)), (nowq_dayOf, .inl (cI, 8, .inl now_dayOf)), (nowq_likelyOf, .inl (cI, 8, .inl now_likelyOf)), (nowq_kindOf, .inl (cI, 8, .inl now_kindOf)), (nowq_settledOf, .inl (cI, 8, .inl now_settledOf)), (actsh, .inr (0, [.ref actsq_promiseOf, .ref actsq_waxOf, .ref actsq_panOf, .ref actsq_keepsOf, .int z10.2.2.2.2.1, .int z10.2.2.2.2.2])), (actsq_promiseOf, .inl (cI, 24, .inl z10.1)), (actsq_waxOf, .inl (cI, 24, .inl z10.2.1)), (actsq_panOf, .inl (cI, 24, .inl z10.2.2.1)), (actsq_keepsOf, .inl (cI, 24, .inl z10.2.2.2.1))]) ⟨hx, hb, hml, hown, hts⟩ (k_X0_remember l dC dI cI cZ cS cG actsh actsq_promiseOf actsq_waxOf actsq_panOf actsq_keepsOf nowh nowq_keeping nowq_giverOf nowq_deedOf nowq_dayOf nowq_likelyOf nowq_kindOf nowq_settledOf acts_promiseOf acts_waxOf acts_panOf acts_keepsOf acts_oldest acts_kept now_told now_wax now_stick now_givers now_promises now_pan now_keeping now_giverOf now_deedOf now_dayOf now_likelyOf now_kindOf now_settledOf p1 z10 hz10) (cwV 2 hts gX6_lay_X0_remember rfl rfl rfl (by decide +kernel) ⟨Nat.le_of_ble_eq_true rfl, Nat.le_of_ble_eq_true rfl⟩) hE hP hD hA hS [9, 10, 11, 12, 13, 1, 2, 3, 4, 5, 6, 7, 8] rfl rfl 0 0 rfl rfl rfl rfl rfl rfl rfl hl.1 (Nat.le_of_ble_eq_true rfl) dX6_lay_62 (fun H locs hP hD hS => ?_)
            refine lv_aload_n hx hb dX6_lay_65 rfl (lv_at hl 0 rfl) ?_
            refine va_get (D := (dC, dI)) (ci := 6) (v := .ref nowh) (C := RX6) (T := TX6) (N := 11) hx hb hts hin6 hown hK hP 0 rfl rfl 2 (by decide) k26 (fun _ h9 => h9) rfl dX6_lay_66 ?_
            refine lv_iload_n hx hb dX6_lay_69 rfl (lv_at hl 1 rfl) ?_
            obtain ⟨z11, hz11, hf⟩ := bs_b hf
            refine bs_cVv (ws1 := [(psh, .inr (6, [.ref rowsh, .ref tapeh, .ref nowh, .ref drafth, .ref trialh, .ref psq_images, .ref actsh, .ref sackh, .ref asksh, .int ps_latestFault, .int ps_latestFinding])), (nowh, .inr (4, [.int now_told, .int now_wax, .int now_stick, .int now_givers, .int now_promises, .int z11, .ref nowq_keeping, .ref nowq_giverOf, .ref nowq_deedOf, .ref nowq_dayOf, .ref nowq_likelyOf, .ref nowq_kindOf, .ref nowq_settledOf])), (nowq_keeping, .inl (cI, 4, .inl now_keeping)), (nowq_giverOf, .inl (cI, 8, .inl now_giverOf)), (nowq_deedOf, .inl (cI, 8, .inl now_deedOf)), (nowq_dayOf, .inl (cI, 8, .inl now_dayOf)), (nowq_likelyOf, .inl (cI, 8, .inl now_likelyOf)), (nowq_kindOf, .inl (cI, 8, .inl now_kindOf)), (nowq_settledOf, .inl (cI, 8, .inl now_settledOf)), (actsh, .inr (0, [.ref actsq_promiseOf, .ref actsq_waxOf, .ref actsq_panOf, .ref actsq_keepsOf, .int z10.2.2.2.2.1, .int z10.2.2.2.2.2])), (actsq_promiseOf, .inl (cI, 24, .inl z10.1)), (actsq_waxOf, .inl (cI, 24, .inl z10.2.1)), (actsq_panOf, .inl (cI, 24, .inl z10.2.2.1)), (actsq_keepsOf, .inl (cI, 24, .inl z10.2.2.2.1))]) ⟨hx, hb, hml, hown, hts⟩ (k_X4_turn l dC dI cI cZ cS cG nowh nowq_keeping nowq_giverOf nowq_deedOf nowq_dayOf nowq_likelyOf nowq_kindOf nowq_settledOf now_told now_wax now_stick now_givers now_promises now_pan now_keeping now_giverOf now_deedOf now_dayOf now_likelyOf now_kindOf now_settledOf p1 z11 hz11) (cwV 1 hts gX6_lay_X4_turn rfl rfl rfl (by decide +kernel) ⟨Nat.le_of_ble_eq_true rfl, Nat.le_of_ble_eq_true rfl⟩) hE hP hD hA hS [1, 2, 3, 4, 5, 6, 7, 8] rfl rfl 4 0 rfl rfl rfl rfl rfl rfl rfl hl.1 (Nat.le_of_ble_eq_true rfl) dX6_lay_70 (fun H locs hP hD hS => ?_)
            refine lv_aload_n hx hb dX6_lay_73 rfl (lv_at hl 0 rfl) ?_
            refine va_get (D := (dC, dI)) (ci := 6) (v := .ref nowh) (C := RX6) (T := TX6) (N := 11) hx hb hts hin6 hown hK hP 0 rfl rfl 2 (by decide) k26 (fun _ h9 => h9) rfl dX6_lay_74 ?_
            refine lv_aload_n hx hb dX6_lay_77 rfl (lv_at hl 0 rfl) ?_
            refine va_get (D := (dC, dI)) (ci := 6) (v := .ref nowh) (C := RX6) (T := TX6) (N := 11) hx hb hts hin6 hown hK hP 0 rfl rfl 2 (by decide) k26 (fun _ h9 => h9) rfl dX6_lay_78 ?_
            refine va_get (D := (dC, dI)) (ci := 4) (v := .int z11) (C := RX4) (T := TX4) (N := 13) hx hb hts hin4 hown hK hP 1 rfl rfl 5 (by decide) k154 (fun _ h9 => h9) rfl dX6_lay_81 ?_
            obtain ⟨z12, hz12, hf⟩ := bs_b hf
            refine bs_cViR ⟨hx, hb, hml, hown, hts⟩ (k_X4_readingOf l dC dI cI cZ cS cG nowh nowq_keeping nowq_giverOf nowq_deedOf nowq_dayOf nowq_likelyOf nowq_kindOf nowq_settledOf now_told now_wax now_stick now_givers now_promises z11 now_keeping now_giverOf now_deedOf now_dayOf now_likelyOf now_kindOf now_settledOf z11 z12 hz12) (cwV 1 hts gX6_lay_X4_readingOf rfl rfl rfl (by decide +kernel) ⟨Nat.le_of_ble_eq_true rfl, Nat.le_of_ble_eq_true rfl⟩) hE hP hD hA hS [1, 2, 3, 4, 5, 6, 7, 8] rfl rfl 4 0 rfl rfl rfl rfl hl.1 (Nat.le_of_ble_eq_true rfl) dX6_lay_84 (fun H locs hP hS => ?_)
            obtain rfl := Option.some.inj hf
            exact hret H locs _ _ hP hS rfl dX6_lay_87
          · have hf := bs_t hf c9
            refine lv_ldc hx hb hown (hts (.constant RX6 145 (-1000002)) (by decide +kernel)) dX6_lay_50 ?_
            obtain rfl := Option.some.inj hf
            exact hret H locs _ _ hP hS rfl dX6_lay_52
        · have hf := bs_t hf c8
          refine lv_iconst (v := 1) hx hb dX6_lay_42 (by decide) ?_
          refine lv_goto (tgt := 47) hx hb dX6_lay_43 (by decide) ?_
          refine lv_icmp_ne (tgt := 53) hx hb dX6_lay_47 (by decide) (fun c13 => ?_) (fun c13 => ?_)
          · have hf := bs_f hf c13
            refine lv_aload_n hx hb dX6_lay_53 rfl (lv_at hl 0 rfl) ?_
            refine va_get (D := (dC, dI)) (ci := 6) (v := .ref actsh) (C := RX6) (T := TX6) (N := 11) hx hb hts hin6 hown hK hP 0 rfl rfl 6 (by decide) k43 (fun _ h9 => h9) rfl dX6_lay_54 ?_
            refine lv_aload_n hx hb dX6_lay_57 rfl (lv_at hl 0 rfl) ?_
            refine va_get (D := (dC, dI)) (ci := 6) (v := .ref nowh) (C := RX6) (T := TX6) (N := 11) hx hb hts hin6 hown hK hP 0 rfl rfl 2 (by decide) k26 (fun _ h9 => h9) rfl dX6_lay_58 ?_
            refine lv_iload_n hx hb dX6_lay_61 rfl (lv_at hl 1 rfl) ?_
            obtain ⟨z14, hz14, hf⟩ := bs_b hf
            refine bs_cVv (ws1 := [(psh, .inr (6, [.ref rowsh, .ref tapeh, .ref nowh, .ref drafth, .ref trialh, .ref psq_images, .ref actsh, .ref sackh, .ref asksh, .int ps_latestFault, .int ps_latestFinding])), (nowh, .inr (4, [.int now_told, .int now_wax, .int now_stick, .int now_givers, .int now_promises, .int now_pan, .ref nowq_keeping, .ref nowq_giverOf, .ref nowq_deedOf, .ref nowq_dayOf, .ref nowq_likelyOf, .ref nowq_kindOf, .ref nowq_settledOf])), (nowq_keeping, .inl (cI, 4, .inl now_keeping)), (nowq_giverOf, .inl (cI, 8, .inl now_giverOf)), (nowq_deedOf, .inl (cI, 8, .inl now_deedOf)), (nowq_dayOf, .inl (cI, 8, .inl now_dayOf)), (nowq_likelyOf, .inl (cI, 8, .inl now_likelyOf)), (nowq_kindOf, .inl (cI, 8, .inl now_kindOf)), (nowq_settledOf, .inl (cI, 8, .inl now_settledOf)), (actsh, .inr (0, [.ref actsq_promiseOf, .ref actsq_waxOf, .ref actsq_panOf, .ref actsq_keepsOf, .int z14.2.2.2.2.1, .int z14.2.2.2.2.2])), (actsq_promiseOf, .inl (cI, 24, .inl z14.1)), (actsq_waxOf, .inl (cI, 24, .inl z14.2.1)), (actsq_panOf, .inl (cI, 24, .inl z14.2.2.1)), (actsq_keepsOf, .inl (cI, 24, .inl z14.2.2.2.1))]) ⟨hx, hb, hml, hown, hts⟩ (k_X0_remember l dC dI cI cZ cS cG actsh actsq_promiseOf actsq_waxOf actsq_panOf actsq_keepsOf nowh nowq_keeping nowq_giverOf nowq_deedOf nowq_dayOf nowq_likelyOf nowq_kindOf nowq_settledOf acts_promiseOf acts_waxOf acts_panOf acts_keepsOf acts_oldest acts_kept now_told now_wax now_stick now_givers now_promises now_pan now_keeping now_giverOf now_deedOf now_dayOf now_likelyOf now_kindOf now_settledOf p1 z14 hz14) (cwV 2 hts gX6_lay_X0_remember rfl rfl rfl (by decide +kernel) ⟨Nat.le_of_ble_eq_true rfl, Nat.le_of_ble_eq_true rfl⟩) hE hP hD hA hS [9, 10, 11, 12, 13, 1, 2, 3, 4, 5, 6, 7, 8] rfl rfl 0 0 rfl rfl rfl rfl rfl rfl rfl hl.1 (Nat.le_of_ble_eq_true rfl) dX6_lay_62 (fun H locs hP hD hS => ?_)
            refine lv_aload_n hx hb dX6_lay_65 rfl (lv_at hl 0 rfl) ?_
            refine va_get (D := (dC, dI)) (ci := 6) (v := .ref nowh) (C := RX6) (T := TX6) (N := 11) hx hb hts hin6 hown hK hP 0 rfl rfl 2 (by decide) k26 (fun _ h9 => h9) rfl dX6_lay_66 ?_
            refine lv_iload_n hx hb dX6_lay_69 rfl (lv_at hl 1 rfl) ?_
            obtain ⟨z15, hz15, hf⟩ := bs_b hf
            refine bs_cVv (ws1 := [(psh, .inr (6, [.ref rowsh, .ref tapeh, .ref nowh, .ref drafth, .ref trialh, .ref psq_images, .ref actsh, .ref sackh, .ref asksh, .int ps_latestFault, .int ps_latestFinding])), (nowh, .inr (4, [.int now_told, .int now_wax, .int now_stick, .int now_givers, .int now_promises, .int z15, .ref nowq_keeping, .ref nowq_giverOf, .ref nowq_deedOf, .ref nowq_dayOf, .ref nowq_likelyOf, .ref nowq_kindOf, .ref nowq_settledOf])), (nowq_keeping, .inl (cI, 4, .inl now_keeping)), (nowq_giverOf, .inl (cI, 8, .inl now_giverOf)), (nowq_deedOf, .inl (cI, 8, .inl now_deedOf)), (nowq_dayOf, .inl (cI, 8, .inl now_dayOf)), (nowq_likelyOf, .inl (cI, 8, .inl now_likelyOf)), (nowq_kindOf, .inl (cI, 8, .inl now_kindOf)), (nowq_settledOf, .inl (cI, 8, .inl now_settledOf)), (actsh, .inr (0, [.ref actsq_promiseOf, .ref actsq_waxOf, .ref actsq_panOf, .ref actsq_keepsOf, .int z14.2.2.2.2.1, .int z14.2.2.2.2.2])), (actsq_promiseOf, .inl (cI, 24, .inl z14.1)), (actsq_waxOf, .inl (cI, 24, .inl z14.2.1)), (actsq_panOf, .inl (cI, 24, .inl z14.2.2.1)), (actsq_keepsOf, .inl (cI, 24, .inl z14.2.2.2.1))]) ⟨hx, hb, hml, hown, hts⟩ (k_X4_turn l dC dI cI cZ cS cG nowh nowq_keeping nowq_giverOf nowq_deedOf nowq_dayOf nowq_likelyOf nowq_kindOf nowq_settledOf now_told now_wax now_stick now_givers now_promises now_pan now_keeping now_giverOf now_deedOf now_dayOf now_likelyOf now_kindOf now_settledOf p1 z15 hz15) (cwV 1 hts gX6_lay_X4_turn rfl rfl rfl (by decide +kernel) ⟨Nat.le_of_ble_eq_true rfl, Nat.le_of_ble_eq_true rfl⟩) hE hP hD hA hS [1, 2, 3, 4, 5, 6, 7, 8] rfl rfl 4 0 rfl rfl rfl rfl rfl rfl rfl hl.1 (Nat.le_of_ble_eq_true rfl) dX6_lay_70 (fun H locs hP hD hS => ?_)
            refine lv_aload_n hx hb dX6_lay_73 rfl (lv_at hl 0 rfl) ?_
            refine va_get (D := (dC, dI)) (ci := 6) (v := .ref nowh) (C := RX6) (T := TX6) (N := 11) hx hb hts hin6 hown hK hP 0 rfl rfl 2 (by decide) k26 (fun _ h9 => h9) rfl dX6_lay_74 ?_
            refine lv_aload_n hx hb dX6_lay_77 rfl (lv_at hl 0 rfl) ?_
            refine va_get (D := (dC, dI)) (ci := 6) (v := .ref nowh) (C := RX6) (T := TX6) (N := 11) hx hb hts hin6 hown hK hP 0 rfl rfl 2 (by decide) k26 (fun _ h9 => h9) rfl dX6_lay_78 ?_
            refine va_get (D := (dC, dI)) (ci := 4) (v := .int z15) (C := RX4) (T := TX4) (N := 13) hx hb hts hin4 hown hK hP 1 rfl rfl 5 (by decide) k154 (fun _ h9 => h9) rfl dX6_lay_81 ?_
            obtain ⟨z16, hz16, hf⟩ := bs_b hf
            refine bs_cViR ⟨hx, hb, hml, hown, hts⟩ (k_X4_readingOf l dC dI cI cZ cS cG nowh nowq_keeping nowq_giverOf nowq_deedOf nowq_dayOf nowq_likelyOf nowq_kindOf nowq_settledOf now_told now_wax now_stick now_givers now_promises z15 now_keeping now_giverOf now_deedOf now_dayOf now_likelyOf now_kindOf now_settledOf z15 z16 hz16) (cwV 1 hts gX6_lay_X4_readingOf rfl rfl rfl (by decide +kernel) ⟨Nat.le_of_ble_eq_true rfl, Nat.le_of_ble_eq_true rfl⟩) hE hP hD hA hS [1, 2, 3, 4, 5, 6, 7, 8] rfl rfl 4 0 rfl rfl rfl rfl hl.1 (Nat.le_of_ble_eq_true rfl) dX6_lay_84 (fun H locs hP hS => ?_)
            obtain rfl := Option.some.inj hf
            exact hret H locs _ _ hP hS rfl dX6_lay_87
          · have hf := bs_t hf c13
            refine lv_ldc hx hb hown (hts (.constant RX6 145 (-1000002)) (by decide +kernel)) dX6_lay_50 ?_
            obtain rfl := Option.some.inj hf
            exact hret H locs _ _ hP hS rfl dX6_lay_52
    · have hf := bs_t hf c4
      refine lv_ldc hx hb hown (hts (.constant RX6 69 (-1000001)) (by decide +kernel)) dX6_lay_15 ?_
      obtain rfl := Option.some.inj hf
      exact hret H locs _ _ hP hS rfl dX6_lay_17
set_option maxHeartbeats 4000000 in
set_option maxRecDepth 100000 in
theorem k_X6_settle (l : Launch) (dC : Nat → ClassId) (dI : Nat → Nat → Nat) (cI cZ cS cG : ClassId) (psh : Nat) (rowsh : Nat) (tapeh : Nat) (nowh : Nat) (drafth : Nat) (trialh : Nat) (psq_images : Nat) (actsh : Nat) (sackh : Nat) (asksh : Nat) (nowq_keeping : Nat) (nowq_giverOf : Nat) (nowq_deedOf : Nat) (nowq_dayOf : Nat) (nowq_likelyOf : Nat) (nowq_kindOf : Nat) (nowq_settledOf : Nat) (actsq_promiseOf : Nat) (actsq_waxOf : Nat) (actsq_panOf : Nat) (actsq_keepsOf : Nat) (ps_latestFault : Int32) (ps_latestFinding : Int32) (now_told : Int32) (now_wax : Int32) (now_stick : Int32) (now_givers : Int32) (now_promises : Int32) (now_pan : Int32) (now_keeping : Nat → Int32) (now_giverOf : Nat → Int32) (now_deedOf : Nat → Int32) (now_dayOf : Nat → Int32) (now_likelyOf : Nat → Int32) (now_kindOf : Nat → Int32) (now_settledOf : Nat → Int32) (acts_promiseOf : Nat → Int32) (acts_waxOf : Nat → Int32) (acts_panOf : Nat → Int32) (acts_keepsOf : Nat → Int32) (acts_oldest : Int32) (acts_kept : Int32) (p1 : Int32) (p2 : Int32) (out : Int32 × Int32 × (Nat → Int32) × (Nat → Int32) × (Nat → Int32) × (Nat → Int32) × (Nat → Int32) × (Nat → Int32) × Int32 × Int32) (hf : f_X6_settle now_wax now_promises now_pan now_keeping now_giverOf now_settledOf acts_promiseOf acts_waxOf acts_panOf acts_keepsOf acts_oldest acts_kept p1 p2 = some out) : bs_C l dC dI cI cZ cS cG yX6_settle wsX6_settle ({ frames := 2, cells := 0, slots := 0, locals := 44 } : Room) [.ref psh, .int p1, .int p2] ([(psh, .inr (6, [.ref rowsh, .ref tapeh, .ref nowh, .ref drafth, .ref trialh, .ref psq_images, .ref actsh, .ref sackh, .ref asksh, .int ps_latestFault, .int ps_latestFinding])), (nowh, .inr (4, [.int now_told, .int now_wax, .int now_stick, .int now_givers, .int now_promises, .int now_pan, .ref nowq_keeping, .ref nowq_giverOf, .ref nowq_deedOf, .ref nowq_dayOf, .ref nowq_likelyOf, .ref nowq_kindOf, .ref nowq_settledOf])), (nowq_keeping, .inl (cI, 4, .inl now_keeping)), (nowq_giverOf, .inl (cI, 8, .inl now_giverOf)), (nowq_deedOf, .inl (cI, 8, .inl now_deedOf)), (nowq_dayOf, .inl (cI, 8, .inl now_dayOf)), (nowq_likelyOf, .inl (cI, 8, .inl now_likelyOf)), (nowq_kindOf, .inl (cI, 8, .inl now_kindOf)), (nowq_settledOf, .inl (cI, 8, .inl now_settledOf)), (actsh, .inr (0, [.ref actsq_promiseOf, .ref actsq_waxOf, .ref actsq_panOf, .ref actsq_keepsOf, .int acts_oldest, .int acts_kept])), (actsq_promiseOf, .inl (cI, 24, .inl acts_promiseOf)), (actsq_waxOf, .inl (cI, 24, .inl acts_waxOf)), (actsq_panOf, .inl (cI, 24, .inl acts_panOf)), (actsq_keepsOf, .inl (cI, 24, .inl acts_keepsOf))]) out.1 ([(psh, .inr (6, [.ref rowsh, .ref tapeh, .ref nowh, .ref drafth, .ref trialh, .ref psq_images, .ref actsh, .ref sackh, .ref asksh, .int ps_latestFault, .int ps_latestFinding])), (nowh, .inr (4, [.int now_told, .int now_wax, .int now_stick, .int now_givers, .int now_promises, .int out.2.1, .ref nowq_keeping, .ref nowq_giverOf, .ref nowq_deedOf, .ref nowq_dayOf, .ref nowq_likelyOf, .ref nowq_kindOf, .ref nowq_settledOf])), (nowq_keeping, .inl (cI, 4, .inl out.2.2.1)), (nowq_giverOf, .inl (cI, 8, .inl now_giverOf)), (nowq_deedOf, .inl (cI, 8, .inl now_deedOf)), (nowq_dayOf, .inl (cI, 8, .inl now_dayOf)), (nowq_likelyOf, .inl (cI, 8, .inl now_likelyOf)), (nowq_kindOf, .inl (cI, 8, .inl now_kindOf)), (nowq_settledOf, .inl (cI, 8, .inl out.2.2.2.1)), (actsh, .inr (0, [.ref actsq_promiseOf, .ref actsq_waxOf, .ref actsq_panOf, .ref actsq_keepsOf, .int out.2.2.2.2.2.2.2.2.1, .int out.2.2.2.2.2.2.2.2.2])), (actsq_promiseOf, .inl (cI, 24, .inl out.2.2.2.2.1)), (actsq_waxOf, .inl (cI, 24, .inl out.2.2.2.2.2.1)), (actsq_panOf, .inl (cI, 24, .inl out.2.2.2.2.2.2.1)), (actsq_keepsOf, .inl (cI, 24, .inl out.2.2.2.2.2.2.2.1))]) := by
  refine bs_ofI (cc := cX6_settle) (maxL := 3) (by decide) rfl (Nat.le_of_ble_eq_true rfl) ?_
  intro p e s m below meth c A Q hx hb hown hml hts hE H locs hP hD hA hS ls hl hret
  have hK := hE.1
  have hl : lv_has ls 3 [(0, .ref psh), (1, .int p1), (2, .int p2)] := hl
  have hin4 : ∀ w ∈ u_ws RX4 TX4 13, w ∈ wsX6_settle := by decide +kernel
  have hin6 : ∀ w ∈ u_ws RX6 TX6 11, w ∈ wsX6_settle := by decide +kernel
  have k26 := hts (.fieldLink RX6 26 "PromiseScales" "now" "LPromiseScales$Scales;") (by decide +kernel)
  have k43 := hts (.fieldLink RX6 43 "PromiseScales" "acts" "LPromiseScales$Acts;") (by decide +kernel)
  have k164 := hts (.fieldLink RX6 164 "PromiseScales$Scales" "keeping" "[I") (by decide +kernel)
  have k168 := hts (.fieldLink RX6 168 "PromiseScales$Scales" "giverOf" "[I") (by decide +kernel)
  unfold f_X6_settle at hf
  refine lv_aload_n hx hb dX6_settle_0 rfl (lv_at hl 0 rfl) ?_
  refine lv_iload_n hx hb dX6_settle_1 rfl (lv_at hl 1 rfl) ?_
  obtain ⟨z1, hz1, hf⟩ := bs_b hf
  refine bs_cViR ⟨hx, hb, hml, hown, hts⟩ (k_X6_isPromise l dC dI cI cZ cS cG psh rowsh tapeh nowh drafth trialh psq_images actsh sackh asksh nowq_keeping nowq_giverOf nowq_deedOf nowq_dayOf nowq_likelyOf nowq_kindOf nowq_settledOf ps_latestFault ps_latestFinding now_told now_wax now_stick now_givers now_promises now_pan now_keeping now_giverOf now_deedOf now_dayOf now_likelyOf now_kindOf now_settledOf p1 z1 hz1) (cwV 1 hts gX6_settle_X6_isPromise rfl rfl rfl (by decide +kernel) ⟨Nat.le_of_ble_eq_true rfl, Nat.le_of_ble_eq_true rfl⟩) hE hP hD hA hS [0, 1, 2, 3, 4, 5, 6, 7, 8] rfl rfl 6 0 rfl rfl rfl rfl hl.1 (Nat.le_of_ble_eq_true rfl) dX6_settle_2 (fun H locs hP hS => ?_)
  refine lv_if_eq (tgt := 15) hx hb dX6_settle_5 (by decide) (fun c2 => ?_) (fun c2 => ?_)
  · have hf := bs_t hf c2
    refine lv_ldc hx hb hown (hts (.constant RX6 69 (-1000001)) (by decide +kernel)) dX6_settle_15 ?_
    obtain rfl := Option.some.inj hf
    exact hret H locs _ _ hP hS rfl dX6_settle_17
  · have hf := bs_f hf c2
    refine lv_iload_n hx hb dX6_settle_8 rfl (lv_at hl 2 rfl) ?_
    obtain ⟨z3, hz3, hf⟩ := bs_b hf
    refine bs_cSi ⟨hx, hb, hml, hown, hts⟩ (k_X6_isEither l dC dI cI cZ cS cG p2 z3 hz3) (va_cwS 1 hts gX6_settle_X6_isEither rfl rfl rfl (by decide +kernel) ⟨Nat.le_of_ble_eq_true rfl, Nat.le_of_ble_eq_true rfl⟩) hE hP hD hA hS rfl rfl hl.1 (Nat.le_of_ble_eq_true rfl) dX6_settle_9 (fun H locs hP hS => ?_)
    refine lv_if_ne (tgt := 18) hx hb dX6_settle_12 (by decide) (fun c4 => ?_) (fun c4 => ?_)
    · have hf := bs_f hf c4
      refine lv_aload_n hx hb dX6_settle_18 rfl (lv_at hl 0 rfl) ?_
      refine va_get (D := (dC, dI)) (ci := 6) (v := .ref nowh) (C := RX6) (T := TX6) (N := 11) hx hb hts hin6 hown hK hP 0 rfl rfl 2 (by decide) k26 (fun _ h9 => h9) rfl dX6_settle_19 ?_
      refine lv_iload_n hx hb dX6_settle_22 rfl (lv_at hl 1 rfl) ?_
      obtain ⟨z5, hz5, hf⟩ := bs_b hf
      refine bs_cViR ⟨hx, hb, hml, hown, hts⟩ (k_X4_isSettled l dC dI cI cZ cS cG nowh nowq_keeping nowq_giverOf nowq_deedOf nowq_dayOf nowq_likelyOf nowq_kindOf nowq_settledOf now_told now_wax now_stick now_givers now_promises now_pan now_keeping now_giverOf now_deedOf now_dayOf now_likelyOf now_kindOf now_settledOf p1 z5 hz5) (cwV 1 hts gX6_settle_X4_isSettled rfl rfl rfl (by decide +kernel) ⟨Nat.le_of_ble_eq_true rfl, Nat.le_of_ble_eq_true rfl⟩) hE hP hD hA hS [1, 2, 3, 4, 5, 6, 7, 8] rfl rfl 4 0 rfl rfl rfl rfl hl.1 (Nat.le_of_ble_eq_true rfl) dX6_settle_23 (fun H locs hP hS => ?_)
      refine lv_if_eq (tgt := 32) hx hb dX6_settle_26 (by decide) (fun c6 => ?_) (fun c6 => ?_)
      · have hf := bs_t hf c6
        refine lv_aload_n hx hb dX6_settle_32 rfl (lv_at hl 0 rfl) ?_
        refine va_get (D := (dC, dI)) (ci := 6) (v := .ref actsh) (C := RX6) (T := TX6) (N := 11) hx hb hts hin6 hown hK hP 0 rfl rfl 6 (by decide) k43 (fun _ h9 => h9) rfl dX6_settle_33 ?_
        refine lv_aload_n hx hb dX6_settle_36 rfl (lv_at hl 0 rfl) ?_
        refine va_get (D := (dC, dI)) (ci := 6) (v := .ref nowh) (C := RX6) (T := TX6) (N := 11) hx hb hts hin6 hown hK hP 0 rfl rfl 2 (by decide) k26 (fun _ h9 => h9) rfl dX6_settle_37 ?_
        refine lv_iload_n hx hb dX6_settle_40 rfl (lv_at hl 1 rfl) ?_
        obtain ⟨z7, hz7, hf⟩ := bs_b hf
        refine bs_cVv (ws1 := [(psh, .inr (6, [.ref rowsh, .ref tapeh, .ref nowh, .ref drafth, .ref trialh, .ref psq_images, .ref actsh, .ref sackh, .ref asksh, .int ps_latestFault, .int ps_latestFinding])), (nowh, .inr (4, [.int now_told, .int now_wax, .int now_stick, .int now_givers, .int now_promises, .int now_pan, .ref nowq_keeping, .ref nowq_giverOf, .ref nowq_deedOf, .ref nowq_dayOf, .ref nowq_likelyOf, .ref nowq_kindOf, .ref nowq_settledOf])), (nowq_keeping, .inl (cI, 4, .inl now_keeping)), (nowq_giverOf, .inl (cI, 8, .inl now_giverOf)), (nowq_deedOf, .inl (cI, 8, .inl now_deedOf)), (nowq_dayOf, .inl (cI, 8, .inl now_dayOf)), (nowq_likelyOf, .inl (cI, 8, .inl now_likelyOf)), (nowq_kindOf, .inl (cI, 8, .inl now_kindOf)), (nowq_settledOf, .inl (cI, 8, .inl now_settledOf)), (actsh, .inr (0, [.ref actsq_promiseOf, .ref actsq_waxOf, .ref actsq_panOf, .ref actsq_keepsOf, .int z7.2.2.2.2.1, .int z7.2.2.2.2.2])), (actsq_promiseOf, .inl (cI, 24, .inl z7.1)), (actsq_waxOf, .inl (cI, 24, .inl z7.2.1)), (actsq_panOf, .inl (cI, 24, .inl z7.2.2.1)), (actsq_keepsOf, .inl (cI, 24, .inl z7.2.2.2.1))]) ⟨hx, hb, hml, hown, hts⟩ (k_X0_remember l dC dI cI cZ cS cG actsh actsq_promiseOf actsq_waxOf actsq_panOf actsq_keepsOf nowh nowq_keeping nowq_giverOf nowq_deedOf nowq_dayOf nowq_likelyOf nowq_kindOf nowq_settledOf acts_promiseOf acts_waxOf acts_panOf acts_keepsOf acts_oldest acts_kept now_told now_wax now_stick now_givers now_promises now_pan now_keeping now_giverOf now_deedOf now_dayOf now_likelyOf now_kindOf now_settledOf p1 z7 hz7) (cwV 2 hts gX6_settle_X0_remember rfl rfl rfl (by decide +kernel) ⟨Nat.le_of_ble_eq_true rfl, Nat.le_of_ble_eq_true rfl⟩) hE hP hD hA hS [9, 10, 11, 12, 13, 1, 2, 3, 4, 5, 6, 7, 8] rfl rfl 0 0 rfl rfl rfl rfl rfl rfl rfl hl.1 (Nat.le_of_ble_eq_true rfl) dX6_settle_41 (fun H locs hP hD hS => ?_)
        refine lv_aload_n hx hb dX6_settle_44 rfl (lv_at hl 0 rfl) ?_
        refine va_get (D := (dC, dI)) (ci := 6) (v := .ref nowh) (C := RX6) (T := TX6) (N := 11) hx hb hts hin6 hown hK hP 0 rfl rfl 2 (by decide) k26 (fun _ h9 => h9) rfl dX6_settle_45 ?_
        refine lv_iload_n hx hb dX6_settle_48 rfl (lv_at hl 1 rfl) ?_
        refine lv_iload_n hx hb dX6_settle_49 rfl (lv_at hl 2 rfl) ?_
        refine lv_iconst (v := 1) hx hb dX6_settle_50 (by decide) ?_
        refine lv_icmp_ne (tgt := 58) hx hb dX6_settle_51 (by decide) (fun c8 => ?_) (fun c8 => ?_)
        · have hf := bs_f hf c8
          refine lv_iconst (v := 0) hx hb dX6_settle_58 (by decide) ?_
          obtain ⟨z9, hz9, hf⟩ := bs_b hf
          refine bs_cVv (ws1 := [(psh, .inr (6, [.ref rowsh, .ref tapeh, .ref nowh, .ref drafth, .ref trialh, .ref psq_images, .ref actsh, .ref sackh, .ref asksh, .int ps_latestFault, .int ps_latestFinding])), (nowh, .inr (4, [.int now_told, .int now_wax, .int now_stick, .int now_givers, .int now_promises, .int z9.1, .ref nowq_keeping, .ref nowq_giverOf, .ref nowq_deedOf, .ref nowq_dayOf, .ref nowq_likelyOf, .ref nowq_kindOf, .ref nowq_settledOf])), (nowq_keeping, .inl (cI, 4, .inl z9.2.1)), (nowq_giverOf, .inl (cI, 8, .inl now_giverOf)), (nowq_deedOf, .inl (cI, 8, .inl now_deedOf)), (nowq_dayOf, .inl (cI, 8, .inl now_dayOf)), (nowq_likelyOf, .inl (cI, 8, .inl now_likelyOf)), (nowq_kindOf, .inl (cI, 8, .inl now_kindOf)), (nowq_settledOf, .inl (cI, 8, .inl z9.2.2)), (actsh, .inr (0, [.ref actsq_promiseOf, .ref actsq_waxOf, .ref actsq_panOf, .ref actsq_keepsOf, .int z7.2.2.2.2.1, .int z7.2.2.2.2.2])), (actsq_promiseOf, .inl (cI, 24, .inl z7.1)), (actsq_waxOf, .inl (cI, 24, .inl z7.2.1)), (actsq_panOf, .inl (cI, 24, .inl z7.2.2.1)), (actsq_keepsOf, .inl (cI, 24, .inl z7.2.2.2.1))]) ⟨hx, hb, hml, hown, hts⟩ (k_X4_settleOne l dC dI cI cZ cS cG nowh nowq_keeping nowq_giverOf nowq_deedOf nowq_dayOf nowq_likelyOf nowq_kindOf nowq_settledOf now_told now_wax now_stick now_givers now_promises now_pan now_keeping now_giverOf now_deedOf now_dayOf now_likelyOf now_kindOf now_settledOf p1 (0 : Int32) z9 hz9) (cwV 2 hts gX6_settle_X4_settleOne rfl rfl rfl (by decide +kernel) ⟨Nat.le_of_ble_eq_true rfl, Nat.le_of_ble_eq_true rfl⟩) hE hP hD hA hS [1, 2, 3, 4, 5, 6, 7, 8] rfl rfl 4 0 rfl rfl rfl rfl rfl rfl rfl hl.1 (Nat.le_of_ble_eq_true rfl) dX6_settle_59 (fun H locs hP hD hS => ?_)
          refine lv_aload_n hx hb dX6_settle_62 rfl (lv_at hl 0 rfl) ?_
          refine va_get (D := (dC, dI)) (ci := 6) (v := .ref nowh) (C := RX6) (T := TX6) (N := 11) hx hb hts hin6 hown hK hP 0 rfl rfl 2 (by decide) k26 (fun _ h9 => h9) rfl dX6_settle_63 ?_
          refine va_get (D := (dC, dI)) (ci := 4) (v := .ref nowq_keeping) (C := RX4) (T := TX4) (N := 13) hx hb hts hin4 hown hK hP 1 rfl rfl 6 (by decide) k164 (fun _ h9 => h9) rfl dX6_settle_66 ?_
          refine lv_aload_n hx hb dX6_settle_69 rfl (lv_at hl 0 rfl) ?_
          refine va_get (D := (dC, dI)) (ci := 6) (v := .ref nowh) (C := RX6) (T := TX6) (N := 11) hx hb hts hin6 hown hK hP 0 rfl rfl 2 (by decide) k26 (fun _ h9 => h9) rfl dX6_settle_70 ?_
          refine va_get (D := (dC, dI)) (ci := 4) (v := .ref nowq_giverOf) (C := RX4) (T := TX4) (N := 13) hx hb hts hin4 hown hK hP 1 rfl rfl 7 (by decide) k168 (fun _ h9 => h9) rfl dX6_settle_73 ?_
          refine lv_iload_n hx hb dX6_settle_76 rfl (lv_at hl 1 rfl) ?_
          obtain ⟨g10, hf⟩ := bs_g hf
          refine va_iald hx hb hK hP 3 0 rfl rfl (bs_inV g10) dX6_settle_77 ?_
          obtain ⟨g11, hf⟩ := bs_g hf
          refine va_iald hx hb hK hP 2 0 rfl rfl (bs_inV g11) dX6_settle_78 ?_
          obtain rfl := Option.some.inj hf
          exact hret H locs _ _ hP hS rfl dX6_settle_79
        · have hf := bs_t hf c8
          refine lv_iconst (v := 1) hx hb dX6_settle_54 (by decide) ?_
          refine lv_goto (tgt := 59) hx hb dX6_settle_55 (by decide) ?_
          obtain ⟨z12, hz12, hf⟩ := bs_b hf
          refine bs_cVv (ws1 := [(psh, .inr (6, [.ref rowsh, .ref tapeh, .ref nowh, .ref drafth, .ref trialh, .ref psq_images, .ref actsh, .ref sackh, .ref asksh, .int ps_latestFault, .int ps_latestFinding])), (nowh, .inr (4, [.int now_told, .int now_wax, .int now_stick, .int now_givers, .int now_promises, .int z12.1, .ref nowq_keeping, .ref nowq_giverOf, .ref nowq_deedOf, .ref nowq_dayOf, .ref nowq_likelyOf, .ref nowq_kindOf, .ref nowq_settledOf])), (nowq_keeping, .inl (cI, 4, .inl z12.2.1)), (nowq_giverOf, .inl (cI, 8, .inl now_giverOf)), (nowq_deedOf, .inl (cI, 8, .inl now_deedOf)), (nowq_dayOf, .inl (cI, 8, .inl now_dayOf)), (nowq_likelyOf, .inl (cI, 8, .inl now_likelyOf)), (nowq_kindOf, .inl (cI, 8, .inl now_kindOf)), (nowq_settledOf, .inl (cI, 8, .inl z12.2.2)), (actsh, .inr (0, [.ref actsq_promiseOf, .ref actsq_waxOf, .ref actsq_panOf, .ref actsq_keepsOf, .int z7.2.2.2.2.1, .int z7.2.2.2.2.2])), (actsq_promiseOf, .inl (cI, 24, .inl z7.1)), (actsq_waxOf, .inl (cI, 24, .inl z7.2.1)), (actsq_panOf, .inl (cI, 24, .inl z7.2.2.1)), (actsq_keepsOf, .inl (cI, 24, .inl z7.2.2.2.1))]) ⟨hx, hb, hml, hown, hts⟩ (k_X4_settleOne l dC dI cI cZ cS cG nowh nowq_keeping nowq_giverOf nowq_deedOf nowq_dayOf nowq_likelyOf nowq_kindOf nowq_settledOf now_told now_wax now_stick now_givers now_promises now_pan now_keeping now_giverOf now_deedOf now_dayOf now_likelyOf now_kindOf now_settledOf p1 (1 : Int32) z12 hz12) (cwV 2 hts gX6_settle_X4_settleOne rfl rfl rfl (by decide +kernel) ⟨Nat.le_of_ble_eq_true rfl, Nat.le_of_ble_eq_true rfl⟩) hE hP hD hA hS [1, 2, 3, 4, 5, 6, 7, 8] rfl rfl 4 0 rfl rfl rfl rfl rfl rfl rfl hl.1 (Nat.le_of_ble_eq_true rfl) dX6_settle_59 (fun H locs hP hD hS => ?_)
          refine lv_aload_n hx hb dX6_settle_62 rfl (lv_at hl 0 rfl) ?_
          refine va_get (D := (dC, dI)) (ci := 6) (v := .ref nowh) (C := RX6) (T := TX6) (N := 11) hx hb hts hin6 hown hK hP 0 rfl rfl 2 (by decide) k26 (fun _ h9 => h9) rfl dX6_settle_63 ?_
          refine va_get (D := (dC, dI)) (ci := 4) (v := .ref nowq_keeping) (C := RX4) (T := TX4) (N := 13) hx hb hts hin4 hown hK hP 1 rfl rfl 6 (by decide) k164 (fun _ h9 => h9) rfl dX6_settle_66 ?_
          refine lv_aload_n hx hb dX6_settle_69 rfl (lv_at hl 0 rfl) ?_
          refine va_get (D := (dC, dI)) (ci := 6) (v := .ref nowh) (C := RX6) (T := TX6) (N := 11) hx hb hts hin6 hown hK hP 0 rfl rfl 2 (by decide) k26 (fun _ h9 => h9) rfl dX6_settle_70 ?_
          refine va_get (D := (dC, dI)) (ci := 4) (v := .ref nowq_giverOf) (C := RX4) (T := TX4) (N := 13) hx hb hts hin4 hown hK hP 1 rfl rfl 7 (by decide) k168 (fun _ h9 => h9) rfl dX6_settle_73 ?_
          refine lv_iload_n hx hb dX6_settle_76 rfl (lv_at hl 1 rfl) ?_
          obtain ⟨g13, hf⟩ := bs_g hf
          refine va_iald hx hb hK hP 3 0 rfl rfl (bs_inV g13) dX6_settle_77 ?_
          obtain ⟨g14, hf⟩ := bs_g hf
          refine va_iald hx hb hK hP 2 0 rfl rfl (bs_inV g14) dX6_settle_78 ?_
          obtain rfl := Option.some.inj hf
          exact hret H locs _ _ hP hS rfl dX6_settle_79
      · have hf := bs_f hf c6
        refine lv_ldc hx hb hown (hts (.constant RX6 145 (-1000002)) (by decide +kernel)) dX6_settle_29 ?_
        obtain rfl := Option.some.inj hf
        exact hret H locs _ _ hP hS rfl dX6_settle_31
    · have hf := bs_t hf c4
      refine lv_ldc hx hb hown (hts (.constant RX6 69 (-1000001)) (by decide +kernel)) dX6_settle_15 ?_
      obtain rfl := Option.some.inj hf
      exact hret H locs _ _ hP hS rfl dX6_settle_17
set_option maxHeartbeats 4000000 in
set_option maxRecDepth 100000 in
theorem k_X6_wax (l : Launch) (dC : Nat → ClassId) (dI : Nat → Nat → Nat) (cI cZ cS cG : ClassId) (psh : Nat) (rowsh : Nat) (tapeh : Nat) (nowh : Nat) (drafth : Nat) (trialh : Nat) (psq_images : Nat) (actsh : Nat) (sackh : Nat) (asksh : Nat) (nowq_keeping : Nat) (nowq_giverOf : Nat) (nowq_deedOf : Nat) (nowq_dayOf : Nat) (nowq_likelyOf : Nat) (nowq_kindOf : Nat) (nowq_settledOf : Nat) (actsq_promiseOf : Nat) (actsq_waxOf : Nat) (actsq_panOf : Nat) (actsq_keepsOf : Nat) (ps_latestFault : Int32) (ps_latestFinding : Int32) (now_told : Int32) (now_wax : Int32) (now_stick : Int32) (now_givers : Int32) (now_promises : Int32) (now_pan : Int32) (now_keeping : Nat → Int32) (now_giverOf : Nat → Int32) (now_deedOf : Nat → Int32) (now_dayOf : Nat → Int32) (now_likelyOf : Nat → Int32) (now_kindOf : Nat → Int32) (now_settledOf : Nat → Int32) (acts_promiseOf : Nat → Int32) (acts_waxOf : Nat → Int32) (acts_panOf : Nat → Int32) (acts_keepsOf : Nat → Int32) (acts_oldest : Int32) (acts_kept : Int32) (p1 : Int32) (out : Int32 × Int32 × (Nat → Int32) × (Nat → Int32) × (Nat → Int32) × (Nat → Int32) × Int32 × Int32) (hf : f_X6_wax now_told now_wax now_pan now_keeping now_giverOf acts_promiseOf acts_waxOf acts_panOf acts_keepsOf acts_oldest acts_kept p1 = some out) : bs_C l dC dI cI cZ cS cG yX6_wax wsX6_wax ({ frames := 1, cells := 0, slots := 0, locals := 23 } : Room) [.ref psh, .int p1] ([(psh, .inr (6, [.ref rowsh, .ref tapeh, .ref nowh, .ref drafth, .ref trialh, .ref psq_images, .ref actsh, .ref sackh, .ref asksh, .int ps_latestFault, .int ps_latestFinding])), (nowh, .inr (4, [.int now_told, .int now_wax, .int now_stick, .int now_givers, .int now_promises, .int now_pan, .ref nowq_keeping, .ref nowq_giverOf, .ref nowq_deedOf, .ref nowq_dayOf, .ref nowq_likelyOf, .ref nowq_kindOf, .ref nowq_settledOf])), (nowq_keeping, .inl (cI, 4, .inl now_keeping)), (nowq_giverOf, .inl (cI, 8, .inl now_giverOf)), (nowq_deedOf, .inl (cI, 8, .inl now_deedOf)), (nowq_dayOf, .inl (cI, 8, .inl now_dayOf)), (nowq_likelyOf, .inl (cI, 8, .inl now_likelyOf)), (nowq_kindOf, .inl (cI, 8, .inl now_kindOf)), (nowq_settledOf, .inl (cI, 8, .inl now_settledOf)), (actsh, .inr (0, [.ref actsq_promiseOf, .ref actsq_waxOf, .ref actsq_panOf, .ref actsq_keepsOf, .int acts_oldest, .int acts_kept])), (actsq_promiseOf, .inl (cI, 24, .inl acts_promiseOf)), (actsq_waxOf, .inl (cI, 24, .inl acts_waxOf)), (actsq_panOf, .inl (cI, 24, .inl acts_panOf)), (actsq_keepsOf, .inl (cI, 24, .inl acts_keepsOf))]) out.1 ([(psh, .inr (6, [.ref rowsh, .ref tapeh, .ref nowh, .ref drafth, .ref trialh, .ref psq_images, .ref actsh, .ref sackh, .ref asksh, .int ps_latestFault, .int ps_latestFinding])), (nowh, .inr (4, [.int now_told, .int out.2.1, .int now_stick, .int now_givers, .int now_promises, .int now_pan, .ref nowq_keeping, .ref nowq_giverOf, .ref nowq_deedOf, .ref nowq_dayOf, .ref nowq_likelyOf, .ref nowq_kindOf, .ref nowq_settledOf])), (nowq_keeping, .inl (cI, 4, .inl now_keeping)), (nowq_giverOf, .inl (cI, 8, .inl now_giverOf)), (nowq_deedOf, .inl (cI, 8, .inl now_deedOf)), (nowq_dayOf, .inl (cI, 8, .inl now_dayOf)), (nowq_likelyOf, .inl (cI, 8, .inl now_likelyOf)), (nowq_kindOf, .inl (cI, 8, .inl now_kindOf)), (nowq_settledOf, .inl (cI, 8, .inl now_settledOf)), (actsh, .inr (0, [.ref actsq_promiseOf, .ref actsq_waxOf, .ref actsq_panOf, .ref actsq_keepsOf, .int out.2.2.2.2.2.2.1, .int out.2.2.2.2.2.2.2])), (actsq_promiseOf, .inl (cI, 24, .inl out.2.2.1)), (actsq_waxOf, .inl (cI, 24, .inl out.2.2.2.1)), (actsq_panOf, .inl (cI, 24, .inl out.2.2.2.2.1)), (actsq_keepsOf, .inl (cI, 24, .inl out.2.2.2.2.2.1))]) := by
  refine bs_ofI (cc := cX6_wax) (maxL := 3) (by decide) rfl (Nat.le_of_ble_eq_true rfl) ?_
  intro p e s m below meth c A Q hx hb hown hml hts hE H locs hP hD hA hS ls hl hret
  have hK := hE.1
  have hl : lv_has ls 3 [(0, .ref psh), (1, .int p1)] := hl
  have hin4 : ∀ w ∈ u_ws RX4 TX4 13, w ∈ wsX6_wax := by decide +kernel
  have hin6 : ∀ w ∈ u_ws RX6 TX6 11, w ∈ wsX6_wax := by decide +kernel
  have k26 := hts (.fieldLink RX6 26 "PromiseScales" "now" "LPromiseScales$Scales;") (by decide +kernel)
  have k43 := hts (.fieldLink RX6 43 "PromiseScales" "acts" "LPromiseScales$Acts;") (by decide +kernel)
  have k171 := hts (.fieldLink RX6 171 "PromiseScales$Scales" "told" "Z") (by decide +kernel)
  have k175 := hts (.fieldLink RX6 175 "PromiseScales$Scales" "wax" "I") (by decide +kernel)
  unfold f_X6_wax at hf
  refine lv_aload_n hx hb dX6_wax_0 rfl (lv_at hl 0 rfl) ?_
  refine va_get (D := (dC, dI)) (ci := 6) (v := .ref nowh) (C := RX6) (T := TX6) (N := 11) hx hb hts hin6 hown hK hP 0 rfl rfl 2 (by decide) k26 (fun _ h9 => h9) rfl dX6_wax_1 ?_
  refine va_get (D := (dC, dI)) (ci := 4) (v := .int now_told) (C := RX4) (T := TX4) (N := 13) hx hb hts hin4 hown hK hP 1 rfl rfl 0 (by decide) k171 (fun _ h9 => h9) rfl dX6_wax_4 ?_
  refine lv_if_ne (tgt := 13) hx hb dX6_wax_7 (by decide) (fun c1 => ?_) (fun c1 => ?_)
  · have hf := bs_f hf c1
    refine lv_iload_n hx hb dX6_wax_13 rfl (lv_at hl 1 rfl) ?_
    refine lv_iconst (v := 0) hx hb dX6_wax_14 (by decide) ?_
    refine lv_bipush (v := 9) hx hb dX6_wax_15 (by decide) ?_
    obtain ⟨z2, hz2, hf⟩ := bs_b hf
    refine bs_cSi ⟨hx, hb, hml, hown, hts⟩ (k_X6_isWithin l dC dI cI cZ cS cG p1 (0 : Int32) (9 : Int32) z2 hz2) (va_cwS 3 hts gX6_wax_X6_isWithin rfl rfl rfl (by decide +kernel) ⟨Nat.le_of_ble_eq_true rfl, Nat.le_of_ble_eq_true rfl⟩) hE hP hD hA hS rfl rfl hl.1 (Nat.le_of_ble_eq_true rfl) dX6_wax_17 (fun H locs hP hS => ?_)
    refine lv_if_ne (tgt := 26) hx hb dX6_wax_20 (by decide) (fun c3 => ?_) (fun c3 => ?_)
    · have hf := bs_f hf c3
      refine lv_aload_n hx hb dX6_wax_26 rfl (lv_at hl 0 rfl) ?_
      refine va_get (D := (dC, dI)) (ci := 6) (v := .ref actsh) (C := RX6) (T := TX6) (N := 11) hx hb hts hin6 hown hK hP 0 rfl rfl 6 (by decide) k43 (fun _ h9 => h9) rfl dX6_wax_27 ?_
      refine lv_aload_n hx hb dX6_wax_30 rfl (lv_at hl 0 rfl) ?_
      refine va_get (D := (dC, dI)) (ci := 6) (v := .ref nowh) (C := RX6) (T := TX6) (N := 11) hx hb hts hin6 hown hK hP 0 rfl rfl 2 (by decide) k26 (fun _ h9 => h9) rfl dX6_wax_31 ?_
      refine lv_iconst (v := (-1)) hx hb dX6_wax_34 (by decide) ?_
      obtain ⟨z4, hz4, hf⟩ := bs_b hf
      refine bs_cVv (ws1 := [(psh, .inr (6, [.ref rowsh, .ref tapeh, .ref nowh, .ref drafth, .ref trialh, .ref psq_images, .ref actsh, .ref sackh, .ref asksh, .int ps_latestFault, .int ps_latestFinding])), (nowh, .inr (4, [.int now_told, .int now_wax, .int now_stick, .int now_givers, .int now_promises, .int now_pan, .ref nowq_keeping, .ref nowq_giverOf, .ref nowq_deedOf, .ref nowq_dayOf, .ref nowq_likelyOf, .ref nowq_kindOf, .ref nowq_settledOf])), (nowq_keeping, .inl (cI, 4, .inl now_keeping)), (nowq_giverOf, .inl (cI, 8, .inl now_giverOf)), (nowq_deedOf, .inl (cI, 8, .inl now_deedOf)), (nowq_dayOf, .inl (cI, 8, .inl now_dayOf)), (nowq_likelyOf, .inl (cI, 8, .inl now_likelyOf)), (nowq_kindOf, .inl (cI, 8, .inl now_kindOf)), (nowq_settledOf, .inl (cI, 8, .inl now_settledOf)), (actsh, .inr (0, [.ref actsq_promiseOf, .ref actsq_waxOf, .ref actsq_panOf, .ref actsq_keepsOf, .int z4.2.2.2.2.1, .int z4.2.2.2.2.2])), (actsq_promiseOf, .inl (cI, 24, .inl z4.1)), (actsq_waxOf, .inl (cI, 24, .inl z4.2.1)), (actsq_panOf, .inl (cI, 24, .inl z4.2.2.1)), (actsq_keepsOf, .inl (cI, 24, .inl z4.2.2.2.1))]) ⟨hx, hb, hml, hown, hts⟩ (k_X0_remember l dC dI cI cZ cS cG actsh actsq_promiseOf actsq_waxOf actsq_panOf actsq_keepsOf nowh nowq_keeping nowq_giverOf nowq_deedOf nowq_dayOf nowq_likelyOf nowq_kindOf nowq_settledOf acts_promiseOf acts_waxOf acts_panOf acts_keepsOf acts_oldest acts_kept now_told now_wax now_stick now_givers now_promises now_pan now_keeping now_giverOf now_deedOf now_dayOf now_likelyOf now_kindOf now_settledOf (-1 : Int32) z4 hz4) (cwV 2 hts gX6_wax_X0_remember rfl rfl rfl (by decide +kernel) ⟨Nat.le_of_ble_eq_true rfl, Nat.le_of_ble_eq_true rfl⟩) hE hP hD hA hS [9, 10, 11, 12, 13, 1, 2, 3, 4, 5, 6, 7, 8] rfl rfl 0 0 rfl rfl rfl rfl rfl rfl rfl hl.1 (Nat.le_of_ble_eq_true rfl) dX6_wax_35 (fun H locs hP hD hS => ?_)
      refine lv_aload_n hx hb dX6_wax_38 rfl (lv_at hl 0 rfl) ?_
      refine va_get (D := (dC, dI)) (ci := 6) (v := .ref nowh) (C := RX6) (T := TX6) (N := 11) hx hb hts hin6 hown hK hP 0 rfl rfl 2 (by decide) k26 (fun _ h9 => h9) rfl dX6_wax_39 ?_
      refine va_get (D := (dC, dI)) (ci := 4) (v := .int now_wax) (C := RX4) (T := TX4) (N := 13) hx hb hts hin4 hown hK hP 1 rfl rfl 1 (by decide) k175 (fun _ h9 => h9) rfl dX6_wax_42 ?_
      refine lv_istore_n (lv' := [(2, .int now_wax), (0, .ref psh), (1, .int p1)]) hx hb dX6_wax_45 rfl hl (by decide) rfl (fun ls hl => ?_)
      refine lv_aload_n hx hb dX6_wax_46 rfl (lv_at hl 1 rfl) ?_
      refine va_get (D := (dC, dI)) (ci := 6) (v := .ref nowh) (C := RX6) (T := TX6) (N := 11) hx hb hts hin6 hown hK hP 0 rfl rfl 2 (by decide) k26 (fun _ h9 => h9) rfl dX6_wax_47 ?_
      refine lv_iload_n hx hb dX6_wax_50 rfl (lv_at hl 2 rfl) ?_
      refine va_put (D := (dC, dI)) (ci := 4) (v := .int p1) (ty := .int) (C := RX4) (T := TX4) (N := 13) hx hb hts hin4 tyX4 tyX4_ok nmX4 hown hK hP hD hS 1 rfl rfl 1 (by decide) k175 (fun _ h9 => h9) rfl (by decide +kernel) rfl rfl (Nat.le_of_ble_eq_true rfl) dX6_wax_51 (fun H locs hP hD hS => ?_)
      have hP : va_P (dC, dI) vwCl ([(psh, .inr (6, [.ref rowsh, .ref tapeh, .ref nowh, .ref drafth, .ref trialh, .ref psq_images, .ref actsh, .ref sackh, .ref asksh, .int ps_latestFault, .int ps_latestFinding])), (nowh, .inr (4, [.int now_told, .int p1, .int now_stick, .int now_givers, .int now_promises, .int now_pan, .ref nowq_keeping, .ref nowq_giverOf, .ref nowq_deedOf, .ref nowq_dayOf, .ref nowq_likelyOf, .ref nowq_kindOf, .ref nowq_settledOf])), (nowq_keeping, .inl (cI, 4, .inl now_keeping)), (nowq_giverOf, .inl (cI, 8, .inl now_giverOf)), (nowq_deedOf, .inl (cI, 8, .inl now_deedOf)), (nowq_dayOf, .inl (cI, 8, .inl now_dayOf)), (nowq_likelyOf, .inl (cI, 8, .inl now_likelyOf)), (nowq_kindOf, .inl (cI, 8, .inl now_kindOf)), (nowq_settledOf, .inl (cI, 8, .inl now_settledOf)), (actsh, .inr (0, [.ref actsq_promiseOf, .ref actsq_waxOf, .ref actsq_panOf, .ref actsq_keepsOf, .int z4.2.2.2.2.1, .int z4.2.2.2.2.2])), (actsq_promiseOf, .inl (cI, 24, .inl z4.1)), (actsq_waxOf, .inl (cI, 24, .inl z4.2.1)), (actsq_panOf, .inl (cI, 24, .inl z4.2.2.1)), (actsq_keepsOf, .inl (cI, 24, .inl z4.2.2.2.1))]) H := hP
      have hD : va_D A ([(psh, .inr (6, [.ref rowsh, .ref tapeh, .ref nowh, .ref drafth, .ref trialh, .ref psq_images, .ref actsh, .ref sackh, .ref asksh, .int ps_latestFault, .int ps_latestFinding])), (nowh, .inr (4, [.int now_told, .int p1, .int now_stick, .int now_givers, .int now_promises, .int now_pan, .ref nowq_keeping, .ref nowq_giverOf, .ref nowq_deedOf, .ref nowq_dayOf, .ref nowq_likelyOf, .ref nowq_kindOf, .ref nowq_settledOf])), (nowq_keeping, .inl (cI, 4, .inl now_keeping)), (nowq_giverOf, .inl (cI, 8, .inl now_giverOf)), (nowq_deedOf, .inl (cI, 8, .inl now_deedOf)), (nowq_dayOf, .inl (cI, 8, .inl now_dayOf)), (nowq_likelyOf, .inl (cI, 8, .inl now_likelyOf)), (nowq_kindOf, .inl (cI, 8, .inl now_kindOf)), (nowq_settledOf, .inl (cI, 8, .inl now_settledOf)), (actsh, .inr (0, [.ref actsq_promiseOf, .ref actsq_waxOf, .ref actsq_panOf, .ref actsq_keepsOf, .int z4.2.2.2.2.1, .int z4.2.2.2.2.2])), (actsq_promiseOf, .inl (cI, 24, .inl z4.1)), (actsq_waxOf, .inl (cI, 24, .inl z4.2.1)), (actsq_panOf, .inl (cI, 24, .inl z4.2.2.1)), (actsq_keepsOf, .inl (cI, 24, .inl z4.2.2.2.1))]) := hD
      refine lv_iload_n hx hb dX6_wax_54 rfl (lv_at hl 0 rfl) ?_
      obtain rfl := Option.some.inj hf
      exact hret H locs _ _ hP hS rfl dX6_wax_55
    · have hf := bs_t hf c3
      refine lv_ldc hx hb hown (hts (.constant RX6 69 (-1000001)) (by decide +kernel)) dX6_wax_23 ?_
      obtain rfl := Option.some.inj hf
      exact hret H locs _ _ hP hS rfl dX6_wax_25
  · have hf := bs_t hf c1
    refine lv_ldc hx hb hown (hts (.constant RX6 145 (-1000002)) (by decide +kernel)) dX6_wax_10 ?_
    obtain rfl := Option.some.inj hf
    exact hret H locs _ _ hP hS rfl dX6_wax_12
set_option maxHeartbeats 4000000 in
set_option maxRecDepth 100000 in
theorem k_X6_undo (l : Launch) (dC : Nat → ClassId) (dI : Nat → Nat → Nat) (cI cZ cS cG : ClassId) (psh : Nat) (rowsh : Nat) (tapeh : Nat) (nowh : Nat) (drafth : Nat) (trialh : Nat) (psq_images : Nat) (actsh : Nat) (sackh : Nat) (asksh : Nat) (nowq_keeping : Nat) (nowq_giverOf : Nat) (nowq_deedOf : Nat) (nowq_dayOf : Nat) (nowq_likelyOf : Nat) (nowq_kindOf : Nat) (nowq_settledOf : Nat) (actsq_promiseOf : Nat) (actsq_waxOf : Nat) (actsq_panOf : Nat) (actsq_keepsOf : Nat) (ps_latestFault : Int32) (ps_latestFinding : Int32) (now_told : Int32) (now_wax : Int32) (now_stick : Int32) (now_givers : Int32) (now_promises : Int32) (now_pan : Int32) (now_keeping : Nat → Int32) (now_giverOf : Nat → Int32) (now_deedOf : Nat → Int32) (now_dayOf : Nat → Int32) (now_likelyOf : Nat → Int32) (now_kindOf : Nat → Int32) (now_settledOf : Nat → Int32) (acts_promiseOf : Nat → Int32) (acts_waxOf : Nat → Int32) (acts_panOf : Nat → Int32) (acts_keepsOf : Nat → Int32) (acts_oldest : Int32) (acts_kept : Int32) (out : Int32 × Int32 × Int32 × (Nat → Int32) × (Nat → Int32) × Int32) (hf : f_X6_undo now_wax now_pan now_keeping now_giverOf now_settledOf acts_promiseOf acts_waxOf acts_panOf acts_keepsOf acts_oldest acts_kept = some out) : bs_C l dC dI cI cZ cS cG yX6_undo wsX6_undo ({ frames := 1, cells := 0, slots := 0, locals := 23 } : Room) [.ref psh] ([(psh, .inr (6, [.ref rowsh, .ref tapeh, .ref nowh, .ref drafth, .ref trialh, .ref psq_images, .ref actsh, .ref sackh, .ref asksh, .int ps_latestFault, .int ps_latestFinding])), (nowh, .inr (4, [.int now_told, .int now_wax, .int now_stick, .int now_givers, .int now_promises, .int now_pan, .ref nowq_keeping, .ref nowq_giverOf, .ref nowq_deedOf, .ref nowq_dayOf, .ref nowq_likelyOf, .ref nowq_kindOf, .ref nowq_settledOf])), (nowq_keeping, .inl (cI, 4, .inl now_keeping)), (nowq_giverOf, .inl (cI, 8, .inl now_giverOf)), (nowq_deedOf, .inl (cI, 8, .inl now_deedOf)), (nowq_dayOf, .inl (cI, 8, .inl now_dayOf)), (nowq_likelyOf, .inl (cI, 8, .inl now_likelyOf)), (nowq_kindOf, .inl (cI, 8, .inl now_kindOf)), (nowq_settledOf, .inl (cI, 8, .inl now_settledOf)), (actsh, .inr (0, [.ref actsq_promiseOf, .ref actsq_waxOf, .ref actsq_panOf, .ref actsq_keepsOf, .int acts_oldest, .int acts_kept])), (actsq_promiseOf, .inl (cI, 24, .inl acts_promiseOf)), (actsq_waxOf, .inl (cI, 24, .inl acts_waxOf)), (actsq_panOf, .inl (cI, 24, .inl acts_panOf)), (actsq_keepsOf, .inl (cI, 24, .inl acts_keepsOf))]) out.1 ([(psh, .inr (6, [.ref rowsh, .ref tapeh, .ref nowh, .ref drafth, .ref trialh, .ref psq_images, .ref actsh, .ref sackh, .ref asksh, .int ps_latestFault, .int ps_latestFinding])), (nowh, .inr (4, [.int now_told, .int out.2.1, .int now_stick, .int now_givers, .int now_promises, .int out.2.2.1, .ref nowq_keeping, .ref nowq_giverOf, .ref nowq_deedOf, .ref nowq_dayOf, .ref nowq_likelyOf, .ref nowq_kindOf, .ref nowq_settledOf])), (nowq_keeping, .inl (cI, 4, .inl out.2.2.2.1)), (nowq_giverOf, .inl (cI, 8, .inl now_giverOf)), (nowq_deedOf, .inl (cI, 8, .inl now_deedOf)), (nowq_dayOf, .inl (cI, 8, .inl now_dayOf)), (nowq_likelyOf, .inl (cI, 8, .inl now_likelyOf)), (nowq_kindOf, .inl (cI, 8, .inl now_kindOf)), (nowq_settledOf, .inl (cI, 8, .inl out.2.2.2.2.1)), (actsh, .inr (0, [.ref actsq_promiseOf, .ref actsq_waxOf, .ref actsq_panOf, .ref actsq_keepsOf, .int acts_oldest, .int out.2.2.2.2.2])), (actsq_promiseOf, .inl (cI, 24, .inl acts_promiseOf)), (actsq_waxOf, .inl (cI, 24, .inl acts_waxOf)), (actsq_panOf, .inl (cI, 24, .inl acts_panOf)), (actsq_keepsOf, .inl (cI, 24, .inl acts_keepsOf))]) := by
  refine bs_ofI (cc := cX6_undo) (maxL := 1) (by decide) rfl (Nat.le_of_ble_eq_true rfl) ?_
  intro p e s m below meth c A Q hx hb hown hml hts hE H locs hP hD hA hS ls hl hret
  have hK := hE.1
  have hl : lv_has ls 1 [(0, .ref psh)] := hl
  have hin0 : ∀ w ∈ u_ws RX0 TX0 6, w ∈ wsX6_undo := by decide +kernel
  have hin6 : ∀ w ∈ u_ws RX6 TX6 11, w ∈ wsX6_undo := by decide +kernel
  have k26 := hts (.fieldLink RX6 26 "PromiseScales" "now" "LPromiseScales$Scales;") (by decide +kernel)
  have k43 := hts (.fieldLink RX6 43 "PromiseScales" "acts" "LPromiseScales$Acts;") (by decide +kernel)
  have k178 := hts (.fieldLink RX6 178 "PromiseScales$Acts" "kept" "I") (by decide +kernel)
  unfold f_X6_undo at hf
  refine lv_aload_n hx hb dX6_undo_0 rfl (lv_at hl 0 rfl) ?_
  refine va_get (D := (dC, dI)) (ci := 6) (v := .ref actsh) (C := RX6) (T := TX6) (N := 11) hx hb hts hin6 hown hK hP 0 rfl rfl 6 (by decide) k43 (fun _ h9 => h9) rfl dX6_undo_1 ?_
  refine va_get (D := (dC, dI)) (ci := 0) (v := .int acts_kept) (C := RX0) (T := TX0) (N := 6) hx hb hts hin0 hown hK hP 9 rfl rfl 5 (by decide) k178 (fun _ h9 => h9) rfl dX6_undo_4 ?_
  refine lv_if_ne (tgt := 13) hx hb dX6_undo_7 (by decide) (fun c1 => ?_) (fun c1 => ?_)
  · have hf := bs_f hf c1
    refine lv_aload_n hx hb dX6_undo_13 rfl (lv_at hl 0 rfl) ?_
    refine va_get (D := (dC, dI)) (ci := 6) (v := .ref actsh) (C := RX6) (T := TX6) (N := 11) hx hb hts hin6 hown hK hP 0 rfl rfl 6 (by decide) k43 (fun _ h9 => h9) rfl dX6_undo_14 ?_
    refine lv_aload_n hx hb dX6_undo_17 rfl (lv_at hl 0 rfl) ?_
    refine va_get (D := (dC, dI)) (ci := 6) (v := .ref nowh) (C := RX6) (T := TX6) (N := 11) hx hb hts hin6 hown hK hP 0 rfl rfl 2 (by decide) k26 (fun _ h9 => h9) rfl dX6_undo_18 ?_
    obtain ⟨z2, hz2, hf⟩ := bs_b hf
    refine bs_cVv (ws1 := [(psh, .inr (6, [.ref rowsh, .ref tapeh, .ref nowh, .ref drafth, .ref trialh, .ref psq_images, .ref actsh, .ref sackh, .ref asksh, .int ps_latestFault, .int ps_latestFinding])), (nowh, .inr (4, [.int now_told, .int z2.2.1, .int now_stick, .int now_givers, .int now_promises, .int z2.2.2.1, .ref nowq_keeping, .ref nowq_giverOf, .ref nowq_deedOf, .ref nowq_dayOf, .ref nowq_likelyOf, .ref nowq_kindOf, .ref nowq_settledOf])), (nowq_keeping, .inl (cI, 4, .inl z2.2.2.2.1)), (nowq_giverOf, .inl (cI, 8, .inl now_giverOf)), (nowq_deedOf, .inl (cI, 8, .inl now_deedOf)), (nowq_dayOf, .inl (cI, 8, .inl now_dayOf)), (nowq_likelyOf, .inl (cI, 8, .inl now_likelyOf)), (nowq_kindOf, .inl (cI, 8, .inl now_kindOf)), (nowq_settledOf, .inl (cI, 8, .inl z2.2.2.2.2)), (actsh, .inr (0, [.ref actsq_promiseOf, .ref actsq_waxOf, .ref actsq_panOf, .ref actsq_keepsOf, .int acts_oldest, .int z2.1])), (actsq_promiseOf, .inl (cI, 24, .inl acts_promiseOf)), (actsq_waxOf, .inl (cI, 24, .inl acts_waxOf)), (actsq_panOf, .inl (cI, 24, .inl acts_panOf)), (actsq_keepsOf, .inl (cI, 24, .inl acts_keepsOf))]) ⟨hx, hb, hml, hown, hts⟩ (k_X0_takeBack l dC dI cI cZ cS cG actsh actsq_promiseOf actsq_waxOf actsq_panOf actsq_keepsOf nowh nowq_keeping nowq_giverOf nowq_deedOf nowq_dayOf nowq_likelyOf nowq_kindOf nowq_settledOf acts_promiseOf acts_waxOf acts_panOf acts_keepsOf acts_oldest acts_kept now_told now_wax now_stick now_givers now_promises now_pan now_keeping now_giverOf now_deedOf now_dayOf now_likelyOf now_kindOf now_settledOf z2 hz2) (cwV 1 hts gX6_undo_X0_takeBack rfl rfl rfl (by decide +kernel) ⟨Nat.le_of_ble_eq_true rfl, Nat.le_of_ble_eq_true rfl⟩) hE hP hD hA hS [9, 10, 11, 12, 13, 1, 2, 3, 4, 5, 6, 7, 8] rfl rfl 0 0 rfl rfl rfl rfl rfl rfl rfl hl.1 (Nat.le_of_ble_eq_true rfl) dX6_undo_21 (fun H locs hP hD hS => ?_)
    refine lv_aload_n hx hb dX6_undo_24 rfl (lv_at hl 0 rfl) ?_
    refine va_get (D := (dC, dI)) (ci := 6) (v := .ref actsh) (C := RX6) (T := TX6) (N := 11) hx hb hts hin6 hown hK hP 0 rfl rfl 6 (by decide) k43 (fun _ h9 => h9) rfl dX6_undo_25 ?_
    refine va_get (D := (dC, dI)) (ci := 0) (v := .int z2.1) (C := RX0) (T := TX0) (N := 6) hx hb hts hin0 hown hK hP 9 rfl rfl 5 (by decide) k178 (fun _ h9 => h9) rfl dX6_undo_28 ?_
    obtain rfl := Option.some.inj hf
    exact hret H locs _ _ hP hS rfl dX6_undo_31
  · have hf := bs_t hf c1
    refine lv_ldc hx hb hown (hts (.constant RX6 145 (-1000002)) (by decide +kernel)) dX6_undo_10 ?_
    obtain rfl := Option.some.inj hf
    exact hret H locs _ _ hP hS rfl dX6_undo_12
set_option maxHeartbeats 4000000 in
set_option maxRecDepth 100000 in
theorem k_X6_promise (l : Launch) (dC : Nat → ClassId) (dI : Nat → Nat → Nat) (cI cZ cS cG : ClassId) (psh : Nat) (rowsh : Nat) (tapeh : Nat) (nowh : Nat) (drafth : Nat) (trialh : Nat) (psq_images : Nat) (actsh : Nat) (sackh : Nat) (asksh : Nat) (nowq_keeping : Nat) (nowq_giverOf : Nat) (nowq_deedOf : Nat) (nowq_dayOf : Nat) (nowq_likelyOf : Nat) (nowq_kindOf : Nat) (nowq_settledOf : Nat) (ps_latestFault : Int32) (ps_latestFinding : Int32) (now_told : Int32) (now_wax : Int32) (now_stick : Int32) (now_givers : Int32) (now_promises : Int32) (now_pan : Int32) (now_keeping : Nat → Int32) (now_giverOf : Nat → Int32) (now_deedOf : Nat → Int32) (now_dayOf : Nat → Int32) (now_likelyOf : Nat → Int32) (now_kindOf : Nat → Int32) (now_settledOf : Nat → Int32) (p1 : Int32) (p2 : Int32) (out : Int32) (hf : f_X6_promise now_promises now_pan now_keeping now_giverOf now_deedOf now_dayOf now_likelyOf now_kindOf now_settledOf p1 p2 = some out) : bs_C l dC dI cI cZ cS cG yX6_promise wsX6_promise ({ frames := 4, cells := 0, slots := 0, locals := 91 } : Room) [.ref psh, .int p1, .int p2] ([(psh, .inr (6, [.ref rowsh, .ref tapeh, .ref nowh, .ref drafth, .ref trialh, .ref psq_images, .ref actsh, .ref sackh, .ref asksh, .int ps_latestFault, .int ps_latestFinding])), (nowh, .inr (4, [.int now_told, .int now_wax, .int now_stick, .int now_givers, .int now_promises, .int now_pan, .ref nowq_keeping, .ref nowq_giverOf, .ref nowq_deedOf, .ref nowq_dayOf, .ref nowq_likelyOf, .ref nowq_kindOf, .ref nowq_settledOf])), (nowq_keeping, .inl (cI, 4, .inl now_keeping)), (nowq_giverOf, .inl (cI, 8, .inl now_giverOf)), (nowq_deedOf, .inl (cI, 8, .inl now_deedOf)), (nowq_dayOf, .inl (cI, 8, .inl now_dayOf)), (nowq_likelyOf, .inl (cI, 8, .inl now_likelyOf)), (nowq_kindOf, .inl (cI, 8, .inl now_kindOf)), (nowq_settledOf, .inl (cI, 8, .inl now_settledOf))]) out ([(psh, .inr (6, [.ref rowsh, .ref tapeh, .ref nowh, .ref drafth, .ref trialh, .ref psq_images, .ref actsh, .ref sackh, .ref asksh, .int ps_latestFault, .int ps_latestFinding])), (nowh, .inr (4, [.int now_told, .int now_wax, .int now_stick, .int now_givers, .int now_promises, .int now_pan, .ref nowq_keeping, .ref nowq_giverOf, .ref nowq_deedOf, .ref nowq_dayOf, .ref nowq_likelyOf, .ref nowq_kindOf, .ref nowq_settledOf])), (nowq_keeping, .inl (cI, 4, .inl now_keeping)), (nowq_giverOf, .inl (cI, 8, .inl now_giverOf)), (nowq_deedOf, .inl (cI, 8, .inl now_deedOf)), (nowq_dayOf, .inl (cI, 8, .inl now_dayOf)), (nowq_likelyOf, .inl (cI, 8, .inl now_likelyOf)), (nowq_kindOf, .inl (cI, 8, .inl now_kindOf)), (nowq_settledOf, .inl (cI, 8, .inl now_settledOf))]) := by
  refine bs_ofI (cc := cX6_promise) (maxL := 3) (by decide) rfl (Nat.le_of_ble_eq_true rfl) ?_
  intro p e s m below meth c A Q hx hb hown hml hts hE H locs hP hD hA hS ls hl hret
  have hK := hE.1
  have hl : lv_has ls 3 [(0, .ref psh), (1, .int p1), (2, .int p2)] := hl
  have hin4 : ∀ w ∈ u_ws RX4 TX4 13, w ∈ wsX6_promise := by decide +kernel
  have hin6 : ∀ w ∈ u_ws RX6 TX6 11, w ∈ wsX6_promise := by decide +kernel
  have k26 := hts (.fieldLink RX6 26 "PromiseScales" "now" "LPromiseScales$Scales;") (by decide +kernel)
  have k168 := hts (.fieldLink RX6 168 "PromiseScales$Scales" "giverOf" "[I") (by decide +kernel)
  have k184 := hts (.fieldLink RX6 184 "PromiseScales$Scales" "deedOf" "[I") (by decide +kernel)
  have k187 := hts (.fieldLink RX6 187 "PromiseScales$Scales" "dayOf" "[I") (by decide +kernel)
  have k190 := hts (.fieldLink RX6 190 "PromiseScales$Scales" "likelyOf" "[I") (by decide +kernel)
  have k196 := hts (.fieldLink RX6 196 "PromiseScales$Scales" "settledOf" "[I") (by decide +kernel)
  unfold f_X6_promise at hf
  refine lv_aload_n hx hb dX6_promise_0 rfl (lv_at hl 0 rfl) ?_
  refine lv_iload_n hx hb dX6_promise_1 rfl (lv_at hl 1 rfl) ?_
  obtain ⟨z1, hz1, hf⟩ := bs_b hf
  refine bs_cViR ⟨hx, hb, hml, hown, hts⟩ (k_X6_isPromise l dC dI cI cZ cS cG psh rowsh tapeh nowh drafth trialh psq_images actsh sackh asksh nowq_keeping nowq_giverOf nowq_deedOf nowq_dayOf nowq_likelyOf nowq_kindOf nowq_settledOf ps_latestFault ps_latestFinding now_told now_wax now_stick now_givers now_promises now_pan now_keeping now_giverOf now_deedOf now_dayOf now_likelyOf now_kindOf now_settledOf p1 z1 hz1) (cwV 1 hts gX6_promise_X6_isPromise rfl rfl rfl (by decide +kernel) ⟨Nat.le_of_ble_eq_true rfl, Nat.le_of_ble_eq_true rfl⟩) hE hP hD hA hS [0, 1, 2, 3, 4, 5, 6, 7, 8] rfl rfl 6 0 rfl rfl rfl rfl hl.1 (Nat.le_of_ble_eq_true rfl) dX6_promise_2 (fun H locs hP hS => ?_)
  refine lv_if_ne (tgt := 11) hx hb dX6_promise_5 (by decide) (fun c2 => ?_) (fun c2 => ?_)
  · have hf := bs_f hf c2
    refine lv_iload_n hx hb dX6_promise_11 rfl (lv_at hl 2 rfl) ?_
    by_cases c3 : p2 = 0
    · have hf := bs_t hf c3
      refine lv_tableIn (tgt := 56) hx hb dX6_promise_12 (by rw [c3]; decide) (by rw [c3]; decide) (by rw [c3]; rfl) (by decide) ?_
      refine lv_aload_n hx hb dX6_promise_56 rfl (lv_at hl 0 rfl) ?_
      refine va_get (D := (dC, dI)) (ci := 6) (v := .ref nowh) (C := RX6) (T := TX6) (N := 11) hx hb hts hin6 hown hK hP 0 rfl rfl 2 (by decide) k26 (fun _ h9 => h9) rfl dX6_promise_57 ?_
      refine va_get (D := (dC, dI)) (ci := 4) (v := .ref nowq_giverOf) (C := RX4) (T := TX4) (N := 13) hx hb hts hin4 hown hK hP 1 rfl rfl 7 (by decide) k168 (fun _ h9 => h9) rfl dX6_promise_60 ?_
      refine lv_iload_n hx hb dX6_promise_63 rfl (lv_at hl 1 rfl) ?_
      obtain ⟨g4, hf⟩ := bs_g hf
      refine va_iald hx hb hK hP 3 0 rfl rfl (bs_inV g4) dX6_promise_64 ?_
      obtain rfl := Option.some.inj hf
      exact hret H locs _ _ hP hS rfl dX6_promise_65
    · have hf := bs_f hf c3
      by_cases c5 : p2 = 1
      · have hf := bs_t hf c5
        refine lv_tableIn (tgt := 66) hx hb dX6_promise_12 (by rw [c5]; decide) (by rw [c5]; decide) (by rw [c5]; rfl) (by decide) ?_
        refine lv_aload_n hx hb dX6_promise_66 rfl (lv_at hl 0 rfl) ?_
        refine va_get (D := (dC, dI)) (ci := 6) (v := .ref nowh) (C := RX6) (T := TX6) (N := 11) hx hb hts hin6 hown hK hP 0 rfl rfl 2 (by decide) k26 (fun _ h9 => h9) rfl dX6_promise_67 ?_
        refine va_get (D := (dC, dI)) (ci := 4) (v := .ref nowq_deedOf) (C := RX4) (T := TX4) (N := 13) hx hb hts hin4 hown hK hP 1 rfl rfl 8 (by decide) k184 (fun _ h9 => h9) rfl dX6_promise_70 ?_
        refine lv_iload_n hx hb dX6_promise_73 rfl (lv_at hl 1 rfl) ?_
        obtain ⟨g6, hf⟩ := bs_g hf
        refine va_iald hx hb hK hP 4 0 rfl rfl (bs_inV g6) dX6_promise_74 ?_
        obtain rfl := Option.some.inj hf
        exact hret H locs _ _ hP hS rfl dX6_promise_75
      · have hf := bs_f hf c5
        by_cases c7 : p2 = 2
        · have hf := bs_t hf c7
          refine lv_tableIn (tgt := 76) hx hb dX6_promise_12 (by rw [c7]; decide) (by rw [c7]; decide) (by rw [c7]; rfl) (by decide) ?_
          refine lv_aload_n hx hb dX6_promise_76 rfl (lv_at hl 0 rfl) ?_
          refine va_get (D := (dC, dI)) (ci := 6) (v := .ref nowh) (C := RX6) (T := TX6) (N := 11) hx hb hts hin6 hown hK hP 0 rfl rfl 2 (by decide) k26 (fun _ h9 => h9) rfl dX6_promise_77 ?_
          refine va_get (D := (dC, dI)) (ci := 4) (v := .ref nowq_dayOf) (C := RX4) (T := TX4) (N := 13) hx hb hts hin4 hown hK hP 1 rfl rfl 9 (by decide) k187 (fun _ h9 => h9) rfl dX6_promise_80 ?_
          refine lv_iload_n hx hb dX6_promise_83 rfl (lv_at hl 1 rfl) ?_
          obtain ⟨g8, hf⟩ := bs_g hf
          refine va_iald hx hb hK hP 5 0 rfl rfl (bs_inV g8) dX6_promise_84 ?_
          obtain rfl := Option.some.inj hf
          exact hret H locs _ _ hP hS rfl dX6_promise_85
        · have hf := bs_f hf c7
          by_cases c9 : p2 = 3
          · have hf := bs_t hf c9
            refine lv_tableIn (tgt := 86) hx hb dX6_promise_12 (by rw [c9]; decide) (by rw [c9]; decide) (by rw [c9]; rfl) (by decide) ?_
            refine lv_aload_n hx hb dX6_promise_86 rfl (lv_at hl 0 rfl) ?_
            refine va_get (D := (dC, dI)) (ci := 6) (v := .ref nowh) (C := RX6) (T := TX6) (N := 11) hx hb hts hin6 hown hK hP 0 rfl rfl 2 (by decide) k26 (fun _ h9 => h9) rfl dX6_promise_87 ?_
            refine va_get (D := (dC, dI)) (ci := 4) (v := .ref nowq_likelyOf) (C := RX4) (T := TX4) (N := 13) hx hb hts hin4 hown hK hP 1 rfl rfl 10 (by decide) k190 (fun _ h9 => h9) rfl dX6_promise_90 ?_
            refine lv_iload_n hx hb dX6_promise_93 rfl (lv_at hl 1 rfl) ?_
            obtain ⟨g10, hf⟩ := bs_g hf
            refine va_iald hx hb hK hP 6 0 rfl rfl (bs_inV g10) dX6_promise_94 ?_
            obtain rfl := Option.some.inj hf
            exact hret H locs _ _ hP hS rfl dX6_promise_95
          · have hf := bs_f hf c9
            by_cases c11 : p2 = 4
            · have hf := bs_t hf c11
              refine lv_tableIn (tgt := 96) hx hb dX6_promise_12 (by rw [c11]; decide) (by rw [c11]; decide) (by rw [c11]; rfl) (by decide) ?_
              refine lv_aload_n hx hb dX6_promise_96 rfl (lv_at hl 0 rfl) ?_
              refine va_get (D := (dC, dI)) (ci := 6) (v := .ref nowh) (C := RX6) (T := TX6) (N := 11) hx hb hts hin6 hown hK hP 0 rfl rfl 2 (by decide) k26 (fun _ h9 => h9) rfl dX6_promise_97 ?_
              refine lv_iload_n hx hb dX6_promise_100 rfl (lv_at hl 1 rfl) ?_
              obtain ⟨z12, hz12, hf⟩ := bs_b hf
              refine bs_cViR ⟨hx, hb, hml, hown, hts⟩ (k_X4_weightOf l dC dI cI cZ cS cG nowh nowq_keeping nowq_giverOf nowq_deedOf nowq_dayOf nowq_likelyOf nowq_kindOf nowq_settledOf now_told now_wax now_stick now_givers now_promises now_pan now_keeping now_giverOf now_deedOf now_dayOf now_likelyOf now_kindOf now_settledOf p1 z12 hz12) (cwV 1 hts gX6_promise_X4_weightOf rfl rfl rfl (by decide +kernel) ⟨Nat.le_of_ble_eq_true rfl, Nat.le_of_ble_eq_true rfl⟩) hE hP hD hA hS [1, 2, 3, 4, 5, 6, 7, 8] rfl rfl 4 0 rfl rfl rfl rfl hl.1 (Nat.le_of_ble_eq_true rfl) dX6_promise_101 (fun H locs hP hS => ?_)
              obtain rfl := Option.some.inj hf
              exact hret H locs _ _ hP hS rfl dX6_promise_104
            · have hf := bs_f hf c11
              by_cases c13 : p2 = 5
              · have hf := bs_t hf c13
                refine lv_tableIn (tgt := 105) hx hb dX6_promise_12 (by rw [c13]; decide) (by rw [c13]; decide) (by rw [c13]; rfl) (by decide) ?_
                refine lv_aload_n hx hb dX6_promise_105 rfl (lv_at hl 0 rfl) ?_
                refine va_get (D := (dC, dI)) (ci := 6) (v := .ref nowh) (C := RX6) (T := TX6) (N := 11) hx hb hts hin6 hown hK hP 0 rfl rfl 2 (by decide) k26 (fun _ h9 => h9) rfl dX6_promise_106 ?_
                refine va_get (D := (dC, dI)) (ci := 4) (v := .ref nowq_settledOf) (C := RX4) (T := TX4) (N := 13) hx hb hts hin4 hown hK hP 1 rfl rfl 12 (by decide) k196 (fun _ h9 => h9) rfl dX6_promise_109 ?_
                refine lv_iload_n hx hb dX6_promise_112 rfl (lv_at hl 1 rfl) ?_
                obtain ⟨g14, hf⟩ := bs_g hf
                refine va_iald hx hb hK hP 8 0 rfl rfl (bs_inV g14) dX6_promise_113 ?_
                obtain rfl := Option.some.inj hf
                exact hret H locs _ _ hP hS rfl dX6_promise_114
              · have hf := bs_f hf c13
                by_cases c15 : p2 = 6
                · have hf := bs_t hf c15
                  refine lv_tableIn (tgt := 115) hx hb dX6_promise_12 (by rw [c15]; decide) (by rw [c15]; decide) (by rw [c15]; rfl) (by decide) ?_
                  refine lv_aload_n hx hb dX6_promise_115 rfl (lv_at hl 0 rfl) ?_
                  refine va_get (D := (dC, dI)) (ci := 6) (v := .ref nowh) (C := RX6) (T := TX6) (N := 11) hx hb hts hin6 hown hK hP 0 rfl rfl 2 (by decide) k26 (fun _ h9 => h9) rfl dX6_promise_116 ?_
                  refine lv_iload_n hx hb dX6_promise_119 rfl (lv_at hl 1 rfl) ?_
                  obtain ⟨z16, hz16, hf⟩ := bs_b hf
                  refine bs_cViR ⟨hx, hb, hml, hown, hts⟩ (k_X4_isLaid l dC dI cI cZ cS cG nowh nowq_keeping nowq_giverOf nowq_deedOf nowq_dayOf nowq_likelyOf nowq_kindOf nowq_settledOf now_told now_wax now_stick now_givers now_promises now_pan now_keeping now_giverOf now_deedOf now_dayOf now_likelyOf now_kindOf now_settledOf p1 z16 hz16) (cwV 1 hts gX6_promise_X4_isLaid rfl rfl rfl (by decide +kernel) ⟨Nat.le_of_ble_eq_true rfl, Nat.le_of_ble_eq_true rfl⟩) hE hP hD hA hS [1, 2, 3, 4, 5, 6, 7, 8] rfl rfl 4 0 rfl rfl rfl rfl hl.1 (Nat.le_of_ble_eq_true rfl) dX6_promise_120 (fun H locs hP hS => ?_)
                  refine lv_if_eq (tgt := 130) hx hb dX6_promise_123 (by decide) (fun c17 => ?_) (fun c17 => ?_)
                  · have hf := bs_t hf c17
                    refine lv_iconst (v := 0) hx hb dX6_promise_130 (by decide) ?_
                    obtain rfl := Option.some.inj hf
                    exact hret H locs _ _ hP hS rfl dX6_promise_131
                  · have hf := bs_f hf c17
                    refine lv_iconst (v := 1) hx hb dX6_promise_126 (by decide) ?_
                    refine lv_goto (tgt := 131) hx hb dX6_promise_127 (by decide) ?_
                    obtain rfl := Option.some.inj hf
                    exact hret H locs _ _ hP hS rfl dX6_promise_131
                · have hf := bs_f hf c15
                  refine lv_tableOut (tgt := 132) hx hb dX6_promise_12 (bs_sw (fun v h1 h2 => ?_)) (by decide) ?_
                  · rcases (by omega : v = 0 ∨ v = 1 ∨ v = 2 ∨ v = 3 ∨ v = 4 ∨ v = 5 ∨ v = 6) with rfl | rfl | rfl | rfl | rfl | rfl | rfl
                    · exact bs_ne 0 (by decide) c3
                    · exact bs_ne 1 (by decide) c5
                    · exact bs_ne 2 (by decide) c7
                    · exact bs_ne 3 (by decide) c9
                    · exact bs_ne 4 (by decide) c11
                    · exact bs_ne 5 (by decide) c13
                    · exact bs_ne 6 (by decide) c15
                  · refine lv_ldc hx hb hown (hts (.constant RX6 69 (-1000001)) (by decide +kernel)) dX6_promise_132 ?_
                    obtain rfl := Option.some.inj hf
                    exact hret H locs _ _ hP hS rfl dX6_promise_134
  · have hf := bs_t hf c2
    refine lv_ldc hx hb hown (hts (.constant RX6 69 (-1000001)) (by decide +kernel)) dX6_promise_8 ?_
    obtain rfl := Option.some.inj hf
    exact hret H locs _ _ hP hS rfl dX6_promise_10
set_option maxHeartbeats 4000000 in
set_option maxRecDepth 100000 in
theorem k_X6_isGiver (l : Launch) (dC : Nat → ClassId) (dI : Nat → Nat → Nat) (cI cZ cS cG : ClassId) (psh : Nat) (rowsh : Nat) (tapeh : Nat) (nowh : Nat) (drafth : Nat) (trialh : Nat) (psq_images : Nat) (actsh : Nat) (sackh : Nat) (asksh : Nat) (nowq_keeping : Nat) (nowq_giverOf : Nat) (nowq_deedOf : Nat) (nowq_dayOf : Nat) (nowq_likelyOf : Nat) (nowq_kindOf : Nat) (nowq_settledOf : Nat) (ps_latestFault : Int32) (ps_latestFinding : Int32) (now_told : Int32) (now_wax : Int32) (now_stick : Int32) (now_givers : Int32) (now_promises : Int32) (now_pan : Int32) (now_keeping : Nat → Int32) (now_giverOf : Nat → Int32) (now_deedOf : Nat → Int32) (now_dayOf : Nat → Int32) (now_likelyOf : Nat → Int32) (now_kindOf : Nat → Int32) (now_settledOf : Nat → Int32) (p1 : Int32) (out : Int32) (hf : f_X6_isGiver now_givers p1 = some out) : bs_C l dC dI cI cZ cS cG yX6_isGiver wsX6_isGiver ({ frames := 0, cells := 0, slots := 0, locals := 0 } : Room) [.ref psh, .int p1] ([(psh, .inr (6, [.ref rowsh, .ref tapeh, .ref nowh, .ref drafth, .ref trialh, .ref psq_images, .ref actsh, .ref sackh, .ref asksh, .int ps_latestFault, .int ps_latestFinding])), (nowh, .inr (4, [.int now_told, .int now_wax, .int now_stick, .int now_givers, .int now_promises, .int now_pan, .ref nowq_keeping, .ref nowq_giverOf, .ref nowq_deedOf, .ref nowq_dayOf, .ref nowq_likelyOf, .ref nowq_kindOf, .ref nowq_settledOf])), (nowq_keeping, .inl (cI, 4, .inl now_keeping)), (nowq_giverOf, .inl (cI, 8, .inl now_giverOf)), (nowq_deedOf, .inl (cI, 8, .inl now_deedOf)), (nowq_dayOf, .inl (cI, 8, .inl now_dayOf)), (nowq_likelyOf, .inl (cI, 8, .inl now_likelyOf)), (nowq_kindOf, .inl (cI, 8, .inl now_kindOf)), (nowq_settledOf, .inl (cI, 8, .inl now_settledOf))]) out ([(psh, .inr (6, [.ref rowsh, .ref tapeh, .ref nowh, .ref drafth, .ref trialh, .ref psq_images, .ref actsh, .ref sackh, .ref asksh, .int ps_latestFault, .int ps_latestFinding])), (nowh, .inr (4, [.int now_told, .int now_wax, .int now_stick, .int now_givers, .int now_promises, .int now_pan, .ref nowq_keeping, .ref nowq_giverOf, .ref nowq_deedOf, .ref nowq_dayOf, .ref nowq_likelyOf, .ref nowq_kindOf, .ref nowq_settledOf])), (nowq_keeping, .inl (cI, 4, .inl now_keeping)), (nowq_giverOf, .inl (cI, 8, .inl now_giverOf)), (nowq_deedOf, .inl (cI, 8, .inl now_deedOf)), (nowq_dayOf, .inl (cI, 8, .inl now_dayOf)), (nowq_likelyOf, .inl (cI, 8, .inl now_likelyOf)), (nowq_kindOf, .inl (cI, 8, .inl now_kindOf)), (nowq_settledOf, .inl (cI, 8, .inl now_settledOf))]) := by
  refine bs_ofI (cc := cX6_isGiver) (maxL := 2) (by decide) rfl (Nat.le_of_ble_eq_true rfl) ?_
  intro p e s m below meth c A Q hx hb hown hml hts hE H locs hP hD hA hS ls hl hret
  have hK := hE.1
  have hl : lv_has ls 2 [(0, .ref psh), (1, .int p1)] := hl
  have hin4 : ∀ w ∈ u_ws RX4 TX4 13, w ∈ wsX6_isGiver := by decide +kernel
  have hin6 : ∀ w ∈ u_ws RX6 TX6 11, w ∈ wsX6_isGiver := by decide +kernel
  have k26 := hts (.fieldLink RX6 26 "PromiseScales" "now" "LPromiseScales$Scales;") (by decide +kernel)
  have k287 := hts (.fieldLink RX6 287 "PromiseScales$Scales" "givers" "I") (by decide +kernel)
  unfold f_X6_isGiver at hf
  refine lv_iload_n hx hb dX6_isGiver_0 rfl (lv_at hl 1 rfl) ?_
  refine lv_if_lt (tgt := 19) hx hb dX6_isGiver_1 (by decide) (fun c1 => ?_) (fun c1 => ?_)
  · have hf := bs_t hf c1
    refine lv_iconst (v := 0) hx hb dX6_isGiver_19 (by decide) ?_
    obtain rfl := Option.some.inj hf
    exact hret H locs _ _ hP hS bs_n0 dX6_isGiver_20
  · have hf := bs_f hf c1
    refine lv_iload_n hx hb dX6_isGiver_4 rfl (lv_at hl 1 rfl) ?_
    refine lv_aload_n hx hb dX6_isGiver_5 rfl (lv_at hl 0 rfl) ?_
    refine va_get (D := (dC, dI)) (ci := 6) (v := .ref nowh) (C := RX6) (T := TX6) (N := 11) hx hb hts hin6 hown hK hP 0 rfl rfl 2 (by decide) k26 (fun _ h9 => h9) rfl dX6_isGiver_6 ?_
    refine va_get (D := (dC, dI)) (ci := 4) (v := .int now_givers) (C := RX4) (T := TX4) (N := 13) hx hb hts hin4 hown hK hP 1 rfl rfl 3 (by decide) k287 (fun _ h9 => h9) rfl dX6_isGiver_9 ?_
    refine lv_icmp_ge (tgt := 19) hx hb dX6_isGiver_12 (by decide) (fun c2 => ?_) (fun c2 => ?_)
    · have hf := bs_t hf c2
      refine lv_iconst (v := 0) hx hb dX6_isGiver_19 (by decide) ?_
      obtain rfl := Option.some.inj hf
      exact hret H locs _ _ hP hS bs_n0 dX6_isGiver_20
    · have hf := bs_f hf c2
      refine lv_iconst (v := 1) hx hb dX6_isGiver_15 (by decide) ?_
      refine lv_goto (tgt := 20) hx hb dX6_isGiver_16 (by decide) ?_
      obtain rfl := Option.some.inj hf
      exact hret H locs _ _ hP hS bs_n1 dX6_isGiver_20
set_option maxHeartbeats 4000000 in
set_option maxRecDepth 100000 in
theorem k_X6_keeps (l : Launch) (dC : Nat → ClassId) (dI : Nat → Nat → Nat) (cI cZ cS cG : ClassId) (psh : Nat) (rowsh : Nat) (tapeh : Nat) (nowh : Nat) (drafth : Nat) (trialh : Nat) (psq_images : Nat) (actsh : Nat) (sackh : Nat) (asksh : Nat) (nowq_keeping : Nat) (nowq_giverOf : Nat) (nowq_deedOf : Nat) (nowq_dayOf : Nat) (nowq_likelyOf : Nat) (nowq_kindOf : Nat) (nowq_settledOf : Nat) (ps_latestFault : Int32) (ps_latestFinding : Int32) (now_told : Int32) (now_wax : Int32) (now_stick : Int32) (now_givers : Int32) (now_promises : Int32) (now_pan : Int32) (now_keeping : Nat → Int32) (now_giverOf : Nat → Int32) (now_deedOf : Nat → Int32) (now_dayOf : Nat → Int32) (now_likelyOf : Nat → Int32) (now_kindOf : Nat → Int32) (now_settledOf : Nat → Int32) (p1 : Int32) (out : Int32) (hf : f_X6_keeps now_givers now_keeping p1 = some out) : bs_C l dC dI cI cZ cS cG yX6_keeps wsX6_keeps ({ frames := 1, cells := 0, slots := 0, locals := 21 } : Room) [.ref psh, .int p1] ([(psh, .inr (6, [.ref rowsh, .ref tapeh, .ref nowh, .ref drafth, .ref trialh, .ref psq_images, .ref actsh, .ref sackh, .ref asksh, .int ps_latestFault, .int ps_latestFinding])), (nowh, .inr (4, [.int now_told, .int now_wax, .int now_stick, .int now_givers, .int now_promises, .int now_pan, .ref nowq_keeping, .ref nowq_giverOf, .ref nowq_deedOf, .ref nowq_dayOf, .ref nowq_likelyOf, .ref nowq_kindOf, .ref nowq_settledOf])), (nowq_keeping, .inl (cI, 4, .inl now_keeping)), (nowq_giverOf, .inl (cI, 8, .inl now_giverOf)), (nowq_deedOf, .inl (cI, 8, .inl now_deedOf)), (nowq_dayOf, .inl (cI, 8, .inl now_dayOf)), (nowq_likelyOf, .inl (cI, 8, .inl now_likelyOf)), (nowq_kindOf, .inl (cI, 8, .inl now_kindOf)), (nowq_settledOf, .inl (cI, 8, .inl now_settledOf))]) out ([(psh, .inr (6, [.ref rowsh, .ref tapeh, .ref nowh, .ref drafth, .ref trialh, .ref psq_images, .ref actsh, .ref sackh, .ref asksh, .int ps_latestFault, .int ps_latestFinding])), (nowh, .inr (4, [.int now_told, .int now_wax, .int now_stick, .int now_givers, .int now_promises, .int now_pan, .ref nowq_keeping, .ref nowq_giverOf, .ref nowq_deedOf, .ref nowq_dayOf, .ref nowq_likelyOf, .ref nowq_kindOf, .ref nowq_settledOf])), (nowq_keeping, .inl (cI, 4, .inl now_keeping)), (nowq_giverOf, .inl (cI, 8, .inl now_giverOf)), (nowq_deedOf, .inl (cI, 8, .inl now_deedOf)), (nowq_dayOf, .inl (cI, 8, .inl now_dayOf)), (nowq_likelyOf, .inl (cI, 8, .inl now_likelyOf)), (nowq_kindOf, .inl (cI, 8, .inl now_kindOf)), (nowq_settledOf, .inl (cI, 8, .inl now_settledOf))]) := by
  refine bs_ofI (cc := cX6_keeps) (maxL := 2) (by decide) rfl (Nat.le_of_ble_eq_true rfl) ?_
  intro p e s m below meth c A Q hx hb hown hml hts hE H locs hP hD hA hS ls hl hret
  have hK := hE.1
  have hl : lv_has ls 2 [(0, .ref psh), (1, .int p1)] := hl
  have hin4 : ∀ w ∈ u_ws RX4 TX4 13, w ∈ wsX6_keeps := by decide +kernel
  have hin6 : ∀ w ∈ u_ws RX6 TX6 11, w ∈ wsX6_keeps := by decide +kernel
  have k26 := hts (.fieldLink RX6 26 "PromiseScales" "now" "LPromiseScales$Scales;") (by decide +kernel)
  have k164 := hts (.fieldLink RX6 164 "PromiseScales$Scales" "keeping" "[I") (by decide +kernel)
  unfold f_X6_keeps at hf
  refine lv_aload_n hx hb dX6_keeps_0 rfl (lv_at hl 0 rfl) ?_
  refine lv_iload_n hx hb dX6_keeps_1 rfl (lv_at hl 1 rfl) ?_
  obtain ⟨z1, hz1, hf⟩ := bs_b hf
  refine bs_cViR ⟨hx, hb, hml, hown, hts⟩ (k_X6_isGiver l dC dI cI cZ cS cG psh rowsh tapeh nowh drafth trialh psq_images actsh sackh asksh nowq_keeping nowq_giverOf nowq_deedOf nowq_dayOf nowq_likelyOf nowq_kindOf nowq_settledOf ps_latestFault ps_latestFinding now_told now_wax now_stick now_givers now_promises now_pan now_keeping now_giverOf now_deedOf now_dayOf now_likelyOf now_kindOf now_settledOf p1 z1 hz1) (cwV 1 hts gX6_keeps_X6_isGiver rfl rfl rfl (by decide +kernel) ⟨Nat.le_of_ble_eq_true rfl, Nat.le_of_ble_eq_true rfl⟩) hE hP hD hA hS [0, 1, 2, 3, 4, 5, 6, 7, 8] rfl rfl 6 0 rfl rfl rfl rfl hl.1 (Nat.le_of_ble_eq_true rfl) dX6_keeps_2 (fun H locs hP hS => ?_)
  refine lv_if_eq (tgt := 20) hx hb dX6_keeps_5 (by decide) (fun c2 => ?_) (fun c2 => ?_)
  · have hf := bs_t hf c2
    refine lv_ldc hx hb hown (hts (.constant RX6 69 (-1000001)) (by decide +kernel)) dX6_keeps_20 ?_
    obtain rfl := Option.some.inj hf
    exact hret H locs _ _ hP hS rfl dX6_keeps_22
  · have hf := bs_f hf c2
    refine lv_aload_n hx hb dX6_keeps_8 rfl (lv_at hl 0 rfl) ?_
    refine va_get (D := (dC, dI)) (ci := 6) (v := .ref nowh) (C := RX6) (T := TX6) (N := 11) hx hb hts hin6 hown hK hP 0 rfl rfl 2 (by decide) k26 (fun _ h9 => h9) rfl dX6_keeps_9 ?_
    refine va_get (D := (dC, dI)) (ci := 4) (v := .ref nowq_keeping) (C := RX4) (T := TX4) (N := 13) hx hb hts hin4 hown hK hP 1 rfl rfl 6 (by decide) k164 (fun _ h9 => h9) rfl dX6_keeps_12 ?_
    refine lv_iload_n hx hb dX6_keeps_15 rfl (lv_at hl 1 rfl) ?_
    obtain ⟨g3, hf⟩ := bs_g hf
    refine va_iald hx hb hK hP 2 0 rfl rfl (bs_inV g3) dX6_keeps_16 ?_
    refine lv_goto (tgt := 22) hx hb dX6_keeps_17 (by decide) ?_
    obtain rfl := Option.some.inj hf
    exact hret H locs _ _ hP hS rfl dX6_keeps_22
set_option maxHeartbeats 4000000 in
set_option maxRecDepth 100000 in
theorem k_X6_reads (l : Launch) (dC : Nat → ClassId) (dI : Nat → Nat → Nat) (cI cZ cS cG : ClassId) (psh : Nat) (rowsh : Nat) (tapeh : Nat) (nowh : Nat) (drafth : Nat) (trialh : Nat) (psq_images : Nat) (actsh : Nat) (sackh : Nat) (asksh : Nat) (nowq_keeping : Nat) (nowq_giverOf : Nat) (nowq_deedOf : Nat) (nowq_dayOf : Nat) (nowq_likelyOf : Nat) (nowq_kindOf : Nat) (nowq_settledOf : Nat) (ps_latestFault : Int32) (ps_latestFinding : Int32) (now_told : Int32) (now_wax : Int32) (now_stick : Int32) (now_givers : Int32) (now_promises : Int32) (now_pan : Int32) (now_keeping : Nat → Int32) (now_giverOf : Nat → Int32) (now_deedOf : Nat → Int32) (now_dayOf : Nat → Int32) (now_likelyOf : Nat → Int32) (now_kindOf : Nat → Int32) (now_settledOf : Nat → Int32) (p1 : Int32) (out : Int32) (hf : f_X6_reads now_told now_wax now_stick now_promises now_keeping now_giverOf now_likelyOf now_kindOf now_settledOf p1 = some out) : bs_C l dC dI cI cZ cS cG yX6_reads wsX6_reads ({ frames := 4, cells := 0, slots := 0, locals := 92 } : Room) [.ref psh, .int p1] ([(psh, .inr (6, [.ref rowsh, .ref tapeh, .ref nowh, .ref drafth, .ref trialh, .ref psq_images, .ref actsh, .ref sackh, .ref asksh, .int ps_latestFault, .int ps_latestFinding])), (nowh, .inr (4, [.int now_told, .int now_wax, .int now_stick, .int now_givers, .int now_promises, .int now_pan, .ref nowq_keeping, .ref nowq_giverOf, .ref nowq_deedOf, .ref nowq_dayOf, .ref nowq_likelyOf, .ref nowq_kindOf, .ref nowq_settledOf])), (nowq_keeping, .inl (cI, 4, .inl now_keeping)), (nowq_giverOf, .inl (cI, 8, .inl now_giverOf)), (nowq_deedOf, .inl (cI, 8, .inl now_deedOf)), (nowq_dayOf, .inl (cI, 8, .inl now_dayOf)), (nowq_likelyOf, .inl (cI, 8, .inl now_likelyOf)), (nowq_kindOf, .inl (cI, 8, .inl now_kindOf)), (nowq_settledOf, .inl (cI, 8, .inl now_settledOf))]) out ([(psh, .inr (6, [.ref rowsh, .ref tapeh, .ref nowh, .ref drafth, .ref trialh, .ref psq_images, .ref actsh, .ref sackh, .ref asksh, .int ps_latestFault, .int ps_latestFinding])), (nowh, .inr (4, [.int now_told, .int now_wax, .int now_stick, .int now_givers, .int now_promises, .int now_pan, .ref nowq_keeping, .ref nowq_giverOf, .ref nowq_deedOf, .ref nowq_dayOf, .ref nowq_likelyOf, .ref nowq_kindOf, .ref nowq_settledOf])), (nowq_keeping, .inl (cI, 4, .inl now_keeping)), (nowq_giverOf, .inl (cI, 8, .inl now_giverOf)), (nowq_deedOf, .inl (cI, 8, .inl now_deedOf)), (nowq_dayOf, .inl (cI, 8, .inl now_dayOf)), (nowq_likelyOf, .inl (cI, 8, .inl now_likelyOf)), (nowq_kindOf, .inl (cI, 8, .inl now_kindOf)), (nowq_settledOf, .inl (cI, 8, .inl now_settledOf))]) := by
  refine bs_ofI (cc := cX6_reads) (maxL := 2) (by decide) rfl (Nat.le_of_ble_eq_true rfl) ?_
  intro p e s m below meth c A Q hx hb hown hml hts hE H locs hP hD hA hS ls hl hret
  have hK := hE.1
  have hl : lv_has ls 2 [(0, .ref psh), (1, .int p1)] := hl
  have hin4 : ∀ w ∈ u_ws RX4 TX4 13, w ∈ wsX6_reads := by decide +kernel
  have hin6 : ∀ w ∈ u_ws RX6 TX6 11, w ∈ wsX6_reads := by decide +kernel
  have k26 := hts (.fieldLink RX6 26 "PromiseScales" "now" "LPromiseScales$Scales;") (by decide +kernel)
  have k171 := hts (.fieldLink RX6 171 "PromiseScales$Scales" "told" "Z") (by decide +kernel)
  unfold f_X6_reads at hf
  refine lv_aload_n hx hb dX6_reads_0 rfl (lv_at hl 0 rfl) ?_
  refine va_get (D := (dC, dI)) (ci := 6) (v := .ref nowh) (C := RX6) (T := TX6) (N := 11) hx hb hts hin6 hown hK hP 0 rfl rfl 2 (by decide) k26 (fun _ h9 => h9) rfl dX6_reads_1 ?_
  refine va_get (D := (dC, dI)) (ci := 4) (v := .int now_told) (C := RX4) (T := TX4) (N := 13) hx hb hts hin4 hown hK hP 1 rfl rfl 0 (by decide) k171 (fun _ h9 => h9) rfl dX6_reads_4 ?_
  refine lv_if_ne (tgt := 13) hx hb dX6_reads_7 (by decide) (fun c1 => ?_) (fun c1 => ?_)
  · have hf := bs_f hf c1
    refine lv_aload_n hx hb dX6_reads_13 rfl (lv_at hl 0 rfl) ?_
    refine va_get (D := (dC, dI)) (ci := 6) (v := .ref nowh) (C := RX6) (T := TX6) (N := 11) hx hb hts hin6 hown hK hP 0 rfl rfl 2 (by decide) k26 (fun _ h9 => h9) rfl dX6_reads_14 ?_
    refine lv_iload_n hx hb dX6_reads_17 rfl (lv_at hl 1 rfl) ?_
    obtain ⟨z2, hz2, hf⟩ := bs_b hf
    refine bs_cViR ⟨hx, hb, hml, hown, hts⟩ (k_X4_isSet l dC dI cI cZ cS cG nowh nowq_keeping nowq_giverOf nowq_deedOf nowq_dayOf nowq_likelyOf nowq_kindOf nowq_settledOf now_told now_wax now_stick now_givers now_promises now_pan now_keeping now_giverOf now_deedOf now_dayOf now_likelyOf now_kindOf now_settledOf p1 z2 hz2) (cwV 1 hts gX6_reads_X4_isSet rfl rfl rfl (by decide +kernel) ⟨Nat.le_of_ble_eq_true rfl, Nat.le_of_ble_eq_true rfl⟩) hE hP hD hA hS [1, 2, 3, 4, 5, 6, 7, 8] rfl rfl 4 0 rfl rfl rfl rfl hl.1 (Nat.le_of_ble_eq_true rfl) dX6_reads_18 (fun H locs hP hS => ?_)
    refine lv_if_eq (tgt := 35) hx hb dX6_reads_21 (by decide) (fun c3 => ?_) (fun c3 => ?_)
    · have hf := bs_t hf c3
      refine lv_ldc hx hb hown (hts (.constant RX6 69 (-1000001)) (by decide +kernel)) dX6_reads_35 ?_
      obtain rfl := Option.some.inj hf
      exact hret H locs _ _ hP hS rfl dX6_reads_37
    · have hf := bs_f hf c3
      refine lv_aload_n hx hb dX6_reads_24 rfl (lv_at hl 0 rfl) ?_
      refine va_get (D := (dC, dI)) (ci := 6) (v := .ref nowh) (C := RX6) (T := TX6) (N := 11) hx hb hts hin6 hown hK hP 0 rfl rfl 2 (by decide) k26 (fun _ h9 => h9) rfl dX6_reads_25 ?_
      refine lv_iload_n hx hb dX6_reads_28 rfl (lv_at hl 1 rfl) ?_
      obtain ⟨z4, hz4, hf⟩ := bs_b hf
      refine bs_cViR ⟨hx, hb, hml, hown, hts⟩ (k_X4_readingOf l dC dI cI cZ cS cG nowh nowq_keeping nowq_giverOf nowq_deedOf nowq_dayOf nowq_likelyOf nowq_kindOf nowq_settledOf now_told now_wax now_stick now_givers now_promises now_pan now_keeping now_giverOf now_deedOf now_dayOf now_likelyOf now_kindOf now_settledOf p1 z4 hz4) (cwV 1 hts gX6_reads_X4_readingOf rfl rfl rfl (by decide +kernel) ⟨Nat.le_of_ble_eq_true rfl, Nat.le_of_ble_eq_true rfl⟩) hE hP hD hA hS [1, 2, 3, 4, 5, 6, 7, 8] rfl rfl 4 0 rfl rfl rfl rfl hl.1 (Nat.le_of_ble_eq_true rfl) dX6_reads_29 (fun H locs hP hS => ?_)
      refine lv_goto (tgt := 37) hx hb dX6_reads_32 (by decide) ?_
      obtain rfl := Option.some.inj hf
      exact hret H locs _ _ hP hS rfl dX6_reads_37
  · have hf := bs_t hf c1
    refine lv_ldc hx hb hown (hts (.constant RX6 145 (-1000002)) (by decide +kernel)) dX6_reads_10 ?_
    obtain rfl := Option.some.inj hf
    exact hret H locs _ _ hP hS rfl dX6_reads_12
set_option maxHeartbeats 4000000 in
set_option maxRecDepth 100000 in
theorem k_X6_clash (l : Launch) (dC : Nat → ClassId) (dI : Nat → Nat → Nat) (cI cZ cS cG : ClassId) (psh : Nat) (rowsh : Nat) (tapeh : Nat) (nowh : Nat) (drafth : Nat) (trialh : Nat) (psq_images : Nat) (actsh : Nat) (sackh : Nat) (asksh : Nat) (nowq_keeping : Nat) (nowq_giverOf : Nat) (nowq_deedOf : Nat) (nowq_dayOf : Nat) (nowq_likelyOf : Nat) (nowq_kindOf : Nat) (nowq_settledOf : Nat) (ps_latestFault : Int32) (ps_latestFinding : Int32) (now_told : Int32) (now_wax : Int32) (now_stick : Int32) (now_givers : Int32) (now_promises : Int32) (now_pan : Int32) (now_keeping : Nat → Int32) (now_giverOf : Nat → Int32) (now_deedOf : Nat → Int32) (now_dayOf : Nat → Int32) (now_likelyOf : Nat → Int32) (now_kindOf : Nat → Int32) (now_settledOf : Nat → Int32) (p1 : Int32) (out : Int32) (hf : f_X6_clash now_told now_promises now_giverOf now_deedOf now_dayOf now_settledOf p1 = some out) : bs_C l dC dI cI cZ cS cG yX6_clash wsX6_clash ({ frames := 3, cells := 0, slots := 0, locals := 66 } : Room) [.ref psh, .int p1] ([(psh, .inr (6, [.ref rowsh, .ref tapeh, .ref nowh, .ref drafth, .ref trialh, .ref psq_images, .ref actsh, .ref sackh, .ref asksh, .int ps_latestFault, .int ps_latestFinding])), (nowh, .inr (4, [.int now_told, .int now_wax, .int now_stick, .int now_givers, .int now_promises, .int now_pan, .ref nowq_keeping, .ref nowq_giverOf, .ref nowq_deedOf, .ref nowq_dayOf, .ref nowq_likelyOf, .ref nowq_kindOf, .ref nowq_settledOf])), (nowq_keeping, .inl (cI, 4, .inl now_keeping)), (nowq_giverOf, .inl (cI, 8, .inl now_giverOf)), (nowq_deedOf, .inl (cI, 8, .inl now_deedOf)), (nowq_dayOf, .inl (cI, 8, .inl now_dayOf)), (nowq_likelyOf, .inl (cI, 8, .inl now_likelyOf)), (nowq_kindOf, .inl (cI, 8, .inl now_kindOf)), (nowq_settledOf, .inl (cI, 8, .inl now_settledOf))]) out ([(psh, .inr (6, [.ref rowsh, .ref tapeh, .ref nowh, .ref drafth, .ref trialh, .ref psq_images, .ref actsh, .ref sackh, .ref asksh, .int ps_latestFault, .int ps_latestFinding])), (nowh, .inr (4, [.int now_told, .int now_wax, .int now_stick, .int now_givers, .int now_promises, .int now_pan, .ref nowq_keeping, .ref nowq_giverOf, .ref nowq_deedOf, .ref nowq_dayOf, .ref nowq_likelyOf, .ref nowq_kindOf, .ref nowq_settledOf])), (nowq_keeping, .inl (cI, 4, .inl now_keeping)), (nowq_giverOf, .inl (cI, 8, .inl now_giverOf)), (nowq_deedOf, .inl (cI, 8, .inl now_deedOf)), (nowq_dayOf, .inl (cI, 8, .inl now_dayOf)), (nowq_likelyOf, .inl (cI, 8, .inl now_likelyOf)), (nowq_kindOf, .inl (cI, 8, .inl now_kindOf)), (nowq_settledOf, .inl (cI, 8, .inl now_settledOf))]) := by
  refine bs_ofI (cc := cX6_clash) (maxL := 2) (by decide) rfl (Nat.le_of_ble_eq_true rfl) ?_
  intro p e s m below meth c A Q hx hb hown hml hts hE H locs hP hD hA hS ls hl hret
  have hK := hE.1
  have hl : lv_has ls 2 [(0, .ref psh), (1, .int p1)] := hl
  have hin4 : ∀ w ∈ u_ws RX4 TX4 13, w ∈ wsX6_clash := by decide +kernel
  have hin6 : ∀ w ∈ u_ws RX6 TX6 11, w ∈ wsX6_clash := by decide +kernel
  have k26 := hts (.fieldLink RX6 26 "PromiseScales" "now" "LPromiseScales$Scales;") (by decide +kernel)
  have k171 := hts (.fieldLink RX6 171 "PromiseScales$Scales" "told" "Z") (by decide +kernel)
  unfold f_X6_clash at hf
  refine lv_aload_n hx hb dX6_clash_0 rfl (lv_at hl 0 rfl) ?_
  refine va_get (D := (dC, dI)) (ci := 6) (v := .ref nowh) (C := RX6) (T := TX6) (N := 11) hx hb hts hin6 hown hK hP 0 rfl rfl 2 (by decide) k26 (fun _ h9 => h9) rfl dX6_clash_1 ?_
  refine va_get (D := (dC, dI)) (ci := 4) (v := .int now_told) (C := RX4) (T := TX4) (N := 13) hx hb hts hin4 hown hK hP 1 rfl rfl 0 (by decide) k171 (fun _ h9 => h9) rfl dX6_clash_4 ?_
  refine lv_if_ne (tgt := 13) hx hb dX6_clash_7 (by decide) (fun c1 => ?_) (fun c1 => ?_)
  · have hf := bs_f hf c1
    refine lv_iload_n hx hb dX6_clash_13 rfl (lv_at hl 1 rfl) ?_
    obtain ⟨z2, hz2, hf⟩ := bs_b hf
    refine bs_cSi ⟨hx, hb, hml, hown, hts⟩ (k_X6_isEither l dC dI cI cZ cS cG p1 z2 hz2) (va_cwS 1 hts gX6_clash_X6_isEither rfl rfl rfl (by decide +kernel) ⟨Nat.le_of_ble_eq_true rfl, Nat.le_of_ble_eq_true rfl⟩) hE hP hD hA hS rfl rfl hl.1 (Nat.le_of_ble_eq_true rfl) dX6_clash_14 (fun H locs hP hS => ?_)
    refine lv_if_ne (tgt := 23) hx hb dX6_clash_17 (by decide) (fun c3 => ?_) (fun c3 => ?_)
    · have hf := bs_f hf c3
      refine lv_iload_n hx hb dX6_clash_23 rfl (lv_at hl 1 rfl) ?_
      refine lv_if_ne (tgt := 37) hx hb dX6_clash_24 (by decide) (fun c4 => ?_) (fun c4 => ?_)
      · have hf := bs_f hf c4
        refine lv_aload_n hx hb dX6_clash_37 rfl (lv_at hl 0 rfl) ?_
        refine va_get (D := (dC, dI)) (ci := 6) (v := .ref nowh) (C := RX6) (T := TX6) (N := 11) hx hb hts hin6 hown hK hP 0 rfl rfl 2 (by decide) k26 (fun _ h9 => h9) rfl dX6_clash_38 ?_
        obtain ⟨z5, hz5, hf⟩ := bs_b hf
        refine bs_cViR ⟨hx, hb, hml, hown, hts⟩ (k_X4_firstPair l dC dI cI cZ cS cG nowh nowq_keeping nowq_giverOf nowq_deedOf nowq_dayOf nowq_likelyOf nowq_kindOf nowq_settledOf now_told now_wax now_stick now_givers now_promises now_pan now_keeping now_giverOf now_deedOf now_dayOf now_likelyOf now_kindOf now_settledOf z5 hz5) (cwV 0 hts gX6_clash_X4_firstPair rfl rfl rfl (by decide +kernel) ⟨Nat.le_of_ble_eq_true rfl, Nat.le_of_ble_eq_true rfl⟩) hE hP hD hA hS [1, 2, 3, 4, 5, 6, 7, 8] rfl rfl 4 0 rfl rfl rfl rfl hl.1 (Nat.le_of_ble_eq_true rfl) dX6_clash_41 (fun H locs hP hS => ?_)
        obtain rfl := Option.some.inj hf
        exact hret H locs _ _ hP hS rfl dX6_clash_44
      · have hf := bs_t hf c4
        refine lv_aload_n hx hb dX6_clash_27 rfl (lv_at hl 0 rfl) ?_
        refine va_get (D := (dC, dI)) (ci := 6) (v := .ref nowh) (C := RX6) (T := TX6) (N := 11) hx hb hts hin6 hown hK hP 0 rfl rfl 2 (by decide) k26 (fun _ h9 => h9) rfl dX6_clash_28 ?_
        obtain ⟨z6, hz6, hf⟩ := bs_b hf
        refine bs_cViR ⟨hx, hb, hml, hown, hts⟩ (k_X4_howManyPairs l dC dI cI cZ cS cG nowh nowq_keeping nowq_giverOf nowq_deedOf nowq_dayOf nowq_likelyOf nowq_kindOf nowq_settledOf now_told now_wax now_stick now_givers now_promises now_pan now_keeping now_giverOf now_deedOf now_dayOf now_likelyOf now_kindOf now_settledOf z6 hz6) (cwV 0 hts gX6_clash_X4_howManyPairs rfl rfl rfl (by decide +kernel) ⟨Nat.le_of_ble_eq_true rfl, Nat.le_of_ble_eq_true rfl⟩) hE hP hD hA hS [1, 2, 3, 4, 5, 6, 7, 8] rfl rfl 4 0 rfl rfl rfl rfl hl.1 (Nat.le_of_ble_eq_true rfl) dX6_clash_31 (fun H locs hP hS => ?_)
        refine lv_goto (tgt := 44) hx hb dX6_clash_34 (by decide) ?_
        obtain rfl := Option.some.inj hf
        exact hret H locs _ _ hP hS rfl dX6_clash_44
    · have hf := bs_t hf c3
      refine lv_ldc hx hb hown (hts (.constant RX6 69 (-1000001)) (by decide +kernel)) dX6_clash_20 ?_
      obtain rfl := Option.some.inj hf
      exact hret H locs _ _ hP hS rfl dX6_clash_22
  · have hf := bs_t hf c1
    refine lv_ldc hx hb hown (hts (.constant RX6 145 (-1000002)) (by decide +kernel)) dX6_clash_10 ?_
    obtain rfl := Option.some.inj hf
    exact hret H locs _ _ hP hS rfl dX6_clash_12
set_option maxHeartbeats 4000000 in
set_option maxRecDepth 100000 in
theorem k_X6_bags (l : Launch) (dC : Nat → ClassId) (dI : Nat → Nat → Nat) (cI cZ cS cG : ClassId) (psh : Nat) (rowsh : Nat) (tapeh : Nat) (nowh : Nat) (drafth : Nat) (trialh : Nat) (psq_images : Nat) (actsh : Nat) (sackh : Nat) (asksh : Nat) (nowq_keeping : Nat) (nowq_giverOf : Nat) (nowq_deedOf : Nat) (nowq_dayOf : Nat) (nowq_likelyOf : Nat) (nowq_kindOf : Nat) (nowq_settledOf : Nat) (sackq_weights : Nat) (sackq_rivals : Nat) (ps_latestFault : Int32) (ps_latestFinding : Int32) (now_told : Int32) (now_wax : Int32) (now_stick : Int32) (now_givers : Int32) (now_promises : Int32) (now_pan : Int32) (now_keeping : Nat → Int32) (now_giverOf : Nat → Int32) (now_deedOf : Nat → Int32) (now_dayOf : Nat → Int32) (now_likelyOf : Nat → Int32) (now_kindOf : Nat → Int32) (now_settledOf : Nat → Int32) (sack_weights : Nat → Int32) (sack_rivals : Nat → Int32) (sack_promises : Int32) (sack_sets : Int32) (sack_wax : Int32) (sack_stick : Int32) (sack_settled : Int32) (p1 : Int32) (p2 : Int32) (out : Int32 × (Nat → Int32) × (Nat → Int32) × Int32 × Int32 × Int32 × Int32 × Int32) (hf : f_X6_bags now_told now_wax now_stick now_promises now_keeping now_giverOf now_deedOf now_dayOf now_likelyOf now_kindOf now_settledOf sack_weights sack_rivals sack_promises sack_sets sack_wax sack_stick sack_settled p1 p2 = some out) : bs_C l dC dI cI cZ cS cG yX6_bags wsX6_bags ({ frames := 4, cells := 0, slots := 0, locals := 92 } : Room) [.ref psh, .int p1, .int p2] ([(psh, .inr (6, [.ref rowsh, .ref tapeh, .ref nowh, .ref drafth, .ref trialh, .ref psq_images, .ref actsh, .ref sackh, .ref asksh, .int ps_latestFault, .int ps_latestFinding])), (nowh, .inr (4, [.int now_told, .int now_wax, .int now_stick, .int now_givers, .int now_promises, .int now_pan, .ref nowq_keeping, .ref nowq_giverOf, .ref nowq_deedOf, .ref nowq_dayOf, .ref nowq_likelyOf, .ref nowq_kindOf, .ref nowq_settledOf])), (nowq_keeping, .inl (cI, 4, .inl now_keeping)), (nowq_giverOf, .inl (cI, 8, .inl now_giverOf)), (nowq_deedOf, .inl (cI, 8, .inl now_deedOf)), (nowq_dayOf, .inl (cI, 8, .inl now_dayOf)), (nowq_likelyOf, .inl (cI, 8, .inl now_likelyOf)), (nowq_kindOf, .inl (cI, 8, .inl now_kindOf)), (nowq_settledOf, .inl (cI, 8, .inl now_settledOf)), (sackh, .inr (2, [.ref sackq_weights, .ref sackq_rivals, .int sack_promises, .int sack_sets, .int sack_wax, .int sack_stick, .int sack_settled])), (sackq_weights, .inl (cI, 8, .inl sack_weights)), (sackq_rivals, .inl (cI, 8, .inl sack_rivals))]) out.1 ([(psh, .inr (6, [.ref rowsh, .ref tapeh, .ref nowh, .ref drafth, .ref trialh, .ref psq_images, .ref actsh, .ref sackh, .ref asksh, .int ps_latestFault, .int ps_latestFinding])), (nowh, .inr (4, [.int now_told, .int now_wax, .int now_stick, .int now_givers, .int now_promises, .int now_pan, .ref nowq_keeping, .ref nowq_giverOf, .ref nowq_deedOf, .ref nowq_dayOf, .ref nowq_likelyOf, .ref nowq_kindOf, .ref nowq_settledOf])), (nowq_keeping, .inl (cI, 4, .inl now_keeping)), (nowq_giverOf, .inl (cI, 8, .inl now_giverOf)), (nowq_deedOf, .inl (cI, 8, .inl now_deedOf)), (nowq_dayOf, .inl (cI, 8, .inl now_dayOf)), (nowq_likelyOf, .inl (cI, 8, .inl now_likelyOf)), (nowq_kindOf, .inl (cI, 8, .inl now_kindOf)), (nowq_settledOf, .inl (cI, 8, .inl now_settledOf)), (sackh, .inr (2, [.ref sackq_weights, .ref sackq_rivals, .int out.2.2.2.1, .int out.2.2.2.2.1, .int out.2.2.2.2.2.1, .int out.2.2.2.2.2.2.1, .int out.2.2.2.2.2.2.2])), (sackq_weights, .inl (cI, 8, .inl out.2.1)), (sackq_rivals, .inl (cI, 8, .inl out.2.2.1))]) := by
  refine bs_ofI (cc := cX6_bags) (maxL := 3) (by decide) rfl (Nat.le_of_ble_eq_true rfl) ?_
  intro p e s m below meth c A Q hx hb hown hml hts hE H locs hP hD hA hS ls hl hret
  have hK := hE.1
  have hl : lv_has ls 3 [(0, .ref psh), (1, .int p1), (2, .int p2)] := hl
  have hin4 : ∀ w ∈ u_ws RX4 TX4 13, w ∈ wsX6_bags := by decide +kernel
  have hin6 : ∀ w ∈ u_ws RX6 TX6 11, w ∈ wsX6_bags := by decide +kernel
  have k26 := hts (.fieldLink RX6 26 "PromiseScales" "now" "LPromiseScales$Scales;") (by decide +kernel)
  have k50 := hts (.fieldLink RX6 50 "PromiseScales" "sack" "LPromiseScales$Bags;") (by decide +kernel)
  have k171 := hts (.fieldLink RX6 171 "PromiseScales$Scales" "told" "Z") (by decide +kernel)
  unfold f_X6_bags at hf
  refine lv_aload_n hx hb dX6_bags_0 rfl (lv_at hl 0 rfl) ?_
  refine va_get (D := (dC, dI)) (ci := 6) (v := .ref nowh) (C := RX6) (T := TX6) (N := 11) hx hb hts hin6 hown hK hP 0 rfl rfl 2 (by decide) k26 (fun _ h9 => h9) rfl dX6_bags_1 ?_
  refine va_get (D := (dC, dI)) (ci := 4) (v := .int now_told) (C := RX4) (T := TX4) (N := 13) hx hb hts hin4 hown hK hP 1 rfl rfl 0 (by decide) k171 (fun _ h9 => h9) rfl dX6_bags_4 ?_
  refine lv_if_ne (tgt := 13) hx hb dX6_bags_7 (by decide) (fun c1 => ?_) (fun c1 => ?_)
  · have hf := bs_f hf c1
    refine lv_iload_n hx hb dX6_bags_13 rfl (lv_at hl 1 rfl) ?_
    refine lv_iconst (v := 0) hx hb dX6_bags_14 (by decide) ?_
    refine lv_sipush (v := 200) hx hb dX6_bags_15 (by decide) ?_
    obtain ⟨z2, hz2, hf⟩ := bs_b hf
    refine bs_cSi ⟨hx, hb, hml, hown, hts⟩ (k_X6_isWithin l dC dI cI cZ cS cG p1 (0 : Int32) (200 : Int32) z2 hz2) (va_cwS 3 hts gX6_bags_X6_isWithin rfl rfl rfl (by decide +kernel) ⟨Nat.le_of_ble_eq_true rfl, Nat.le_of_ble_eq_true rfl⟩) hE hP hD hA hS rfl rfl hl.1 (Nat.le_of_ble_eq_true rfl) dX6_bags_18 (fun H locs hP hS => ?_)
    refine lv_if_eq (tgt := 31) hx hb dX6_bags_21 (by decide) (fun c3 => ?_) (fun c3 => ?_)
    · have hf := bs_t hf c3
      refine lv_ldc hx hb hown (hts (.constant RX6 69 (-1000001)) (by decide +kernel)) dX6_bags_31 ?_
      obtain rfl := Option.some.inj hf
      exact hret H locs _ _ hP hS rfl dX6_bags_33
    · have hf := bs_f hf c3
      refine lv_iload_n hx hb dX6_bags_24 rfl (lv_at hl 2 rfl) ?_
      obtain ⟨z4, hz4, hf⟩ := bs_b hf
      refine bs_cSi ⟨hx, hb, hml, hown, hts⟩ (k_X6_isEither l dC dI cI cZ cS cG p2 z4 hz4) (va_cwS 1 hts gX6_bags_X6_isEither rfl rfl rfl (by decide +kernel) ⟨Nat.le_of_ble_eq_true rfl, Nat.le_of_ble_eq_true rfl⟩) hE hP hD hA hS rfl rfl hl.1 (Nat.le_of_ble_eq_true rfl) dX6_bags_25 (fun H locs hP hS => ?_)
      refine lv_if_ne (tgt := 34) hx hb dX6_bags_28 (by decide) (fun c5 => ?_) (fun c5 => ?_)
      · have hf := bs_f hf c5
        refine lv_aload_n hx hb dX6_bags_34 rfl (lv_at hl 0 rfl) ?_
        refine va_get (D := (dC, dI)) (ci := 6) (v := .ref sackh) (C := RX6) (T := TX6) (N := 11) hx hb hts hin6 hown hK hP 0 rfl rfl 7 (by decide) k50 (fun _ h9 => h9) rfl dX6_bags_35 ?_
        refine lv_aload_n hx hb dX6_bags_38 rfl (lv_at hl 0 rfl) ?_
        refine va_get (D := (dC, dI)) (ci := 6) (v := .ref nowh) (C := RX6) (T := TX6) (N := 11) hx hb hts hin6 hown hK hP 0 rfl rfl 2 (by decide) k26 (fun _ h9 => h9) rfl dX6_bags_39 ?_
        obtain ⟨z6, hz6, hf⟩ := bs_b hf
        refine bs_cVv (ws1 := [(psh, .inr (6, [.ref rowsh, .ref tapeh, .ref nowh, .ref drafth, .ref trialh, .ref psq_images, .ref actsh, .ref sackh, .ref asksh, .int ps_latestFault, .int ps_latestFinding])), (nowh, .inr (4, [.int now_told, .int now_wax, .int now_stick, .int now_givers, .int now_promises, .int now_pan, .ref nowq_keeping, .ref nowq_giverOf, .ref nowq_deedOf, .ref nowq_dayOf, .ref nowq_likelyOf, .ref nowq_kindOf, .ref nowq_settledOf])), (nowq_keeping, .inl (cI, 4, .inl now_keeping)), (nowq_giverOf, .inl (cI, 8, .inl now_giverOf)), (nowq_deedOf, .inl (cI, 8, .inl now_deedOf)), (nowq_dayOf, .inl (cI, 8, .inl now_dayOf)), (nowq_likelyOf, .inl (cI, 8, .inl now_likelyOf)), (nowq_kindOf, .inl (cI, 8, .inl now_kindOf)), (nowq_settledOf, .inl (cI, 8, .inl now_settledOf)), (sackh, .inr (2, [.ref sackq_weights, .ref sackq_rivals, .int z6.2.2.1, .int z6.2.2.2.1, .int z6.2.2.2.2.1, .int z6.2.2.2.2.2.1, .int z6.2.2.2.2.2.2])), (sackq_weights, .inl (cI, 8, .inl z6.1)), (sackq_rivals, .inl (cI, 8, .inl z6.2.1))]) ⟨hx, hb, hml, hown, hts⟩ (k_X2_lookAt l dC dI cI cZ cS cG sackh sackq_weights sackq_rivals nowh nowq_keeping nowq_giverOf nowq_deedOf nowq_dayOf nowq_likelyOf nowq_kindOf nowq_settledOf sack_weights sack_rivals sack_promises sack_sets sack_wax sack_stick sack_settled now_told now_wax now_stick now_givers now_promises now_pan now_keeping now_giverOf now_deedOf now_dayOf now_likelyOf now_kindOf now_settledOf z6 hz6) (cwV 1 hts gX6_bags_X2_lookAt rfl rfl rfl (by decide +kernel) ⟨Nat.le_of_ble_eq_true rfl, Nat.le_of_ble_eq_true rfl⟩) hE hP hD hA hS [9, 10, 11, 1, 2, 3, 4, 5, 6, 7, 8] rfl rfl 2 0 rfl rfl rfl rfl rfl rfl rfl hl.1 (Nat.le_of_ble_eq_true rfl) dX6_bags_42 (fun H locs hP hD hS => ?_)
        refine lv_iload_n hx hb dX6_bags_45 rfl (lv_at hl 2 rfl) ?_
        refine lv_if_ne (tgt := 60) hx hb dX6_bags_46 (by decide) (fun c7 => ?_) (fun c7 => ?_)
        · have hf := bs_f hf c7
          refine lv_aload_n hx hb dX6_bags_60 rfl (lv_at hl 0 rfl) ?_
          refine va_get (D := (dC, dI)) (ci := 6) (v := .ref sackh) (C := RX6) (T := TX6) (N := 11) hx hb hts hin6 hown hK hP 0 rfl rfl 7 (by decide) k50 (fun _ h9 => h9) rfl dX6_bags_61 ?_
          refine lv_iload_n hx hb dX6_bags_64 rfl (lv_at hl 1 rfl) ?_
          obtain ⟨z8, hz8, hf⟩ := bs_b hf
          refine bs_cViR ⟨hx, hb, hml, hown, hts⟩ (k_X2_fewestReading l dC dI cI cZ cS cG sackh sackq_weights sackq_rivals z6.1 z6.2.1 z6.2.2.1 z6.2.2.2.1 z6.2.2.2.2.1 z6.2.2.2.2.2.1 z6.2.2.2.2.2.2 p1 z8 hz8) (cwV 1 hts gX6_bags_X2_fewestReading rfl rfl rfl (by decide +kernel) ⟨Nat.le_of_ble_eq_true rfl, Nat.le_of_ble_eq_true rfl⟩) hE hP hD hA hS [9, 10, 11] rfl rfl 2 0 rfl rfl rfl rfl hl.1 (Nat.le_of_ble_eq_true rfl) dX6_bags_65 (fun H locs hP hS => ?_)
          obtain rfl := Option.some.inj hf
          exact hret H locs _ _ hP hS rfl dX6_bags_68
        · have hf := bs_t hf c7
          refine lv_aload_n hx hb dX6_bags_49 rfl (lv_at hl 0 rfl) ?_
          refine va_get (D := (dC, dI)) (ci := 6) (v := .ref sackh) (C := RX6) (T := TX6) (N := 11) hx hb hts hin6 hown hK hP 0 rfl rfl 7 (by decide) k50 (fun _ h9 => h9) rfl dX6_bags_50 ?_
          refine lv_iload_n hx hb dX6_bags_53 rfl (lv_at hl 1 rfl) ?_
          obtain ⟨z9, hz9, hf⟩ := bs_b hf
          refine bs_cViR ⟨hx, hb, hml, hown, hts⟩ (k_X2_howManyReading l dC dI cI cZ cS cG sackh sackq_weights sackq_rivals z6.1 z6.2.1 z6.2.2.1 z6.2.2.2.1 z6.2.2.2.2.1 z6.2.2.2.2.2.1 z6.2.2.2.2.2.2 p1 z9 hz9) (cwV 1 hts gX6_bags_X2_howManyReading rfl rfl rfl (by decide +kernel) ⟨Nat.le_of_ble_eq_true rfl, Nat.le_of_ble_eq_true rfl⟩) hE hP hD hA hS [9, 10, 11] rfl rfl 2 0 rfl rfl rfl rfl hl.1 (Nat.le_of_ble_eq_true rfl) dX6_bags_54 (fun H locs hP hS => ?_)
          refine lv_goto (tgt := 68) hx hb dX6_bags_57 (by decide) ?_
          obtain rfl := Option.some.inj hf
          exact hret H locs _ _ hP hS rfl dX6_bags_68
      · have hf := bs_t hf c5
        refine lv_ldc hx hb hown (hts (.constant RX6 69 (-1000001)) (by decide +kernel)) dX6_bags_31 ?_
        obtain rfl := Option.some.inj hf
        exact hret H locs _ _ hP hS rfl dX6_bags_33
  · have hf := bs_t hf c1
    refine lv_ldc hx hb hown (hts (.constant RX6 145 (-1000002)) (by decide +kernel)) dX6_bags_10 ?_
    obtain rfl := Option.some.inj hf
    exact hret H locs _ _ hP hS rfl dX6_bags_12
set_option maxHeartbeats 4000000 in
set_option maxRecDepth 100000 in
theorem k_X6_heaviest (l : Launch) (dC : Nat → ClassId) (dI : Nat → Nat → Nat) (cI cZ cS cG : ClassId) (psh : Nat) (rowsh : Nat) (tapeh : Nat) (nowh : Nat) (drafth : Nat) (trialh : Nat) (psq_images : Nat) (actsh : Nat) (sackh : Nat) (asksh : Nat) (nowq_keeping : Nat) (nowq_giverOf : Nat) (nowq_deedOf : Nat) (nowq_dayOf : Nat) (nowq_likelyOf : Nat) (nowq_kindOf : Nat) (nowq_settledOf : Nat) (sackq_weights : Nat) (sackq_rivals : Nat) (ps_latestFault : Int32) (ps_latestFinding : Int32) (now_told : Int32) (now_wax : Int32) (now_stick : Int32) (now_givers : Int32) (now_promises : Int32) (now_pan : Int32) (now_keeping : Nat → Int32) (now_giverOf : Nat → Int32) (now_deedOf : Nat → Int32) (now_dayOf : Nat → Int32) (now_likelyOf : Nat → Int32) (now_kindOf : Nat → Int32) (now_settledOf : Nat → Int32) (sack_weights : Nat → Int32) (sack_rivals : Nat → Int32) (sack_promises : Int32) (sack_sets : Int32) (sack_wax : Int32) (sack_stick : Int32) (sack_settled : Int32) (p1 : Int32) (p2 : Int32) (out : Int32 × (Nat → Int32) × (Nat → Int32) × Int32 × Int32 × Int32 × Int32 × Int32) (hf : f_X6_heaviest now_told now_wax now_stick now_promises now_keeping now_giverOf now_deedOf now_dayOf now_likelyOf now_kindOf now_settledOf sack_weights sack_rivals sack_promises sack_sets sack_wax sack_stick sack_settled p1 p2 = some out) : bs_C l dC dI cI cZ cS cG yX6_heaviest wsX6_heaviest ({ frames := 4, cells := 0, slots := 0, locals := 92 } : Room) [.ref psh, .int p1, .int p2] ([(psh, .inr (6, [.ref rowsh, .ref tapeh, .ref nowh, .ref drafth, .ref trialh, .ref psq_images, .ref actsh, .ref sackh, .ref asksh, .int ps_latestFault, .int ps_latestFinding])), (nowh, .inr (4, [.int now_told, .int now_wax, .int now_stick, .int now_givers, .int now_promises, .int now_pan, .ref nowq_keeping, .ref nowq_giverOf, .ref nowq_deedOf, .ref nowq_dayOf, .ref nowq_likelyOf, .ref nowq_kindOf, .ref nowq_settledOf])), (nowq_keeping, .inl (cI, 4, .inl now_keeping)), (nowq_giverOf, .inl (cI, 8, .inl now_giverOf)), (nowq_deedOf, .inl (cI, 8, .inl now_deedOf)), (nowq_dayOf, .inl (cI, 8, .inl now_dayOf)), (nowq_likelyOf, .inl (cI, 8, .inl now_likelyOf)), (nowq_kindOf, .inl (cI, 8, .inl now_kindOf)), (nowq_settledOf, .inl (cI, 8, .inl now_settledOf)), (sackh, .inr (2, [.ref sackq_weights, .ref sackq_rivals, .int sack_promises, .int sack_sets, .int sack_wax, .int sack_stick, .int sack_settled])), (sackq_weights, .inl (cI, 8, .inl sack_weights)), (sackq_rivals, .inl (cI, 8, .inl sack_rivals))]) out.1 ([(psh, .inr (6, [.ref rowsh, .ref tapeh, .ref nowh, .ref drafth, .ref trialh, .ref psq_images, .ref actsh, .ref sackh, .ref asksh, .int ps_latestFault, .int ps_latestFinding])), (nowh, .inr (4, [.int now_told, .int now_wax, .int now_stick, .int now_givers, .int now_promises, .int now_pan, .ref nowq_keeping, .ref nowq_giverOf, .ref nowq_deedOf, .ref nowq_dayOf, .ref nowq_likelyOf, .ref nowq_kindOf, .ref nowq_settledOf])), (nowq_keeping, .inl (cI, 4, .inl now_keeping)), (nowq_giverOf, .inl (cI, 8, .inl now_giverOf)), (nowq_deedOf, .inl (cI, 8, .inl now_deedOf)), (nowq_dayOf, .inl (cI, 8, .inl now_dayOf)), (nowq_likelyOf, .inl (cI, 8, .inl now_likelyOf)), (nowq_kindOf, .inl (cI, 8, .inl now_kindOf)), (nowq_settledOf, .inl (cI, 8, .inl now_settledOf)), (sackh, .inr (2, [.ref sackq_weights, .ref sackq_rivals, .int out.2.2.2.1, .int out.2.2.2.2.1, .int out.2.2.2.2.2.1, .int out.2.2.2.2.2.2.1, .int out.2.2.2.2.2.2.2])), (sackq_weights, .inl (cI, 8, .inl out.2.1)), (sackq_rivals, .inl (cI, 8, .inl out.2.2.1))]) := by
  refine bs_ofI (cc := cX6_heaviest) (maxL := 4) (by decide) rfl (Nat.le_of_ble_eq_true rfl) ?_
  intro p e s m below meth c A Q hx hb hown hml hts hE H locs hP hD hA hS ls hl hret
  have hK := hE.1
  have hl : lv_has ls 4 [(0, .ref psh), (1, .int p1), (2, .int p2)] := hl
  have hin4 : ∀ w ∈ u_ws RX4 TX4 13, w ∈ wsX6_heaviest := by decide +kernel
  have hin6 : ∀ w ∈ u_ws RX6 TX6 11, w ∈ wsX6_heaviest := by decide +kernel
  have k26 := hts (.fieldLink RX6 26 "PromiseScales" "now" "LPromiseScales$Scales;") (by decide +kernel)
  have k50 := hts (.fieldLink RX6 50 "PromiseScales" "sack" "LPromiseScales$Bags;") (by decide +kernel)
  have k171 := hts (.fieldLink RX6 171 "PromiseScales$Scales" "told" "Z") (by decide +kernel)
  unfold f_X6_heaviest at hf
  refine lv_aload_n hx hb dX6_heaviest_0 rfl (lv_at hl 0 rfl) ?_
  refine va_get (D := (dC, dI)) (ci := 6) (v := .ref nowh) (C := RX6) (T := TX6) (N := 11) hx hb hts hin6 hown hK hP 0 rfl rfl 2 (by decide) k26 (fun _ h9 => h9) rfl dX6_heaviest_1 ?_
  refine va_get (D := (dC, dI)) (ci := 4) (v := .int now_told) (C := RX4) (T := TX4) (N := 13) hx hb hts hin4 hown hK hP 1 rfl rfl 0 (by decide) k171 (fun _ h9 => h9) rfl dX6_heaviest_4 ?_
  refine lv_if_ne (tgt := 13) hx hb dX6_heaviest_7 (by decide) (fun c1 => ?_) (fun c1 => ?_)
  · have hf := bs_f hf c1
    refine lv_iload_n hx hb dX6_heaviest_13 rfl (lv_at hl 1 rfl) ?_
    refine lv_iconst (v := 0) hx hb dX6_heaviest_14 (by decide) ?_
    refine lv_bipush (v := 8) hx hb dX6_heaviest_15 (by decide) ?_
    obtain ⟨z2, hz2, hf⟩ := bs_b hf
    refine bs_cSi ⟨hx, hb, hml, hown, hts⟩ (k_X6_isWithin l dC dI cI cZ cS cG p1 (0 : Int32) (8 : Int32) z2 hz2) (va_cwS 3 hts gX6_heaviest_X6_isWithin rfl rfl rfl (by decide +kernel) ⟨Nat.le_of_ble_eq_true rfl, Nat.le_of_ble_eq_true rfl⟩) hE hP hD hA hS rfl rfl hl.1 (Nat.le_of_ble_eq_true rfl) dX6_heaviest_17 (fun H locs hP hS => ?_)
    refine lv_if_eq (tgt := 30) hx hb dX6_heaviest_20 (by decide) (fun c3 => ?_) (fun c3 => ?_)
    · have hf := bs_t hf c3
      refine lv_ldc hx hb hown (hts (.constant RX6 69 (-1000001)) (by decide +kernel)) dX6_heaviest_30 ?_
      obtain rfl := Option.some.inj hf
      exact hret H locs _ _ hP hS rfl dX6_heaviest_32
    · have hf := bs_f hf c3
      refine lv_iload_n hx hb dX6_heaviest_23 rfl (lv_at hl 2 rfl) ?_
      obtain ⟨z4, hz4, hf⟩ := bs_b hf
      refine bs_cSi ⟨hx, hb, hml, hown, hts⟩ (k_X6_isEither l dC dI cI cZ cS cG p2 z4 hz4) (va_cwS 1 hts gX6_heaviest_X6_isEither rfl rfl rfl (by decide +kernel) ⟨Nat.le_of_ble_eq_true rfl, Nat.le_of_ble_eq_true rfl⟩) hE hP hD hA hS rfl rfl hl.1 (Nat.le_of_ble_eq_true rfl) dX6_heaviest_24 (fun H locs hP hS => ?_)
      refine lv_if_ne (tgt := 33) hx hb dX6_heaviest_27 (by decide) (fun c5 => ?_) (fun c5 => ?_)
      · have hf := bs_f hf c5
        refine lv_aload_n hx hb dX6_heaviest_33 rfl (lv_at hl 0 rfl) ?_
        refine va_get (D := (dC, dI)) (ci := 6) (v := .ref sackh) (C := RX6) (T := TX6) (N := 11) hx hb hts hin6 hown hK hP 0 rfl rfl 7 (by decide) k50 (fun _ h9 => h9) rfl dX6_heaviest_34 ?_
        refine lv_aload_n hx hb dX6_heaviest_37 rfl (lv_at hl 0 rfl) ?_
        refine va_get (D := (dC, dI)) (ci := 6) (v := .ref nowh) (C := RX6) (T := TX6) (N := 11) hx hb hts hin6 hown hK hP 0 rfl rfl 2 (by decide) k26 (fun _ h9 => h9) rfl dX6_heaviest_38 ?_
        obtain ⟨z6, hz6, hf⟩ := bs_b hf
        refine bs_cVv (ws1 := [(psh, .inr (6, [.ref rowsh, .ref tapeh, .ref nowh, .ref drafth, .ref trialh, .ref psq_images, .ref actsh, .ref sackh, .ref asksh, .int ps_latestFault, .int ps_latestFinding])), (nowh, .inr (4, [.int now_told, .int now_wax, .int now_stick, .int now_givers, .int now_promises, .int now_pan, .ref nowq_keeping, .ref nowq_giverOf, .ref nowq_deedOf, .ref nowq_dayOf, .ref nowq_likelyOf, .ref nowq_kindOf, .ref nowq_settledOf])), (nowq_keeping, .inl (cI, 4, .inl now_keeping)), (nowq_giverOf, .inl (cI, 8, .inl now_giverOf)), (nowq_deedOf, .inl (cI, 8, .inl now_deedOf)), (nowq_dayOf, .inl (cI, 8, .inl now_dayOf)), (nowq_likelyOf, .inl (cI, 8, .inl now_likelyOf)), (nowq_kindOf, .inl (cI, 8, .inl now_kindOf)), (nowq_settledOf, .inl (cI, 8, .inl now_settledOf)), (sackh, .inr (2, [.ref sackq_weights, .ref sackq_rivals, .int z6.2.2.1, .int z6.2.2.2.1, .int z6.2.2.2.2.1, .int z6.2.2.2.2.2.1, .int z6.2.2.2.2.2.2])), (sackq_weights, .inl (cI, 8, .inl z6.1)), (sackq_rivals, .inl (cI, 8, .inl z6.2.1))]) ⟨hx, hb, hml, hown, hts⟩ (k_X2_lookAt l dC dI cI cZ cS cG sackh sackq_weights sackq_rivals nowh nowq_keeping nowq_giverOf nowq_deedOf nowq_dayOf nowq_likelyOf nowq_kindOf nowq_settledOf sack_weights sack_rivals sack_promises sack_sets sack_wax sack_stick sack_settled now_told now_wax now_stick now_givers now_promises now_pan now_keeping now_giverOf now_deedOf now_dayOf now_likelyOf now_kindOf now_settledOf z6 hz6) (cwV 1 hts gX6_heaviest_X2_lookAt rfl rfl rfl (by decide +kernel) ⟨Nat.le_of_ble_eq_true rfl, Nat.le_of_ble_eq_true rfl⟩) hE hP hD hA hS [9, 10, 11, 1, 2, 3, 4, 5, 6, 7, 8] rfl rfl 2 0 rfl rfl rfl rfl rfl rfl rfl hl.1 (Nat.le_of_ble_eq_true rfl) dX6_heaviest_41 (fun H locs hP hD hS => ?_)
        refine lv_aload_n hx hb dX6_heaviest_44 rfl (lv_at hl 0 rfl) ?_
        refine va_get (D := (dC, dI)) (ci := 6) (v := .ref sackh) (C := RX6) (T := TX6) (N := 11) hx hb hts hin6 hown hK hP 0 rfl rfl 7 (by decide) k50 (fun _ h9 => h9) rfl dX6_heaviest_45 ?_
        refine lv_iload_n hx hb dX6_heaviest_48 rfl (lv_at hl 1 rfl) ?_
        obtain ⟨z7, hz7, hf⟩ := bs_b hf
        refine bs_cViR ⟨hx, hb, hml, hown, hts⟩ (k_X2_heaviestOf l dC dI cI cZ cS cG sackh sackq_weights sackq_rivals z6.1 z6.2.1 z6.2.2.1 z6.2.2.2.1 z6.2.2.2.2.1 z6.2.2.2.2.2.1 z6.2.2.2.2.2.2 p1 z7 hz7) (cwV 1 hts gX6_heaviest_X2_heaviestOf rfl rfl rfl (by decide +kernel) ⟨Nat.le_of_ble_eq_true rfl, Nat.le_of_ble_eq_true rfl⟩) hE hP hD hA hS [9, 10, 11] rfl rfl 2 0 rfl rfl rfl rfl hl.1 (Nat.le_of_ble_eq_true rfl) dX6_heaviest_49 (fun H locs hP hS => ?_)
        refine lv_istore_n (lv' := [(3, .int z7), (0, .ref psh), (1, .int p1), (2, .int p2)]) hx hb dX6_heaviest_52 rfl hl (by decide) rfl (fun ls hl => ?_)
        refine lv_iload_n hx hb dX6_heaviest_53 rfl (lv_at hl 3 rfl) ?_
        refine lv_if_ne (tgt := 68) hx hb dX6_heaviest_54 (by decide) (fun c8 => ?_) (fun c8 => ?_)
        · have hf := bs_f hf c8
          refine lv_iload_n hx hb dX6_heaviest_68 rfl (lv_at hl 0 rfl) ?_
          obtain rfl := Option.some.inj hf
          exact hret H locs _ _ hP hS rfl dX6_heaviest_69
        · have hf := bs_t hf c8
          refine lv_aload_n hx hb dX6_heaviest_57 rfl (lv_at hl 1 rfl) ?_
          refine va_get (D := (dC, dI)) (ci := 6) (v := .ref sackh) (C := RX6) (T := TX6) (N := 11) hx hb hts hin6 hown hK hP 0 rfl rfl 7 (by decide) k50 (fun _ h9 => h9) rfl dX6_heaviest_58 ?_
          refine lv_iload_n hx hb dX6_heaviest_61 rfl (lv_at hl 0 rfl) ?_
          obtain ⟨z9, hz9, hf⟩ := bs_b hf
          refine bs_cViR ⟨hx, hb, hml, hown, hts⟩ (k_X2_readingOf l dC dI cI cZ cS cG sackh sackq_weights sackq_rivals z6.1 z6.2.1 z6.2.2.1 z6.2.2.2.1 z6.2.2.2.2.1 z6.2.2.2.2.2.1 z6.2.2.2.2.2.2 z7 z9 hz9) (cwV 1 hts gX6_heaviest_X2_readingOf rfl rfl rfl (by decide +kernel) ⟨Nat.le_of_ble_eq_true rfl, Nat.le_of_ble_eq_true rfl⟩) hE hP hD hA hS [9, 10, 11] rfl rfl 2 0 rfl rfl rfl rfl hl.1 (Nat.le_of_ble_eq_true rfl) dX6_heaviest_62 (fun H locs hP hS => ?_)
          refine lv_goto (tgt := 69) hx hb dX6_heaviest_65 (by decide) ?_
          obtain rfl := Option.some.inj hf
          exact hret H locs _ _ hP hS rfl dX6_heaviest_69
      · have hf := bs_t hf c5
        refine lv_ldc hx hb hown (hts (.constant RX6 69 (-1000001)) (by decide +kernel)) dX6_heaviest_30 ?_
        obtain rfl := Option.some.inj hf
        exact hret H locs _ _ hP hS rfl dX6_heaviest_32
  · have hf := bs_t hf c1
    refine lv_ldc hx hb hown (hts (.constant RX6 145 (-1000002)) (by decide +kernel)) dX6_heaviest_10 ?_
    obtain rfl := Option.some.inj hf
    exact hret H locs _ _ hP hS rfl dX6_heaviest_12
set_option maxHeartbeats 4000000 in
set_option maxRecDepth 100000 in
theorem k_X6_worded (l : Launch) (dC : Nat → ClassId) (dI : Nat → Nat → Nat) (cI cZ cS cG : ClassId) (psh : Nat) (rowsh : Nat) (tapeh : Nat) (nowh : Nat) (drafth : Nat) (trialh : Nat) (psq_images : Nat) (actsh : Nat) (sackh : Nat) (asksh : Nat) (nowq_keeping : Nat) (nowq_giverOf : Nat) (nowq_deedOf : Nat) (nowq_dayOf : Nat) (nowq_likelyOf : Nat) (nowq_kindOf : Nat) (nowq_settledOf : Nat) (ps_latestFault : Int32) (ps_latestFinding : Int32) (now_told : Int32) (now_wax : Int32) (now_stick : Int32) (now_givers : Int32) (now_promises : Int32) (now_pan : Int32) (now_keeping : Nat → Int32) (now_giverOf : Nat → Int32) (now_deedOf : Nat → Int32) (now_dayOf : Nat → Int32) (now_likelyOf : Nat → Int32) (now_kindOf : Nat → Int32) (now_settledOf : Nat → Int32) (p1 : Int32) (p2 : Int32) (out : Int32) (hf : f_X6_worded now_promises now_keeping now_giverOf now_likelyOf now_kindOf now_settledOf p1 p2 = some out) : bs_C l dC dI cI cZ cS cG yX6_worded wsX6_worded ({ frames := 6, cells := 0, slots := 0, locals := 136 } : Room) [.ref psh, .int p1, .int p2] ([(psh, .inr (6, [.ref rowsh, .ref tapeh, .ref nowh, .ref drafth, .ref trialh, .ref psq_images, .ref actsh, .ref sackh, .ref asksh, .int ps_latestFault, .int ps_latestFinding])), (nowh, .inr (4, [.int now_told, .int now_wax, .int now_stick, .int now_givers, .int now_promises, .int now_pan, .ref nowq_keeping, .ref nowq_giverOf, .ref nowq_deedOf, .ref nowq_dayOf, .ref nowq_likelyOf, .ref nowq_kindOf, .ref nowq_settledOf])), (nowq_keeping, .inl (cI, 4, .inl now_keeping)), (nowq_giverOf, .inl (cI, 8, .inl now_giverOf)), (nowq_deedOf, .inl (cI, 8, .inl now_deedOf)), (nowq_dayOf, .inl (cI, 8, .inl now_dayOf)), (nowq_likelyOf, .inl (cI, 8, .inl now_likelyOf)), (nowq_kindOf, .inl (cI, 8, .inl now_kindOf)), (nowq_settledOf, .inl (cI, 8, .inl now_settledOf))]) out ([(psh, .inr (6, [.ref rowsh, .ref tapeh, .ref nowh, .ref drafth, .ref trialh, .ref psq_images, .ref actsh, .ref sackh, .ref asksh, .int ps_latestFault, .int ps_latestFinding])), (nowh, .inr (4, [.int now_told, .int now_wax, .int now_stick, .int now_givers, .int now_promises, .int now_pan, .ref nowq_keeping, .ref nowq_giverOf, .ref nowq_deedOf, .ref nowq_dayOf, .ref nowq_likelyOf, .ref nowq_kindOf, .ref nowq_settledOf])), (nowq_keeping, .inl (cI, 4, .inl now_keeping)), (nowq_giverOf, .inl (cI, 8, .inl now_giverOf)), (nowq_deedOf, .inl (cI, 8, .inl now_deedOf)), (nowq_dayOf, .inl (cI, 8, .inl now_dayOf)), (nowq_likelyOf, .inl (cI, 8, .inl now_likelyOf)), (nowq_kindOf, .inl (cI, 8, .inl now_kindOf)), (nowq_settledOf, .inl (cI, 8, .inl now_settledOf))]) := by
  refine bs_ofI (cc := cX6_worded) (maxL := 3) (by decide) rfl (Nat.le_of_ble_eq_true rfl) ?_
  intro p e s m below meth c A Q hx hb hown hml hts hE H locs hP hD hA hS ls hl hret
  have hK := hE.1
  have hl : lv_has ls 3 [(0, .ref psh), (1, .int p1), (2, .int p2)] := hl
  have hin6 : ∀ w ∈ u_ws RX6 TX6 11, w ∈ wsX6_worded := by decide +kernel
  have k26 := hts (.fieldLink RX6 26 "PromiseScales" "now" "LPromiseScales$Scales;") (by decide +kernel)
  unfold f_X6_worded at hf
  refine lv_aload_n hx hb dX6_worded_0 rfl (lv_at hl 0 rfl) ?_
  refine lv_iload_n hx hb dX6_worded_1 rfl (lv_at hl 1 rfl) ?_
  obtain ⟨z1, hz1, hf⟩ := bs_b hf
  refine bs_cViR ⟨hx, hb, hml, hown, hts⟩ (k_X6_isPromise l dC dI cI cZ cS cG psh rowsh tapeh nowh drafth trialh psq_images actsh sackh asksh nowq_keeping nowq_giverOf nowq_deedOf nowq_dayOf nowq_likelyOf nowq_kindOf nowq_settledOf ps_latestFault ps_latestFinding now_told now_wax now_stick now_givers now_promises now_pan now_keeping now_giverOf now_deedOf now_dayOf now_likelyOf now_kindOf now_settledOf p1 z1 hz1) (cwV 1 hts gX6_worded_X6_isPromise rfl rfl rfl (by decide +kernel) ⟨Nat.le_of_ble_eq_true rfl, Nat.le_of_ble_eq_true rfl⟩) hE hP hD hA hS [0, 1, 2, 3, 4, 5, 6, 7, 8] rfl rfl 6 0 rfl rfl rfl rfl hl.1 (Nat.le_of_ble_eq_true rfl) dX6_worded_2 (fun H locs hP hS => ?_)
  refine lv_if_eq (tgt := 17) hx hb dX6_worded_5 (by decide) (fun c2 => ?_) (fun c2 => ?_)
  · have hf := bs_t hf c2
    refine lv_ldc hx hb hown (hts (.constant RX6 69 (-1000001)) (by decide +kernel)) dX6_worded_17 ?_
    obtain rfl := Option.some.inj hf
    exact hret H locs _ _ hP hS rfl dX6_worded_19
  · have hf := bs_f hf c2
    refine lv_iload_n hx hb dX6_worded_8 rfl (lv_at hl 2 rfl) ?_
    refine lv_iconst (v := 0) hx hb dX6_worded_9 (by decide) ?_
    refine lv_iconst (v := 5) hx hb dX6_worded_10 (by decide) ?_
    obtain ⟨z3, hz3, hf⟩ := bs_b hf
    refine bs_cSi ⟨hx, hb, hml, hown, hts⟩ (k_X6_isWithin l dC dI cI cZ cS cG p2 (0 : Int32) (5 : Int32) z3 hz3) (va_cwS 3 hts gX6_worded_X6_isWithin rfl rfl rfl (by decide +kernel) ⟨Nat.le_of_ble_eq_true rfl, Nat.le_of_ble_eq_true rfl⟩) hE hP hD hA hS rfl rfl hl.1 (Nat.le_of_ble_eq_true rfl) dX6_worded_11 (fun H locs hP hS => ?_)
    refine lv_if_ne (tgt := 20) hx hb dX6_worded_14 (by decide) (fun c4 => ?_) (fun c4 => ?_)
    · have hf := bs_f hf c4
      refine lv_aload_n hx hb dX6_worded_20 rfl (lv_at hl 0 rfl) ?_
      refine va_get (D := (dC, dI)) (ci := 6) (v := .ref nowh) (C := RX6) (T := TX6) (N := 11) hx hb hts hin6 hown hK hP 0 rfl rfl 2 (by decide) k26 (fun _ h9 => h9) rfl dX6_worded_21 ?_
      refine lv_iload_n hx hb dX6_worded_24 rfl (lv_at hl 1 rfl) ?_
      obtain ⟨z5, hz5, hf⟩ := bs_b hf
      refine bs_cViR ⟨hx, hb, hml, hown, hts⟩ (k_X4_isSettled l dC dI cI cZ cS cG nowh nowq_keeping nowq_giverOf nowq_deedOf nowq_dayOf nowq_likelyOf nowq_kindOf nowq_settledOf now_told now_wax now_stick now_givers now_promises now_pan now_keeping now_giverOf now_deedOf now_dayOf now_likelyOf now_kindOf now_settledOf p1 z5 hz5) (cwV 1 hts gX6_worded_X4_isSettled rfl rfl rfl (by decide +kernel) ⟨Nat.le_of_ble_eq_true rfl, Nat.le_of_ble_eq_true rfl⟩) hE hP hD hA hS [1, 2, 3, 4, 5, 6, 7, 8] rfl rfl 4 0 rfl rfl rfl rfl hl.1 (Nat.le_of_ble_eq_true rfl) dX6_worded_25 (fun H locs hP hS => ?_)
      refine lv_if_eq (tgt := 34) hx hb dX6_worded_28 (by decide) (fun c6 => ?_) (fun c6 => ?_)
      · have hf := bs_t hf c6
        refine lv_iload_n hx hb dX6_worded_34 rfl (lv_at hl 2 rfl) ?_
        refine lv_if_ne (tgt := 49) hx hb dX6_worded_35 (by decide) (fun c7 => ?_) (fun c7 => ?_)
        · have hf := bs_f hf c7
          refine lv_aload_n hx hb dX6_worded_49 rfl (lv_at hl 0 rfl) ?_
          refine va_get (D := (dC, dI)) (ci := 6) (v := .ref nowh) (C := RX6) (T := TX6) (N := 11) hx hb hts hin6 hown hK hP 0 rfl rfl 2 (by decide) k26 (fun _ h9 => h9) rfl dX6_worded_50 ?_
          refine lv_iload_n hx hb dX6_worded_53 rfl (lv_at hl 1 rfl) ?_
          refine lv_iload_n hx hb dX6_worded_54 rfl (lv_at hl 2 rfl) ?_
          obtain ⟨z8, hz8, hf⟩ := bs_b hf
          refine bs_cViR ⟨hx, hb, hml, hown, hts⟩ (k_X4_weightBy l dC dI cI cZ cS cG nowh nowq_keeping nowq_giverOf nowq_deedOf nowq_dayOf nowq_likelyOf nowq_kindOf nowq_settledOf now_told now_wax now_stick now_givers now_promises now_pan now_keeping now_giverOf now_deedOf now_dayOf now_likelyOf now_kindOf now_settledOf p1 p2 z8 hz8) (cwV 2 hts gX6_worded_X4_weightBy rfl rfl rfl (by decide +kernel) ⟨Nat.le_of_ble_eq_true rfl, Nat.le_of_ble_eq_true rfl⟩) hE hP hD hA hS [1, 2, 3, 4, 5, 6, 7, 8] rfl rfl 4 0 rfl rfl rfl rfl hl.1 (Nat.le_of_ble_eq_true rfl) dX6_worded_55 (fun H locs hP hS => ?_)
          obtain rfl := Option.some.inj hf
          exact hret H locs _ _ hP hS rfl dX6_worded_58
        · have hf := bs_t hf c7
          refine lv_aload_n hx hb dX6_worded_38 rfl (lv_at hl 0 rfl) ?_
          refine va_get (D := (dC, dI)) (ci := 6) (v := .ref nowh) (C := RX6) (T := TX6) (N := 11) hx hb hts hin6 hown hK hP 0 rfl rfl 2 (by decide) k26 (fun _ h9 => h9) rfl dX6_worded_39 ?_
          refine lv_iload_n hx hb dX6_worded_42 rfl (lv_at hl 1 rfl) ?_
          obtain ⟨z9, hz9, hf⟩ := bs_b hf
          refine bs_cViR ⟨hx, hb, hml, hown, hts⟩ (k_X4_bestKindOf l dC dI cI cZ cS cG nowh nowq_keeping nowq_giverOf nowq_deedOf nowq_dayOf nowq_likelyOf nowq_kindOf nowq_settledOf now_told now_wax now_stick now_givers now_promises now_pan now_keeping now_giverOf now_deedOf now_dayOf now_likelyOf now_kindOf now_settledOf p1 z9 hz9) (cwV 1 hts gX6_worded_X4_bestKindOf rfl rfl rfl (by decide +kernel) ⟨Nat.le_of_ble_eq_true rfl, Nat.le_of_ble_eq_true rfl⟩) hE hP hD hA hS [1, 2, 3, 4, 5, 6, 7, 8] rfl rfl 4 0 rfl rfl rfl rfl hl.1 (Nat.le_of_ble_eq_true rfl) dX6_worded_43 (fun H locs hP hS => ?_)
          refine lv_goto (tgt := 58) hx hb dX6_worded_46 (by decide) ?_
          obtain rfl := Option.some.inj hf
          exact hret H locs _ _ hP hS rfl dX6_worded_58
      · have hf := bs_f hf c6
        refine lv_ldc hx hb hown (hts (.constant RX6 145 (-1000002)) (by decide +kernel)) dX6_worded_31 ?_
        obtain rfl := Option.some.inj hf
        exact hret H locs _ _ hP hS rfl dX6_worded_33
    · have hf := bs_t hf c4
      refine lv_ldc hx hb hown (hts (.constant RX6 69 (-1000001)) (by decide +kernel)) dX6_worded_17 ?_
      obtain rfl := Option.some.inj hf
      exact hret H locs _ _ hP hS rfl dX6_worded_19
set_option maxHeartbeats 4000000 in
set_option maxRecDepth 100000 in
theorem k_X6_price (l : Launch) (dC : Nat → ClassId) (dI : Nat → Nat → Nat) (cI cZ cS cG : ClassId) (psh : Nat) (rowsh : Nat) (tapeh : Nat) (nowh : Nat) (drafth : Nat) (trialh : Nat) (psq_images : Nat) (actsh : Nat) (sackh : Nat) (asksh : Nat) (nowq_keeping : Nat) (nowq_giverOf : Nat) (nowq_deedOf : Nat) (nowq_dayOf : Nat) (nowq_likelyOf : Nat) (nowq_kindOf : Nat) (nowq_settledOf : Nat) (ps_latestFault : Int32) (ps_latestFinding : Int32) (now_told : Int32) (now_wax : Int32) (now_stick : Int32) (now_givers : Int32) (now_promises : Int32) (now_pan : Int32) (now_keeping : Nat → Int32) (now_giverOf : Nat → Int32) (now_deedOf : Nat → Int32) (now_dayOf : Nat → Int32) (now_likelyOf : Nat → Int32) (now_kindOf : Nat → Int32) (now_settledOf : Nat → Int32) (p1 : Int32) (p2 : Int32) (out : Int32) (hf : f_X6_price now_promises now_keeping now_giverOf now_likelyOf now_kindOf now_settledOf p1 p2 = some out) : bs_C l dC dI cI cZ cS cG yX6_price wsX6_price ({ frames := 4, cells := 0, slots := 0, locals := 91 } : Room) [.ref psh, .int p1, .int p2] ([(psh, .inr (6, [.ref rowsh, .ref tapeh, .ref nowh, .ref drafth, .ref trialh, .ref psq_images, .ref actsh, .ref sackh, .ref asksh, .int ps_latestFault, .int ps_latestFinding])), (nowh, .inr (4, [.int now_told, .int now_wax, .int now_stick, .int now_givers, .int now_promises, .int now_pan, .ref nowq_keeping, .ref nowq_giverOf, .ref nowq_deedOf, .ref nowq_dayOf, .ref nowq_likelyOf, .ref nowq_kindOf, .ref nowq_settledOf])), (nowq_keeping, .inl (cI, 4, .inl now_keeping)), (nowq_giverOf, .inl (cI, 8, .inl now_giverOf)), (nowq_deedOf, .inl (cI, 8, .inl now_deedOf)), (nowq_dayOf, .inl (cI, 8, .inl now_dayOf)), (nowq_likelyOf, .inl (cI, 8, .inl now_likelyOf)), (nowq_kindOf, .inl (cI, 8, .inl now_kindOf)), (nowq_settledOf, .inl (cI, 8, .inl now_settledOf))]) out ([(psh, .inr (6, [.ref rowsh, .ref tapeh, .ref nowh, .ref drafth, .ref trialh, .ref psq_images, .ref actsh, .ref sackh, .ref asksh, .int ps_latestFault, .int ps_latestFinding])), (nowh, .inr (4, [.int now_told, .int now_wax, .int now_stick, .int now_givers, .int now_promises, .int now_pan, .ref nowq_keeping, .ref nowq_giverOf, .ref nowq_deedOf, .ref nowq_dayOf, .ref nowq_likelyOf, .ref nowq_kindOf, .ref nowq_settledOf])), (nowq_keeping, .inl (cI, 4, .inl now_keeping)), (nowq_giverOf, .inl (cI, 8, .inl now_giverOf)), (nowq_deedOf, .inl (cI, 8, .inl now_deedOf)), (nowq_dayOf, .inl (cI, 8, .inl now_dayOf)), (nowq_likelyOf, .inl (cI, 8, .inl now_likelyOf)), (nowq_kindOf, .inl (cI, 8, .inl now_kindOf)), (nowq_settledOf, .inl (cI, 8, .inl now_settledOf))]) := by
  refine bs_ofI (cc := cX6_price) (maxL := 3) (by decide) rfl (Nat.le_of_ble_eq_true rfl) ?_
  intro p e s m below meth c A Q hx hb hown hml hts hE H locs hP hD hA hS ls hl hret
  have hK := hE.1
  have hl : lv_has ls 3 [(0, .ref psh), (1, .int p1), (2, .int p2)] := hl
  have hin6 : ∀ w ∈ u_ws RX6 TX6 11, w ∈ wsX6_price := by decide +kernel
  have k26 := hts (.fieldLink RX6 26 "PromiseScales" "now" "LPromiseScales$Scales;") (by decide +kernel)
  unfold f_X6_price at hf
  refine lv_aload_n hx hb dX6_price_0 rfl (lv_at hl 0 rfl) ?_
  refine lv_iload_n hx hb dX6_price_1 rfl (lv_at hl 1 rfl) ?_
  obtain ⟨z1, hz1, hf⟩ := bs_b hf
  refine bs_cViR ⟨hx, hb, hml, hown, hts⟩ (k_X6_isPromise l dC dI cI cZ cS cG psh rowsh tapeh nowh drafth trialh psq_images actsh sackh asksh nowq_keeping nowq_giverOf nowq_deedOf nowq_dayOf nowq_likelyOf nowq_kindOf nowq_settledOf ps_latestFault ps_latestFinding now_told now_wax now_stick now_givers now_promises now_pan now_keeping now_giverOf now_deedOf now_dayOf now_likelyOf now_kindOf now_settledOf p1 z1 hz1) (cwV 1 hts gX6_price_X6_isPromise rfl rfl rfl (by decide +kernel) ⟨Nat.le_of_ble_eq_true rfl, Nat.le_of_ble_eq_true rfl⟩) hE hP hD hA hS [0, 1, 2, 3, 4, 5, 6, 7, 8] rfl rfl 6 0 rfl rfl rfl rfl hl.1 (Nat.le_of_ble_eq_true rfl) dX6_price_2 (fun H locs hP hS => ?_)
  refine lv_if_eq (tgt := 19) hx hb dX6_price_5 (by decide) (fun c2 => ?_) (fun c2 => ?_)
  · have hf := bs_t hf c2
    refine lv_ldc hx hb hown (hts (.constant RX6 69 (-1000001)) (by decide +kernel)) dX6_price_19 ?_
    obtain rfl := Option.some.inj hf
    exact hret H locs _ _ hP hS rfl dX6_price_21
  · have hf := bs_f hf c2
    refine lv_iload_n hx hb dX6_price_8 rfl (lv_at hl 2 rfl) ?_
    refine lv_iconst (v := 0) hx hb dX6_price_9 (by decide) ?_
    refine lv_sipush (v := 999) hx hb dX6_price_10 (by decide) ?_
    obtain ⟨z3, hz3, hf⟩ := bs_b hf
    refine bs_cSi ⟨hx, hb, hml, hown, hts⟩ (k_X6_isWithin l dC dI cI cZ cS cG p2 (0 : Int32) (999 : Int32) z3 hz3) (va_cwS 3 hts gX6_price_X6_isWithin rfl rfl rfl (by decide +kernel) ⟨Nat.le_of_ble_eq_true rfl, Nat.le_of_ble_eq_true rfl⟩) hE hP hD hA hS rfl rfl hl.1 (Nat.le_of_ble_eq_true rfl) dX6_price_13 (fun H locs hP hS => ?_)
    refine lv_if_ne (tgt := 22) hx hb dX6_price_16 (by decide) (fun c4 => ?_) (fun c4 => ?_)
    · have hf := bs_f hf c4
      refine lv_iload_n hx hb dX6_price_22 rfl (lv_at hl 2 rfl) ?_
      refine lv_aload_n hx hb dX6_price_23 rfl (lv_at hl 0 rfl) ?_
      refine va_get (D := (dC, dI)) (ci := 6) (v := .ref nowh) (C := RX6) (T := TX6) (N := 11) hx hb hts hin6 hown hK hP 0 rfl rfl 2 (by decide) k26 (fun _ h9 => h9) rfl dX6_price_24 ?_
      refine lv_iload_n hx hb dX6_price_27 rfl (lv_at hl 1 rfl) ?_
      obtain ⟨z5, hz5, hf⟩ := bs_b hf
      refine bs_cViR ⟨hx, hb, hml, hown, hts⟩ (k_X4_weightOf l dC dI cI cZ cS cG nowh nowq_keeping nowq_giverOf nowq_deedOf nowq_dayOf nowq_likelyOf nowq_kindOf nowq_settledOf now_told now_wax now_stick now_givers now_promises now_pan now_keeping now_giverOf now_deedOf now_dayOf now_likelyOf now_kindOf now_settledOf p1 z5 hz5) (cwV 1 hts gX6_price_X4_weightOf rfl rfl rfl (by decide +kernel) ⟨Nat.le_of_ble_eq_true rfl, Nat.le_of_ble_eq_true rfl⟩) hE hP hD hA hS [1, 2, 3, 4, 5, 6, 7, 8] rfl rfl 4 0 rfl rfl rfl rfl hl.1 (Nat.le_of_ble_eq_true rfl) dX6_price_28 (fun H locs hP hS => ?_)
      refine lv_imul hx hb dX6_price_31 ?_
      refine lv_bipush (v := 20) hx hb dX6_price_32 (by decide) ?_
      refine lv_idiv hx hb dX6_price_34 (by decide) ?_
      obtain rfl := Option.some.inj hf
      exact hret H locs _ _ hP hS rfl dX6_price_35
    · have hf := bs_t hf c4
      refine lv_ldc hx hb hown (hts (.constant RX6 69 (-1000001)) (by decide +kernel)) dX6_price_19 ?_
      obtain rfl := Option.some.inj hf
      exact hret H locs _ _ hP hS rfl dX6_price_21
set_option maxHeartbeats 4000000 in
set_option maxRecDepth 100000 in
theorem k_X6_prices (l : Launch) (dC : Nat → ClassId) (dI : Nat → Nat → Nat) (cI cZ cS cG : ClassId) (psh : Nat) (rowsh : Nat) (tapeh : Nat) (nowh : Nat) (drafth : Nat) (trialh : Nat) (psq_images : Nat) (actsh : Nat) (sackh : Nat) (asksh : Nat) (nowq_keeping : Nat) (nowq_giverOf : Nat) (nowq_deedOf : Nat) (nowq_dayOf : Nat) (nowq_likelyOf : Nat) (nowq_kindOf : Nat) (nowq_settledOf : Nat) (ps_latestFault : Int32) (ps_latestFinding : Int32) (now_told : Int32) (now_wax : Int32) (now_stick : Int32) (now_givers : Int32) (now_promises : Int32) (now_pan : Int32) (now_keeping : Nat → Int32) (now_giverOf : Nat → Int32) (now_deedOf : Nat → Int32) (now_dayOf : Nat → Int32) (now_likelyOf : Nat → Int32) (now_kindOf : Nat → Int32) (now_settledOf : Nat → Int32) (p1 : Int32) (p2 : Int32) (out : Int32) (hf : f_X6_prices now_givers now_promises now_keeping now_giverOf now_likelyOf now_kindOf now_settledOf p1 p2 = some out) : bs_C l dC dI cI cZ cS cG yX6_prices wsX6_prices ({ frames := 4, cells := 0, slots := 0, locals := 91 } : Room) [.ref psh, .int p1, .int p2] ([(psh, .inr (6, [.ref rowsh, .ref tapeh, .ref nowh, .ref drafth, .ref trialh, .ref psq_images, .ref actsh, .ref sackh, .ref asksh, .int ps_latestFault, .int ps_latestFinding])), (nowh, .inr (4, [.int now_told, .int now_wax, .int now_stick, .int now_givers, .int now_promises, .int now_pan, .ref nowq_keeping, .ref nowq_giverOf, .ref nowq_deedOf, .ref nowq_dayOf, .ref nowq_likelyOf, .ref nowq_kindOf, .ref nowq_settledOf])), (nowq_keeping, .inl (cI, 4, .inl now_keeping)), (nowq_giverOf, .inl (cI, 8, .inl now_giverOf)), (nowq_deedOf, .inl (cI, 8, .inl now_deedOf)), (nowq_dayOf, .inl (cI, 8, .inl now_dayOf)), (nowq_likelyOf, .inl (cI, 8, .inl now_likelyOf)), (nowq_kindOf, .inl (cI, 8, .inl now_kindOf)), (nowq_settledOf, .inl (cI, 8, .inl now_settledOf))]) out ([(psh, .inr (6, [.ref rowsh, .ref tapeh, .ref nowh, .ref drafth, .ref trialh, .ref psq_images, .ref actsh, .ref sackh, .ref asksh, .int ps_latestFault, .int ps_latestFinding])), (nowh, .inr (4, [.int now_told, .int now_wax, .int now_stick, .int now_givers, .int now_promises, .int now_pan, .ref nowq_keeping, .ref nowq_giverOf, .ref nowq_deedOf, .ref nowq_dayOf, .ref nowq_likelyOf, .ref nowq_kindOf, .ref nowq_settledOf])), (nowq_keeping, .inl (cI, 4, .inl now_keeping)), (nowq_giverOf, .inl (cI, 8, .inl now_giverOf)), (nowq_deedOf, .inl (cI, 8, .inl now_deedOf)), (nowq_dayOf, .inl (cI, 8, .inl now_dayOf)), (nowq_likelyOf, .inl (cI, 8, .inl now_likelyOf)), (nowq_kindOf, .inl (cI, 8, .inl now_kindOf)), (nowq_settledOf, .inl (cI, 8, .inl now_settledOf))]) := by
  refine bs_ofI (cc := cX6_prices) (maxL := 5) (by decide) rfl (Nat.le_of_ble_eq_true rfl) ?_
  intro p e s m below meth c A Q hx hb hown hml hts hE H locs hP hD hA hS ls hl hret
  have hK := hE.1
  have hl : lv_has ls 5 [(0, .ref psh), (1, .int p1), (2, .int p2)] := hl
  have hin4 : ∀ w ∈ u_ws RX4 TX4 13, w ∈ wsX6_prices := by decide +kernel
  have hin6 : ∀ w ∈ u_ws RX6 TX6 11, w ∈ wsX6_prices := by decide +kernel
  have k26 := hts (.fieldLink RX6 26 "PromiseScales" "now" "LPromiseScales$Scales;") (by decide +kernel)
  have k130 := hts (.fieldLink RX6 130 "PromiseScales$Scales" "promises" "I") (by decide +kernel)
  have k168 := hts (.fieldLink RX6 168 "PromiseScales$Scales" "giverOf" "[I") (by decide +kernel)
  unfold f_X6_prices at hf
  refine lv_aload_n hx hb dX6_prices_0 rfl (lv_at hl 0 rfl) ?_
  refine lv_iload_n hx hb dX6_prices_1 rfl (lv_at hl 1 rfl) ?_
  obtain ⟨z1, hz1, hf⟩ := bs_b hf
  refine bs_cViR ⟨hx, hb, hml, hown, hts⟩ (k_X6_isGiver l dC dI cI cZ cS cG psh rowsh tapeh nowh drafth trialh psq_images actsh sackh asksh nowq_keeping nowq_giverOf nowq_deedOf nowq_dayOf nowq_likelyOf nowq_kindOf nowq_settledOf ps_latestFault ps_latestFinding now_told now_wax now_stick now_givers now_promises now_pan now_keeping now_giverOf now_deedOf now_dayOf now_likelyOf now_kindOf now_settledOf p1 z1 hz1) (cwV 1 hts gX6_prices_X6_isGiver rfl rfl rfl (by decide +kernel) ⟨Nat.le_of_ble_eq_true rfl, Nat.le_of_ble_eq_true rfl⟩) hE hP hD hA hS [0, 1, 2, 3, 4, 5, 6, 7, 8] rfl rfl 6 0 rfl rfl rfl rfl hl.1 (Nat.le_of_ble_eq_true rfl) dX6_prices_2 (fun H locs hP hS => ?_)
  refine lv_if_eq (tgt := 19) hx hb dX6_prices_5 (by decide) (fun c2 => ?_) (fun c2 => ?_)
  · have hf := bs_t hf c2
    refine lv_ldc hx hb hown (hts (.constant RX6 69 (-1000001)) (by decide +kernel)) dX6_prices_19 ?_
    obtain rfl := Option.some.inj hf
    exact hret H locs _ _ hP hS rfl dX6_prices_21
  · have hf := bs_f hf c2
    refine lv_iload_n hx hb dX6_prices_8 rfl (lv_at hl 2 rfl) ?_
    refine lv_iconst (v := 0) hx hb dX6_prices_9 (by decide) ?_
    refine lv_sipush (v := 999) hx hb dX6_prices_10 (by decide) ?_
    obtain ⟨z3, hz3, hf⟩ := bs_b hf
    refine bs_cSi ⟨hx, hb, hml, hown, hts⟩ (k_X6_isWithin l dC dI cI cZ cS cG p2 (0 : Int32) (999 : Int32) z3 hz3) (va_cwS 3 hts gX6_prices_X6_isWithin rfl rfl rfl (by decide +kernel) ⟨Nat.le_of_ble_eq_true rfl, Nat.le_of_ble_eq_true rfl⟩) hE hP hD hA hS rfl rfl hl.1 (Nat.le_of_ble_eq_true rfl) dX6_prices_13 (fun H locs hP hS => ?_)
    refine lv_if_ne (tgt := 22) hx hb dX6_prices_16 (by decide) (fun c4 => ?_) (fun c4 => ?_)
    · have hf := bs_f hf c4
      refine lv_iconst (v := 0) hx hb dX6_prices_22 (by decide) ?_
      refine lv_istore_n (lv' := [(3, .int 0), (0, .ref psh), (1, .int p1), (2, .int p2)]) hx hb dX6_prices_23 rfl hl (by decide) rfl (fun ls hl => ?_)
      refine lv_iconst (v := 0) hx hb dX6_prices_24 (by decide) ?_
      refine lv_istore (lv' := [(4, .int 0), (3, .int 0), (0, .ref psh), (1, .int p1), (2, .int p2)]) hx hb dX6_prices_25 hl (by decide) rfl (fun ls hl => ?_)
      have L_27 : ∀ (fuel : Nat) (x3_27 : Int32) (x4_27 : Int32) (H : Heap) (locs : List Loc) (ls : Array Slot), va_P (dC, dI) vwCl ([(psh, .inr (6, [.ref rowsh, .ref tapeh, .ref nowh, .ref drafth, .ref trialh, .ref psq_images, .ref actsh, .ref sackh, .ref asksh, .int ps_latestFault, .int ps_latestFinding])), (nowh, .inr (4, [.int now_told, .int now_wax, .int now_stick, .int now_givers, .int now_promises, .int now_pan, .ref nowq_keeping, .ref nowq_giverOf, .ref nowq_deedOf, .ref nowq_dayOf, .ref nowq_likelyOf, .ref nowq_kindOf, .ref nowq_settledOf])), (nowq_keeping, .inl (cI, 4, .inl now_keeping)), (nowq_giverOf, .inl (cI, 8, .inl now_giverOf)), (nowq_deedOf, .inl (cI, 8, .inl now_deedOf)), (nowq_dayOf, .inl (cI, 8, .inl now_dayOf)), (nowq_likelyOf, .inl (cI, 8, .inl now_likelyOf)), (nowq_kindOf, .inl (cI, 8, .inl now_kindOf)), (nowq_settledOf, .inl (cI, 8, .inl now_settledOf))]) H → va_D A ([(psh, .inr (6, [.ref rowsh, .ref tapeh, .ref nowh, .ref drafth, .ref trialh, .ref psq_images, .ref actsh, .ref sackh, .ref asksh, .int ps_latestFault, .int ps_latestFinding])), (nowh, .inr (4, [.int now_told, .int now_wax, .int now_stick, .int now_givers, .int now_promises, .int now_pan, .ref nowq_keeping, .ref nowq_giverOf, .ref nowq_deedOf, .ref nowq_dayOf, .ref nowq_likelyOf, .ref nowq_kindOf, .ref nowq_settledOf])), (nowq_keeping, .inl (cI, 4, .inl now_keeping)), (nowq_giverOf, .inl (cI, 8, .inl now_giverOf)), (nowq_deedOf, .inl (cI, 8, .inl now_deedOf)), (nowq_dayOf, .inl (cI, 8, .inl now_dayOf)), (nowq_likelyOf, .inl (cI, 8, .inl now_likelyOf)), (nowq_kindOf, .inl (cI, 8, .inl now_kindOf)), (nowq_settledOf, .inl (cI, 8, .inl now_settledOf))]) → va_S A s.heap H locs → lv_has ls 5 [(0, .ref psh), (1, .int p1), (2, .int p2), (3, .int x3_27), (4, .int x4_27)] → f_X6_prices_L27 now_givers now_promises now_keeping now_giverOf now_likelyOf now_kindOf now_settledOf p1 p2 fuel x3_27 x4_27 = some out → W p l e ({ frames := 4, cells := 0, slots := 0, locals := 91 } : Room) s m ([.ref psh, .int p1, .int p2] : List Value).toArray below meth c H locs 0 0 Q (F0 m 27 ls []) := by
        intro fuel
        induction fuel with
        | zero =>
          intro x3_27 x4_27 H locs ls hP hD hS hl hf
          cases (show (none : Option (Int32)) = some out from hf)
        | succ n_27 ih_27 =>
          intro x3_27 x4_27 H locs ls hP hD hS hl hf
          have hf := (f_X6_prices_L27_s now_givers now_promises now_keeping now_giverOf now_likelyOf now_kindOf now_settledOf p1 p2 n_27 x3_27 x4_27).symm.trans hf
          refine lv_iload hx hb dX6_prices_27 (lv_at hl 4 rfl) ?_
          refine lv_aload_n hx hb dX6_prices_29 rfl (lv_at hl 0 rfl) ?_
          refine va_get (D := (dC, dI)) (ci := 6) (v := .ref nowh) (C := RX6) (T := TX6) (N := 11) hx hb hts hin6 hown hK hP 0 rfl rfl 2 (by decide) k26 (fun _ h9 => h9) rfl dX6_prices_30 ?_
          refine va_get (D := (dC, dI)) (ci := 4) (v := .int now_promises) (C := RX4) (T := TX4) (N := 13) hx hb hts hin4 hown hK hP 1 rfl rfl 4 (by decide) k130 (fun _ h9 => h9) rfl dX6_prices_33 ?_
          refine lv_icmp_ge (tgt := 88) hx hb dX6_prices_36 (by decide) (fun c5 => ?_) (fun c5 => ?_)
          · have hf := bs_t hf c5
            refine lv_iload_n hx hb dX6_prices_88 rfl (lv_at hl 3 rfl) ?_
            obtain rfl := Option.some.inj hf
            exact hret H locs _ _ hP hS rfl dX6_prices_89
          · have hf := bs_f hf c5
            refine lv_aload_n hx hb dX6_prices_39 rfl (lv_at hl 0 rfl) ?_
            refine va_get (D := (dC, dI)) (ci := 6) (v := .ref nowh) (C := RX6) (T := TX6) (N := 11) hx hb hts hin6 hown hK hP 0 rfl rfl 2 (by decide) k26 (fun _ h9 => h9) rfl dX6_prices_40 ?_
            refine va_get (D := (dC, dI)) (ci := 4) (v := .ref nowq_giverOf) (C := RX4) (T := TX4) (N := 13) hx hb hts hin4 hown hK hP 1 rfl rfl 7 (by decide) k168 (fun _ h9 => h9) rfl dX6_prices_43 ?_
            refine lv_iload hx hb dX6_prices_46 (lv_at hl 4 rfl) ?_
            obtain ⟨g6, hf⟩ := bs_g hf
            refine va_iald hx hb hK hP 3 0 rfl rfl (bs_inV g6) dX6_prices_48 ?_
            refine lv_iload_n hx hb dX6_prices_49 rfl (lv_at hl 1 rfl) ?_
            refine lv_icmp_ne (tgt := 82) hx hb dX6_prices_50 (by decide) (fun c7 => ?_) (fun c7 => ?_)
            · have hf := bs_f hf c7
              refine lv_iinc (v := x4_27 + 1) (lv' := [(4, .int (x4_27 + 1)), (0, .ref psh), (1, .int p1), (2, .int p2), (3, .int x3_27)]) hx hb dX6_prices_82 hl (k := 4) rfl rfl (by decide) rfl (fun ls hl => ?_)
              refine lv_goto (tgt := 27) hx hb dX6_prices_85 (by decide) ?_
              exact ih_27 x3_27 (x4_27 + 1) H locs ls hP hD hS (lv_sub hl [1, 2, 3, 4, 0] rfl) hf
            · have hf := bs_t hf c7
              refine lv_aload_n hx hb dX6_prices_53 rfl (lv_at hl 0 rfl) ?_
              refine va_get (D := (dC, dI)) (ci := 6) (v := .ref nowh) (C := RX6) (T := TX6) (N := 11) hx hb hts hin6 hown hK hP 0 rfl rfl 2 (by decide) k26 (fun _ h9 => h9) rfl dX6_prices_54 ?_
              refine lv_iload hx hb dX6_prices_57 (lv_at hl 4 rfl) ?_
              obtain ⟨z8, hz8, hf⟩ := bs_b hf
              refine bs_cViR ⟨hx, hb, hml, hown, hts⟩ (k_X4_isSettled l dC dI cI cZ cS cG nowh nowq_keeping nowq_giverOf nowq_deedOf nowq_dayOf nowq_likelyOf nowq_kindOf nowq_settledOf now_told now_wax now_stick now_givers now_promises now_pan now_keeping now_giverOf now_deedOf now_dayOf now_likelyOf now_kindOf now_settledOf x4_27 z8 hz8) (cwV 1 hts gX6_prices_X4_isSettled rfl rfl rfl (by decide +kernel) ⟨Nat.le_of_ble_eq_true rfl, Nat.le_of_ble_eq_true rfl⟩) hE hP hD hA hS [1, 2, 3, 4, 5, 6, 7, 8] rfl rfl 4 0 rfl rfl rfl rfl hl.1 (Nat.le_of_ble_eq_true rfl) dX6_prices_59 (fun H locs hP hS => ?_)
              refine lv_if_ne (tgt := 82) hx hb dX6_prices_62 (by decide) (fun c9 => ?_) (fun c9 => ?_)
              · have hf := bs_f hf c9
                refine lv_iinc (v := x4_27 + 1) (lv' := [(4, .int (x4_27 + 1)), (0, .ref psh), (1, .int p1), (2, .int p2), (3, .int x3_27)]) hx hb dX6_prices_82 hl (k := 4) rfl rfl (by decide) rfl (fun ls hl => ?_)
                refine lv_goto (tgt := 27) hx hb dX6_prices_85 (by decide) ?_
                exact ih_27 x3_27 (x4_27 + 1) H locs ls hP hD hS (lv_sub hl [1, 2, 3, 4, 0] rfl) hf
              · have hf := bs_t hf c9
                refine lv_iload_n hx hb dX6_prices_65 rfl (lv_at hl 3 rfl) ?_
                refine lv_iload_n hx hb dX6_prices_66 rfl (lv_at hl 2 rfl) ?_
                refine lv_aload_n hx hb dX6_prices_67 rfl (lv_at hl 0 rfl) ?_
                refine va_get (D := (dC, dI)) (ci := 6) (v := .ref nowh) (C := RX6) (T := TX6) (N := 11) hx hb hts hin6 hown hK hP 0 rfl rfl 2 (by decide) k26 (fun _ h9 => h9) rfl dX6_prices_68 ?_
                refine lv_iload hx hb dX6_prices_71 (lv_at hl 4 rfl) ?_
                obtain ⟨z10, hz10, hf⟩ := bs_b hf
                refine bs_cViR ⟨hx, hb, hml, hown, hts⟩ (k_X4_weightOf l dC dI cI cZ cS cG nowh nowq_keeping nowq_giverOf nowq_deedOf nowq_dayOf nowq_likelyOf nowq_kindOf nowq_settledOf now_told now_wax now_stick now_givers now_promises now_pan now_keeping now_giverOf now_deedOf now_dayOf now_likelyOf now_kindOf now_settledOf x4_27 z10 hz10) (cwV 1 hts gX6_prices_X4_weightOf rfl rfl rfl (by decide +kernel) ⟨Nat.le_of_ble_eq_true rfl, Nat.le_of_ble_eq_true rfl⟩) hE hP hD hA hS [1, 2, 3, 4, 5, 6, 7, 8] rfl rfl 4 0 rfl rfl rfl rfl hl.1 (Nat.le_of_ble_eq_true rfl) dX6_prices_73 (fun H locs hP hS => ?_)
                refine lv_imul hx hb dX6_prices_76 ?_
                refine lv_bipush (v := 20) hx hb dX6_prices_77 (by decide) ?_
                refine lv_idiv hx hb dX6_prices_79 (by decide) ?_
                refine lv_iadd hx hb dX6_prices_80 ?_
                refine lv_istore_n (lv' := [(3, .int (x3_27 + ((p2 * z10) / 20))), (0, .ref psh), (1, .int p1), (2, .int p2), (4, .int x4_27)]) hx hb dX6_prices_81 rfl hl (by decide) rfl (fun ls hl => ?_)
                refine lv_iinc (v := x4_27 + 1) (lv' := [(4, .int (x4_27 + 1)), (3, .int (x3_27 + ((p2 * z10) / 20))), (0, .ref psh), (1, .int p1), (2, .int p2)]) hx hb dX6_prices_82 hl (k := 4) rfl rfl (by decide) rfl (fun ls hl => ?_)
                refine lv_goto (tgt := 27) hx hb dX6_prices_85 (by decide) ?_
                exact ih_27 (x3_27 + ((p2 * z10) / 20)) (x4_27 + 1) H locs ls hP hD hS (lv_sub hl [2, 3, 4, 1, 0] rfl) hf
      exact L_27 bs_F (0 : Int32) (0 : Int32) H locs ls hP hD hS (lv_sub hl [2, 3, 4, 1, 0] rfl) hf
    · have hf := bs_t hf c4
      refine lv_ldc hx hb hown (hts (.constant RX6 69 (-1000001)) (by decide +kernel)) dX6_prices_19 ?_
      obtain rfl := Option.some.inj hf
      exact hret H locs _ _ hP hS rfl dX6_prices_21
set_option maxHeartbeats 4000000 in
set_option maxRecDepth 100000 in
theorem k_X6_settles (l : Launch) (dC : Nat → ClassId) (dI : Nat → Nat → Nat) (cI cZ cS cG : ClassId) (psh : Nat) (rowsh : Nat) (tapeh : Nat) (nowh : Nat) (drafth : Nat) (trialh : Nat) (psq_images : Nat) (actsh : Nat) (sackh : Nat) (asksh : Nat) (nowq_keeping : Nat) (nowq_giverOf : Nat) (nowq_deedOf : Nat) (nowq_dayOf : Nat) (nowq_likelyOf : Nat) (nowq_kindOf : Nat) (nowq_settledOf : Nat) (trialq_keeping : Nat) (trialq_giverOf : Nat) (trialq_deedOf : Nat) (trialq_dayOf : Nat) (trialq_likelyOf : Nat) (trialq_kindOf : Nat) (trialq_settledOf : Nat) (ps_latestFault : Int32) (ps_latestFinding : Int32) (now_told : Int32) (now_wax : Int32) (now_stick : Int32) (now_givers : Int32) (now_promises : Int32) (now_pan : Int32) (now_keeping : Nat → Int32) (now_giverOf : Nat → Int32) (now_deedOf : Nat → Int32) (now_dayOf : Nat → Int32) (now_likelyOf : Nat → Int32) (now_kindOf : Nat → Int32) (now_settledOf : Nat → Int32) (trial_told : Int32) (trial_wax : Int32) (trial_stick : Int32) (trial_givers : Int32) (trial_promises : Int32) (trial_pan : Int32) (trial_keeping : Nat → Int32) (trial_giverOf : Nat → Int32) (trial_deedOf : Nat → Int32) (trial_dayOf : Nat → Int32) (trial_likelyOf : Nat → Int32) (trial_kindOf : Nat → Int32) (trial_settledOf : Nat → Int32) (p1 : Int32) (p2 : Int32) (p3 : Int32) (out : Int32 × Int32 × Int32 × Int32 × Int32 × Int32 × Int32 × (Nat → Int32) × (Nat → Int32) × (Nat → Int32) × (Nat → Int32) × (Nat → Int32) × (Nat → Int32) × (Nat → Int32)) (hf : f_X6_settles now_told now_wax now_stick now_givers now_promises now_pan now_keeping now_giverOf now_deedOf now_dayOf now_likelyOf now_kindOf now_settledOf trial_told trial_wax trial_stick trial_givers trial_promises trial_pan trial_keeping trial_giverOf trial_deedOf trial_dayOf trial_likelyOf trial_kindOf trial_settledOf p1 p2 p3 = some out) : bs_C l dC dI cI cZ cS cG yX6_settles wsX6_settles ({ frames := 5, cells := 0, slots := 0, locals := 114 } : Room) [.ref psh, .int p1, .int p2, .int p3] ([(psh, .inr (6, [.ref rowsh, .ref tapeh, .ref nowh, .ref drafth, .ref trialh, .ref psq_images, .ref actsh, .ref sackh, .ref asksh, .int ps_latestFault, .int ps_latestFinding])), (nowh, .inr (4, [.int now_told, .int now_wax, .int now_stick, .int now_givers, .int now_promises, .int now_pan, .ref nowq_keeping, .ref nowq_giverOf, .ref nowq_deedOf, .ref nowq_dayOf, .ref nowq_likelyOf, .ref nowq_kindOf, .ref nowq_settledOf])), (nowq_keeping, .inl (cI, 4, .inl now_keeping)), (nowq_giverOf, .inl (cI, 8, .inl now_giverOf)), (nowq_deedOf, .inl (cI, 8, .inl now_deedOf)), (nowq_dayOf, .inl (cI, 8, .inl now_dayOf)), (nowq_likelyOf, .inl (cI, 8, .inl now_likelyOf)), (nowq_kindOf, .inl (cI, 8, .inl now_kindOf)), (nowq_settledOf, .inl (cI, 8, .inl now_settledOf)), (trialh, .inr (4, [.int trial_told, .int trial_wax, .int trial_stick, .int trial_givers, .int trial_promises, .int trial_pan, .ref trialq_keeping, .ref trialq_giverOf, .ref trialq_deedOf, .ref trialq_dayOf, .ref trialq_likelyOf, .ref trialq_kindOf, .ref trialq_settledOf])), (trialq_keeping, .inl (cI, 4, .inl trial_keeping)), (trialq_giverOf, .inl (cI, 8, .inl trial_giverOf)), (trialq_deedOf, .inl (cI, 8, .inl trial_deedOf)), (trialq_dayOf, .inl (cI, 8, .inl trial_dayOf)), (trialq_likelyOf, .inl (cI, 8, .inl trial_likelyOf)), (trialq_kindOf, .inl (cI, 8, .inl trial_kindOf)), (trialq_settledOf, .inl (cI, 8, .inl trial_settledOf))]) out.1 ([(psh, .inr (6, [.ref rowsh, .ref tapeh, .ref nowh, .ref drafth, .ref trialh, .ref psq_images, .ref actsh, .ref sackh, .ref asksh, .int ps_latestFault, .int ps_latestFinding])), (nowh, .inr (4, [.int now_told, .int now_wax, .int now_stick, .int now_givers, .int now_promises, .int now_pan, .ref nowq_keeping, .ref nowq_giverOf, .ref nowq_deedOf, .ref nowq_dayOf, .ref nowq_likelyOf, .ref nowq_kindOf, .ref nowq_settledOf])), (nowq_keeping, .inl (cI, 4, .inl now_keeping)), (nowq_giverOf, .inl (cI, 8, .inl now_giverOf)), (nowq_deedOf, .inl (cI, 8, .inl now_deedOf)), (nowq_dayOf, .inl (cI, 8, .inl now_dayOf)), (nowq_likelyOf, .inl (cI, 8, .inl now_likelyOf)), (nowq_kindOf, .inl (cI, 8, .inl now_kindOf)), (nowq_settledOf, .inl (cI, 8, .inl now_settledOf)), (trialh, .inr (4, [.int out.2.1, .int out.2.2.1, .int out.2.2.2.1, .int out.2.2.2.2.1, .int out.2.2.2.2.2.1, .int out.2.2.2.2.2.2.1, .ref trialq_keeping, .ref trialq_giverOf, .ref trialq_deedOf, .ref trialq_dayOf, .ref trialq_likelyOf, .ref trialq_kindOf, .ref trialq_settledOf])), (trialq_keeping, .inl (cI, 4, .inl out.2.2.2.2.2.2.2.1)), (trialq_giverOf, .inl (cI, 8, .inl out.2.2.2.2.2.2.2.2.1)), (trialq_deedOf, .inl (cI, 8, .inl out.2.2.2.2.2.2.2.2.2.1)), (trialq_dayOf, .inl (cI, 8, .inl out.2.2.2.2.2.2.2.2.2.2.1)), (trialq_likelyOf, .inl (cI, 8, .inl out.2.2.2.2.2.2.2.2.2.2.2.1)), (trialq_kindOf, .inl (cI, 8, .inl out.2.2.2.2.2.2.2.2.2.2.2.2.1)), (trialq_settledOf, .inl (cI, 8, .inl out.2.2.2.2.2.2.2.2.2.2.2.2.2))]) := by
  refine bs_ofI (cc := cX6_settles) (maxL := 4) (by decide) rfl (Nat.le_of_ble_eq_true rfl) ?_
  intro p e s m below meth c A Q hx hb hown hml hts hE H locs hP hD hA hS ls hl hret
  have hK := hE.1
  have hl : lv_has ls 4 [(0, .ref psh), (1, .int p1), (2, .int p2), (3, .int p3)] := hl
  have hin4 : ∀ w ∈ u_ws RX4 TX4 13, w ∈ wsX6_settles := by decide +kernel
  have hin6 : ∀ w ∈ u_ws RX6 TX6 11, w ∈ wsX6_settles := by decide +kernel
  have k26 := hts (.fieldLink RX6 26 "PromiseScales" "now" "LPromiseScales$Scales;") (by decide +kernel)
  have k33 := hts (.fieldLink RX6 33 "PromiseScales" "trial" "LPromiseScales$Scales;") (by decide +kernel)
  have k164 := hts (.fieldLink RX6 164 "PromiseScales$Scales" "keeping" "[I") (by decide +kernel)
  unfold f_X6_settles at hf
  refine lv_aload_n hx hb dX6_settles_0 rfl (lv_at hl 0 rfl) ?_
  refine lv_iload_n hx hb dX6_settles_1 rfl (lv_at hl 1 rfl) ?_
  obtain ⟨z1, hz1, hf⟩ := bs_b hf
  refine bs_cViR ⟨hx, hb, hml, hown, hts⟩ (k_X6_isGiver l dC dI cI cZ cS cG psh rowsh tapeh nowh drafth trialh psq_images actsh sackh asksh nowq_keeping nowq_giverOf nowq_deedOf nowq_dayOf nowq_likelyOf nowq_kindOf nowq_settledOf ps_latestFault ps_latestFinding now_told now_wax now_stick now_givers now_promises now_pan now_keeping now_giverOf now_deedOf now_dayOf now_likelyOf now_kindOf now_settledOf p1 z1 hz1) (cwV 1 hts gX6_settles_X6_isGiver rfl rfl rfl (by decide +kernel) ⟨Nat.le_of_ble_eq_true rfl, Nat.le_of_ble_eq_true rfl⟩) hE hP hD hA hS [0, 1, 2, 3, 4, 5, 6, 7, 8] rfl rfl 6 0 rfl rfl rfl rfl hl.1 (Nat.le_of_ble_eq_true rfl) dX6_settles_2 (fun H locs hP hS => ?_)
  refine lv_if_eq (tgt := 25) hx hb dX6_settles_5 (by decide) (fun c2 => ?_) (fun c2 => ?_)
  · have hf := bs_t hf c2
    refine lv_ldc hx hb hown (hts (.constant RX6 69 (-1000001)) (by decide +kernel)) dX6_settles_25 ?_
    obtain rfl := Option.some.inj hf
    exact hret H locs _ _ hP hS rfl dX6_settles_27
  · have hf := bs_f hf c2
    refine lv_iload_n hx hb dX6_settles_8 rfl (lv_at hl 2 rfl) ?_
    refine lv_iconst (v := 0) hx hb dX6_settles_9 (by decide) ?_
    refine lv_bipush (v := 20) hx hb dX6_settles_10 (by decide) ?_
    obtain ⟨z3, hz3, hf⟩ := bs_b hf
    refine bs_cSi ⟨hx, hb, hml, hown, hts⟩ (k_X6_isWithin l dC dI cI cZ cS cG p2 (0 : Int32) (20 : Int32) z3 hz3) (va_cwS 3 hts gX6_settles_X6_isWithin rfl rfl rfl (by decide +kernel) ⟨Nat.le_of_ble_eq_true rfl, Nat.le_of_ble_eq_true rfl⟩) hE hP hD hA hS rfl rfl hl.1 (Nat.le_of_ble_eq_true rfl) dX6_settles_12 (fun H locs hP hS => ?_)
    refine lv_if_eq (tgt := 25) hx hb dX6_settles_15 (by decide) (fun c4 => ?_) (fun c4 => ?_)
    · have hf := bs_t hf c4
      refine lv_ldc hx hb hown (hts (.constant RX6 69 (-1000001)) (by decide +kernel)) dX6_settles_25 ?_
      obtain rfl := Option.some.inj hf
      exact hret H locs _ _ hP hS rfl dX6_settles_27
    · have hf := bs_f hf c4
      refine lv_iload_n hx hb dX6_settles_18 rfl (lv_at hl 3 rfl) ?_
      obtain ⟨z5, hz5, hf⟩ := bs_b hf
      refine bs_cSi ⟨hx, hb, hml, hown, hts⟩ (k_X6_isEither l dC dI cI cZ cS cG p3 z5 hz5) (va_cwS 1 hts gX6_settles_X6_isEither rfl rfl rfl (by decide +kernel) ⟨Nat.le_of_ble_eq_true rfl, Nat.le_of_ble_eq_true rfl⟩) hE hP hD hA hS rfl rfl hl.1 (Nat.le_of_ble_eq_true rfl) dX6_settles_19 (fun H locs hP hS => ?_)
      refine lv_if_ne (tgt := 28) hx hb dX6_settles_22 (by decide) (fun c6 => ?_) (fun c6 => ?_)
      · have hf := bs_f hf c6
        refine lv_aload_n hx hb dX6_settles_28 rfl (lv_at hl 0 rfl) ?_
        refine va_get (D := (dC, dI)) (ci := 6) (v := .ref trialh) (C := RX6) (T := TX6) (N := 11) hx hb hts hin6 hown hK hP 0 rfl rfl 4 (by decide) k33 (fun _ h9 => h9) rfl dX6_settles_29 ?_
        refine lv_aload_n hx hb dX6_settles_32 rfl (lv_at hl 0 rfl) ?_
        refine va_get (D := (dC, dI)) (ci := 6) (v := .ref nowh) (C := RX6) (T := TX6) (N := 11) hx hb hts hin6 hown hK hP 0 rfl rfl 2 (by decide) k26 (fun _ h9 => h9) rfl dX6_settles_33 ?_
        obtain ⟨z7, hz7, hf⟩ := bs_b hf
        refine bs_cVv (ws1 := [(psh, .inr (6, [.ref rowsh, .ref tapeh, .ref nowh, .ref drafth, .ref trialh, .ref psq_images, .ref actsh, .ref sackh, .ref asksh, .int ps_latestFault, .int ps_latestFinding])), (nowh, .inr (4, [.int now_told, .int now_wax, .int now_stick, .int now_givers, .int now_promises, .int now_pan, .ref nowq_keeping, .ref nowq_giverOf, .ref nowq_deedOf, .ref nowq_dayOf, .ref nowq_likelyOf, .ref nowq_kindOf, .ref nowq_settledOf])), (nowq_keeping, .inl (cI, 4, .inl now_keeping)), (nowq_giverOf, .inl (cI, 8, .inl now_giverOf)), (nowq_deedOf, .inl (cI, 8, .inl now_deedOf)), (nowq_dayOf, .inl (cI, 8, .inl now_dayOf)), (nowq_likelyOf, .inl (cI, 8, .inl now_likelyOf)), (nowq_kindOf, .inl (cI, 8, .inl now_kindOf)), (nowq_settledOf, .inl (cI, 8, .inl now_settledOf)), (trialh, .inr (4, [.int z7.1, .int z7.2.1, .int z7.2.2.1, .int z7.2.2.2.1, .int z7.2.2.2.2.1, .int z7.2.2.2.2.2.1, .ref trialq_keeping, .ref trialq_giverOf, .ref trialq_deedOf, .ref trialq_dayOf, .ref trialq_likelyOf, .ref trialq_kindOf, .ref trialq_settledOf])), (trialq_keeping, .inl (cI, 4, .inl z7.2.2.2.2.2.2.1)), (trialq_giverOf, .inl (cI, 8, .inl z7.2.2.2.2.2.2.2.1)), (trialq_deedOf, .inl (cI, 8, .inl z7.2.2.2.2.2.2.2.2.1)), (trialq_dayOf, .inl (cI, 8, .inl z7.2.2.2.2.2.2.2.2.2.1)), (trialq_likelyOf, .inl (cI, 8, .inl z7.2.2.2.2.2.2.2.2.2.2.1)), (trialq_kindOf, .inl (cI, 8, .inl z7.2.2.2.2.2.2.2.2.2.2.2.1)), (trialq_settledOf, .inl (cI, 8, .inl z7.2.2.2.2.2.2.2.2.2.2.2.2))]) ⟨hx, hb, hml, hown, hts⟩ (k_X4_become l dC dI cI cZ cS cG trialh trialq_keeping trialq_giverOf trialq_deedOf trialq_dayOf trialq_likelyOf trialq_kindOf trialq_settledOf nowh nowq_keeping nowq_giverOf nowq_deedOf nowq_dayOf nowq_likelyOf nowq_kindOf nowq_settledOf trial_told trial_wax trial_stick trial_givers trial_promises trial_pan trial_keeping trial_giverOf trial_deedOf trial_dayOf trial_likelyOf trial_kindOf trial_settledOf now_told now_wax now_stick now_givers now_promises now_pan now_keeping now_giverOf now_deedOf now_dayOf now_likelyOf now_kindOf now_settledOf z7 hz7) (cwV 1 hts gX6_settles_X4_become rfl rfl rfl (by decide +kernel) ⟨Nat.le_of_ble_eq_true rfl, Nat.le_of_ble_eq_true rfl⟩) hE hP hD hA hS [9, 10, 11, 12, 13, 14, 15, 16, 1, 2, 3, 4, 5, 6, 7, 8] rfl rfl 4 0 rfl rfl rfl rfl rfl rfl rfl hl.1 (Nat.le_of_ble_eq_true rfl) dX6_settles_36 (fun H locs hP hD hS => ?_)
        refine lv_aload_n hx hb dX6_settles_39 rfl (lv_at hl 0 rfl) ?_
        refine va_get (D := (dC, dI)) (ci := 6) (v := .ref trialh) (C := RX6) (T := TX6) (N := 11) hx hb hts hin6 hown hK hP 0 rfl rfl 4 (by decide) k33 (fun _ h9 => h9) rfl dX6_settles_40 ?_
        refine lv_iload_n hx hb dX6_settles_43 rfl (lv_at hl 2 rfl) ?_
        obtain ⟨z8, hz8, hf⟩ := bs_b hf
        refine bs_cVv (ws1 := [(psh, .inr (6, [.ref rowsh, .ref tapeh, .ref nowh, .ref drafth, .ref trialh, .ref psq_images, .ref actsh, .ref sackh, .ref asksh, .int ps_latestFault, .int ps_latestFinding])), (nowh, .inr (4, [.int now_told, .int now_wax, .int now_stick, .int now_givers, .int now_promises, .int now_pan, .ref nowq_keeping, .ref nowq_giverOf, .ref nowq_deedOf, .ref nowq_dayOf, .ref nowq_likelyOf, .ref nowq_kindOf, .ref nowq_settledOf])), (nowq_keeping, .inl (cI, 4, .inl now_keeping)), (nowq_giverOf, .inl (cI, 8, .inl now_giverOf)), (nowq_deedOf, .inl (cI, 8, .inl now_deedOf)), (nowq_dayOf, .inl (cI, 8, .inl now_dayOf)), (nowq_likelyOf, .inl (cI, 8, .inl now_likelyOf)), (nowq_kindOf, .inl (cI, 8, .inl now_kindOf)), (nowq_settledOf, .inl (cI, 8, .inl now_settledOf)), (trialh, .inr (4, [.int z7.1, .int z7.2.1, .int z7.2.2.1, .int z7.2.2.2.1, .int z7.2.2.2.2.1, .int z8.1, .ref trialq_keeping, .ref trialq_giverOf, .ref trialq_deedOf, .ref trialq_dayOf, .ref trialq_likelyOf, .ref trialq_kindOf, .ref trialq_settledOf])), (trialq_keeping, .inl (cI, 4, .inl z8.2.1)), (trialq_giverOf, .inl (cI, 8, .inl z7.2.2.2.2.2.2.2.1)), (trialq_deedOf, .inl (cI, 8, .inl z7.2.2.2.2.2.2.2.2.1)), (trialq_dayOf, .inl (cI, 8, .inl z7.2.2.2.2.2.2.2.2.2.1)), (trialq_likelyOf, .inl (cI, 8, .inl z7.2.2.2.2.2.2.2.2.2.2.1)), (trialq_kindOf, .inl (cI, 8, .inl z7.2.2.2.2.2.2.2.2.2.2.2.1)), (trialq_settledOf, .inl (cI, 8, .inl z8.2.2))]) ⟨hx, hb, hml, hown, hts⟩ (k_X4_settleByDays l dC dI cI cZ cS cG trialh trialq_keeping trialq_giverOf trialq_deedOf trialq_dayOf trialq_likelyOf trialq_kindOf trialq_settledOf z7.1 z7.2.1 z7.2.2.1 z7.2.2.2.1 z7.2.2.2.2.1 z7.2.2.2.2.2.1 z7.2.2.2.2.2.2.1 z7.2.2.2.2.2.2.2.1 z7.2.2.2.2.2.2.2.2.1 z7.2.2.2.2.2.2.2.2.2.1 z7.2.2.2.2.2.2.2.2.2.2.1 z7.2.2.2.2.2.2.2.2.2.2.2.1 z7.2.2.2.2.2.2.2.2.2.2.2.2 p2 z8 hz8) (cwV 1 hts gX6_settles_X4_settleByDays rfl rfl rfl (by decide +kernel) ⟨Nat.le_of_ble_eq_true rfl, Nat.le_of_ble_eq_true rfl⟩) hE hP hD hA hS [9, 10, 11, 12, 13, 14, 15, 16] rfl rfl 4 0 rfl rfl rfl rfl rfl rfl rfl hl.1 (Nat.le_of_ble_eq_true rfl) dX6_settles_44 (fun H locs hP hD hS => ?_)
        refine lv_iload_n hx hb dX6_settles_47 rfl (lv_at hl 3 rfl) ?_
        refine lv_if_ne (tgt := 63) hx hb dX6_settles_48 (by decide) (fun c9 => ?_) (fun c9 => ?_)
        · have hf := bs_f hf c9
          refine lv_aload_n hx hb dX6_settles_63 rfl (lv_at hl 0 rfl) ?_
          refine va_get (D := (dC, dI)) (ci := 6) (v := .ref trialh) (C := RX6) (T := TX6) (N := 11) hx hb hts hin6 hown hK hP 0 rfl rfl 4 (by decide) k33 (fun _ h9 => h9) rfl dX6_settles_64 ?_
          refine lv_iload_n hx hb dX6_settles_67 rfl (lv_at hl 1 rfl) ?_
          obtain ⟨z10, hz10, hf⟩ := bs_b hf
          refine bs_cViR ⟨hx, hb, hml, hown, hts⟩ (k_X4_howManyKept l dC dI cI cZ cS cG trialh trialq_keeping trialq_giverOf trialq_deedOf trialq_dayOf trialq_likelyOf trialq_kindOf trialq_settledOf z7.1 z7.2.1 z7.2.2.1 z7.2.2.2.1 z7.2.2.2.2.1 z8.1 z8.2.1 z7.2.2.2.2.2.2.2.1 z7.2.2.2.2.2.2.2.2.1 z7.2.2.2.2.2.2.2.2.2.1 z7.2.2.2.2.2.2.2.2.2.2.1 z7.2.2.2.2.2.2.2.2.2.2.2.1 z8.2.2 p1 z10 hz10) (cwV 1 hts gX6_settles_X4_howManyKept rfl rfl rfl (by decide +kernel) ⟨Nat.le_of_ble_eq_true rfl, Nat.le_of_ble_eq_true rfl⟩) hE hP hD hA hS [9, 10, 11, 12, 13, 14, 15, 16] rfl rfl 4 0 rfl rfl rfl rfl hl.1 (Nat.le_of_ble_eq_true rfl) dX6_settles_68 (fun H locs hP hS => ?_)
          obtain rfl := Option.some.inj hf
          exact hret H locs _ _ hP hS rfl dX6_settles_71
        · have hf := bs_t hf c9
          refine lv_aload_n hx hb dX6_settles_51 rfl (lv_at hl 0 rfl) ?_
          refine va_get (D := (dC, dI)) (ci := 6) (v := .ref trialh) (C := RX6) (T := TX6) (N := 11) hx hb hts hin6 hown hK hP 0 rfl rfl 4 (by decide) k33 (fun _ h9 => h9) rfl dX6_settles_52 ?_
          refine va_get (D := (dC, dI)) (ci := 4) (v := .ref trialq_keeping) (C := RX4) (T := TX4) (N := 13) hx hb hts hin4 hown hK hP 9 rfl rfl 6 (by decide) k164 (fun _ h9 => h9) rfl dX6_settles_55 ?_
          refine lv_iload_n hx hb dX6_settles_58 rfl (lv_at hl 1 rfl) ?_
          obtain ⟨g11, hf⟩ := bs_g hf
          refine va_iald hx hb hK hP 10 0 rfl rfl (bs_inV g11) dX6_settles_59 ?_
          refine lv_goto (tgt := 71) hx hb dX6_settles_60 (by decide) ?_
          obtain rfl := Option.some.inj hf
          exact hret H locs _ _ hP hS rfl dX6_settles_71
      · have hf := bs_t hf c6
        refine lv_ldc hx hb hown (hts (.constant RX6 69 (-1000001)) (by decide +kernel)) dX6_settles_25 ?_
        obtain rfl := Option.some.inj hf
        exact hret H locs _ _ hP hS rfl dX6_settles_27
set_option maxHeartbeats 4000000 in
set_option maxRecDepth 100000 in
theorem k_X6_bestHeavy (l : Launch) (dC : Nat → ClassId) (dI : Nat → Nat → Nat) (cI cZ cS cG : ClassId) (psh : Nat) (rowsh : Nat) (tapeh : Nat) (nowh : Nat) (drafth : Nat) (trialh : Nat) (psq_images : Nat) (actsh : Nat) (sackh : Nat) (asksh : Nat) (nowq_keeping : Nat) (nowq_giverOf : Nat) (nowq_deedOf : Nat) (nowq_dayOf : Nat) (nowq_likelyOf : Nat) (nowq_kindOf : Nat) (nowq_settledOf : Nat) (trialq_keeping : Nat) (trialq_giverOf : Nat) (trialq_deedOf : Nat) (trialq_dayOf : Nat) (trialq_likelyOf : Nat) (trialq_kindOf : Nat) (trialq_settledOf : Nat) (ps_latestFault : Int32) (ps_latestFinding : Int32) (now_told : Int32) (now_wax : Int32) (now_stick : Int32) (now_givers : Int32) (now_promises : Int32) (now_pan : Int32) (now_keeping : Nat → Int32) (now_giverOf : Nat → Int32) (now_deedOf : Nat → Int32) (now_dayOf : Nat → Int32) (now_likelyOf : Nat → Int32) (now_kindOf : Nat → Int32) (now_settledOf : Nat → Int32) (trial_told : Int32) (trial_wax : Int32) (trial_stick : Int32) (trial_givers : Int32) (trial_promises : Int32) (trial_pan : Int32) (trial_keeping : Nat → Int32) (trial_giverOf : Nat → Int32) (trial_deedOf : Nat → Int32) (trial_dayOf : Nat → Int32) (trial_likelyOf : Nat → Int32) (trial_kindOf : Nat → Int32) (trial_settledOf : Nat → Int32) (p1 : Int32) (out : Int32 × Int32 × Int32 × Int32 × Int32 × Int32 × Int32 × (Nat → Int32) × (Nat → Int32) × (Nat → Int32) × (Nat → Int32) × (Nat → Int32) × (Nat → Int32) × (Nat → Int32)) (hf : f_X6_bestHeavy now_told now_wax now_stick now_givers now_promises now_pan now_keeping now_giverOf now_deedOf now_dayOf now_likelyOf now_kindOf now_settledOf trial_told trial_wax trial_stick trial_givers trial_promises trial_pan trial_keeping trial_giverOf trial_deedOf trial_dayOf trial_likelyOf trial_kindOf trial_settledOf p1 = some out) : bs_C l dC dI cI cZ cS cG yX6_bestHeavy wsX6_bestHeavy ({ frames := 5, cells := 0, slots := 0, locals := 114 } : Room) [.ref psh, .int p1] ([(psh, .inr (6, [.ref rowsh, .ref tapeh, .ref nowh, .ref drafth, .ref trialh, .ref psq_images, .ref actsh, .ref sackh, .ref asksh, .int ps_latestFault, .int ps_latestFinding])), (nowh, .inr (4, [.int now_told, .int now_wax, .int now_stick, .int now_givers, .int now_promises, .int now_pan, .ref nowq_keeping, .ref nowq_giverOf, .ref nowq_deedOf, .ref nowq_dayOf, .ref nowq_likelyOf, .ref nowq_kindOf, .ref nowq_settledOf])), (nowq_keeping, .inl (cI, 4, .inl now_keeping)), (nowq_giverOf, .inl (cI, 8, .inl now_giverOf)), (nowq_deedOf, .inl (cI, 8, .inl now_deedOf)), (nowq_dayOf, .inl (cI, 8, .inl now_dayOf)), (nowq_likelyOf, .inl (cI, 8, .inl now_likelyOf)), (nowq_kindOf, .inl (cI, 8, .inl now_kindOf)), (nowq_settledOf, .inl (cI, 8, .inl now_settledOf)), (trialh, .inr (4, [.int trial_told, .int trial_wax, .int trial_stick, .int trial_givers, .int trial_promises, .int trial_pan, .ref trialq_keeping, .ref trialq_giverOf, .ref trialq_deedOf, .ref trialq_dayOf, .ref trialq_likelyOf, .ref trialq_kindOf, .ref trialq_settledOf])), (trialq_keeping, .inl (cI, 4, .inl trial_keeping)), (trialq_giverOf, .inl (cI, 8, .inl trial_giverOf)), (trialq_deedOf, .inl (cI, 8, .inl trial_deedOf)), (trialq_dayOf, .inl (cI, 8, .inl trial_dayOf)), (trialq_likelyOf, .inl (cI, 8, .inl trial_likelyOf)), (trialq_kindOf, .inl (cI, 8, .inl trial_kindOf)), (trialq_settledOf, .inl (cI, 8, .inl trial_settledOf))]) out.1 ([(psh, .inr (6, [.ref rowsh, .ref tapeh, .ref nowh, .ref drafth, .ref trialh, .ref psq_images, .ref actsh, .ref sackh, .ref asksh, .int ps_latestFault, .int ps_latestFinding])), (nowh, .inr (4, [.int now_told, .int now_wax, .int now_stick, .int now_givers, .int now_promises, .int now_pan, .ref nowq_keeping, .ref nowq_giverOf, .ref nowq_deedOf, .ref nowq_dayOf, .ref nowq_likelyOf, .ref nowq_kindOf, .ref nowq_settledOf])), (nowq_keeping, .inl (cI, 4, .inl now_keeping)), (nowq_giverOf, .inl (cI, 8, .inl now_giverOf)), (nowq_deedOf, .inl (cI, 8, .inl now_deedOf)), (nowq_dayOf, .inl (cI, 8, .inl now_dayOf)), (nowq_likelyOf, .inl (cI, 8, .inl now_likelyOf)), (nowq_kindOf, .inl (cI, 8, .inl now_kindOf)), (nowq_settledOf, .inl (cI, 8, .inl now_settledOf)), (trialh, .inr (4, [.int out.2.1, .int out.2.2.1, .int out.2.2.2.1, .int out.2.2.2.2.1, .int out.2.2.2.2.2.1, .int out.2.2.2.2.2.2.1, .ref trialq_keeping, .ref trialq_giverOf, .ref trialq_deedOf, .ref trialq_dayOf, .ref trialq_likelyOf, .ref trialq_kindOf, .ref trialq_settledOf])), (trialq_keeping, .inl (cI, 4, .inl out.2.2.2.2.2.2.2.1)), (trialq_giverOf, .inl (cI, 8, .inl out.2.2.2.2.2.2.2.2.1)), (trialq_deedOf, .inl (cI, 8, .inl out.2.2.2.2.2.2.2.2.2.1)), (trialq_dayOf, .inl (cI, 8, .inl out.2.2.2.2.2.2.2.2.2.2.1)), (trialq_likelyOf, .inl (cI, 8, .inl out.2.2.2.2.2.2.2.2.2.2.2.1)), (trialq_kindOf, .inl (cI, 8, .inl out.2.2.2.2.2.2.2.2.2.2.2.2.1)), (trialq_settledOf, .inl (cI, 8, .inl out.2.2.2.2.2.2.2.2.2.2.2.2.2))]) := by
  refine bs_ofI (cc := cX6_bestHeavy) (maxL := 5) (by decide) rfl (Nat.le_of_ble_eq_true rfl) ?_
  intro p e s m below meth c A Q hx hb hown hml hts hE H locs hP hD hA hS ls hl hret
  have hK := hE.1
  have hl : lv_has ls 5 [(0, .ref psh), (1, .int p1)] := hl
  have hin4 : ∀ w ∈ u_ws RX4 TX4 13, w ∈ wsX6_bestHeavy := by decide +kernel
  have hin6 : ∀ w ∈ u_ws RX6 TX6 11, w ∈ wsX6_bestHeavy := by decide +kernel
  have k26 := hts (.fieldLink RX6 26 "PromiseScales" "now" "LPromiseScales$Scales;") (by decide +kernel)
  have k33 := hts (.fieldLink RX6 33 "PromiseScales" "trial" "LPromiseScales$Scales;") (by decide +kernel)
  have k164 := hts (.fieldLink RX6 164 "PromiseScales$Scales" "keeping" "[I") (by decide +kernel)
  unfold f_X6_bestHeavy at hf
  refine lv_aload_n hx hb dX6_bestHeavy_0 rfl (lv_at hl 0 rfl) ?_
  refine lv_iload_n hx hb dX6_bestHeavy_1 rfl (lv_at hl 1 rfl) ?_
  obtain ⟨z1, hz1, hf⟩ := bs_b hf
  refine bs_cViR ⟨hx, hb, hml, hown, hts⟩ (k_X6_isGiver l dC dI cI cZ cS cG psh rowsh tapeh nowh drafth trialh psq_images actsh sackh asksh nowq_keeping nowq_giverOf nowq_deedOf nowq_dayOf nowq_likelyOf nowq_kindOf nowq_settledOf ps_latestFault ps_latestFinding now_told now_wax now_stick now_givers now_promises now_pan now_keeping now_giverOf now_deedOf now_dayOf now_likelyOf now_kindOf now_settledOf p1 z1 hz1) (cwV 1 hts gX6_bestHeavy_X6_isGiver rfl rfl rfl (by decide +kernel) ⟨Nat.le_of_ble_eq_true rfl, Nat.le_of_ble_eq_true rfl⟩) hE hP hD hA hS [0, 1, 2, 3, 4, 5, 6, 7, 8] rfl rfl 6 0 rfl rfl rfl rfl hl.1 (Nat.le_of_ble_eq_true rfl) dX6_bestHeavy_2 (fun H locs hP hS => ?_)
  refine lv_if_ne (tgt := 11) hx hb dX6_bestHeavy_5 (by decide) (fun c2 => ?_) (fun c2 => ?_)
  · have hf := bs_f hf c2
    refine lv_iconst (v := 0) hx hb dX6_bestHeavy_11 (by decide) ?_
    refine lv_istore_n (lv' := [(2, .int 0), (0, .ref psh), (1, .int p1)]) hx hb dX6_bestHeavy_12 rfl hl (by decide) rfl (fun ls hl => ?_)
    refine lv_iconst (v := (-1)) hx hb dX6_bestHeavy_13 (by decide) ?_
    refine lv_istore_n (lv' := [(3, .int (-1)), (2, .int 0), (0, .ref psh), (1, .int p1)]) hx hb dX6_bestHeavy_14 rfl hl (by decide) rfl (fun ls hl => ?_)
    refine lv_iconst (v := 0) hx hb dX6_bestHeavy_15 (by decide) ?_
    refine lv_istore (lv' := [(4, .int 0), (3, .int (-1)), (2, .int 0), (0, .ref psh), (1, .int p1)]) hx hb dX6_bestHeavy_16 hl (by decide) rfl (fun ls hl => ?_)
    have L_18 : ∀ (fuel : Nat) (trial_told_18 : Int32) (trial_wax_18 : Int32) (trial_stick_18 : Int32) (trial_givers_18 : Int32) (trial_promises_18 : Int32) (trial_pan_18 : Int32) (trial_keeping_18 : Nat → Int32) (trial_giverOf_18 : Nat → Int32) (trial_deedOf_18 : Nat → Int32) (trial_dayOf_18 : Nat → Int32) (trial_likelyOf_18 : Nat → Int32) (trial_kindOf_18 : Nat → Int32) (trial_settledOf_18 : Nat → Int32) (x2_18 : Int32) (x3_18 : Int32) (x4_18 : Int32) (H : Heap) (locs : List Loc) (ls : Array Slot), va_P (dC, dI) vwCl ([(psh, .inr (6, [.ref rowsh, .ref tapeh, .ref nowh, .ref drafth, .ref trialh, .ref psq_images, .ref actsh, .ref sackh, .ref asksh, .int ps_latestFault, .int ps_latestFinding])), (nowh, .inr (4, [.int now_told, .int now_wax, .int now_stick, .int now_givers, .int now_promises, .int now_pan, .ref nowq_keeping, .ref nowq_giverOf, .ref nowq_deedOf, .ref nowq_dayOf, .ref nowq_likelyOf, .ref nowq_kindOf, .ref nowq_settledOf])), (nowq_keeping, .inl (cI, 4, .inl now_keeping)), (nowq_giverOf, .inl (cI, 8, .inl now_giverOf)), (nowq_deedOf, .inl (cI, 8, .inl now_deedOf)), (nowq_dayOf, .inl (cI, 8, .inl now_dayOf)), (nowq_likelyOf, .inl (cI, 8, .inl now_likelyOf)), (nowq_kindOf, .inl (cI, 8, .inl now_kindOf)), (nowq_settledOf, .inl (cI, 8, .inl now_settledOf)), (trialh, .inr (4, [.int trial_told_18, .int trial_wax_18, .int trial_stick_18, .int trial_givers_18, .int trial_promises_18, .int trial_pan_18, .ref trialq_keeping, .ref trialq_giverOf, .ref trialq_deedOf, .ref trialq_dayOf, .ref trialq_likelyOf, .ref trialq_kindOf, .ref trialq_settledOf])), (trialq_keeping, .inl (cI, 4, .inl trial_keeping_18)), (trialq_giverOf, .inl (cI, 8, .inl trial_giverOf_18)), (trialq_deedOf, .inl (cI, 8, .inl trial_deedOf_18)), (trialq_dayOf, .inl (cI, 8, .inl trial_dayOf_18)), (trialq_likelyOf, .inl (cI, 8, .inl trial_likelyOf_18)), (trialq_kindOf, .inl (cI, 8, .inl trial_kindOf_18)), (trialq_settledOf, .inl (cI, 8, .inl trial_settledOf_18))]) H → va_D A ([(psh, .inr (6, [.ref rowsh, .ref tapeh, .ref nowh, .ref drafth, .ref trialh, .ref psq_images, .ref actsh, .ref sackh, .ref asksh, .int ps_latestFault, .int ps_latestFinding])), (nowh, .inr (4, [.int now_told, .int now_wax, .int now_stick, .int now_givers, .int now_promises, .int now_pan, .ref nowq_keeping, .ref nowq_giverOf, .ref nowq_deedOf, .ref nowq_dayOf, .ref nowq_likelyOf, .ref nowq_kindOf, .ref nowq_settledOf])), (nowq_keeping, .inl (cI, 4, .inl now_keeping)), (nowq_giverOf, .inl (cI, 8, .inl now_giverOf)), (nowq_deedOf, .inl (cI, 8, .inl now_deedOf)), (nowq_dayOf, .inl (cI, 8, .inl now_dayOf)), (nowq_likelyOf, .inl (cI, 8, .inl now_likelyOf)), (nowq_kindOf, .inl (cI, 8, .inl now_kindOf)), (nowq_settledOf, .inl (cI, 8, .inl now_settledOf)), (trialh, .inr (4, [.int trial_told_18, .int trial_wax_18, .int trial_stick_18, .int trial_givers_18, .int trial_promises_18, .int trial_pan_18, .ref trialq_keeping, .ref trialq_giverOf, .ref trialq_deedOf, .ref trialq_dayOf, .ref trialq_likelyOf, .ref trialq_kindOf, .ref trialq_settledOf])), (trialq_keeping, .inl (cI, 4, .inl trial_keeping_18)), (trialq_giverOf, .inl (cI, 8, .inl trial_giverOf_18)), (trialq_deedOf, .inl (cI, 8, .inl trial_deedOf_18)), (trialq_dayOf, .inl (cI, 8, .inl trial_dayOf_18)), (trialq_likelyOf, .inl (cI, 8, .inl trial_likelyOf_18)), (trialq_kindOf, .inl (cI, 8, .inl trial_kindOf_18)), (trialq_settledOf, .inl (cI, 8, .inl trial_settledOf_18))]) → va_S A s.heap H locs → lv_has ls 5 [(0, .ref psh), (1, .int p1), (2, .int x2_18), (3, .int x3_18), (4, .int x4_18)] → f_X6_bestHeavy_L18 now_told now_wax now_stick now_givers now_promises now_pan now_keeping now_giverOf now_deedOf now_dayOf now_likelyOf now_kindOf now_settledOf p1 fuel trial_told_18 trial_wax_18 trial_stick_18 trial_givers_18 trial_promises_18 trial_pan_18 trial_keeping_18 trial_giverOf_18 trial_deedOf_18 trial_dayOf_18 trial_likelyOf_18 trial_kindOf_18 trial_settledOf_18 x2_18 x3_18 x4_18 = some out → W p l e ({ frames := 5, cells := 0, slots := 0, locals := 114 } : Room) s m ([.ref psh, .int p1] : List Value).toArray below meth c H locs 0 0 Q (F0 m 18 ls []) := by
      intro fuel
      induction fuel with
      | zero =>
        intro trial_told_18 trial_wax_18 trial_stick_18 trial_givers_18 trial_promises_18 trial_pan_18 trial_keeping_18 trial_giverOf_18 trial_deedOf_18 trial_dayOf_18 trial_likelyOf_18 trial_kindOf_18 trial_settledOf_18 x2_18 x3_18 x4_18 H locs ls hP hD hS hl hf
        cases (show (none : Option (Int32 × Int32 × Int32 × Int32 × Int32 × Int32 × Int32 × (Nat → Int32) × (Nat → Int32) × (Nat → Int32) × (Nat → Int32) × (Nat → Int32) × (Nat → Int32) × (Nat → Int32))) = some out from hf)
      | succ n_18 ih_18 =>
        intro trial_told_18 trial_wax_18 trial_stick_18 trial_givers_18 trial_promises_18 trial_pan_18 trial_keeping_18 trial_giverOf_18 trial_deedOf_18 trial_dayOf_18 trial_likelyOf_18 trial_kindOf_18 trial_settledOf_18 x2_18 x3_18 x4_18 H locs ls hP hD hS hl hf
        have hf := (f_X6_bestHeavy_L18_s now_told now_wax now_stick now_givers now_promises now_pan now_keeping now_giverOf now_deedOf now_dayOf now_likelyOf now_kindOf now_settledOf p1 n_18 trial_told_18 trial_wax_18 trial_stick_18 trial_givers_18 trial_promises_18 trial_pan_18 trial_keeping_18 trial_giverOf_18 trial_deedOf_18 trial_dayOf_18 trial_likelyOf_18 trial_kindOf_18 trial_settledOf_18 x2_18 x3_18 x4_18).symm.trans hf
        refine lv_iload hx hb dX6_bestHeavy_18 (lv_at hl 4 rfl) ?_
        refine lv_bipush (v := 20) hx hb dX6_bestHeavy_20 (by decide) ?_
        refine lv_icmp_gt (tgt := 77) hx hb dX6_bestHeavy_22 (by decide) (fun c3 => ?_) (fun c3 => ?_)
        · have hf := bs_t hf c3
          refine lv_iload_n hx hb dX6_bestHeavy_77 rfl (lv_at hl 2 rfl) ?_
          obtain rfl := Option.some.inj hf
          exact hret H locs _ _ hP hS rfl dX6_bestHeavy_78
        · have hf := bs_f hf c3
          refine lv_aload_n hx hb dX6_bestHeavy_25 rfl (lv_at hl 0 rfl) ?_
          refine va_get (D := (dC, dI)) (ci := 6) (v := .ref trialh) (C := RX6) (T := TX6) (N := 11) hx hb hts hin6 hown hK hP 0 rfl rfl 4 (by decide) k33 (fun _ h9 => h9) rfl dX6_bestHeavy_26 ?_
          refine lv_aload_n hx hb dX6_bestHeavy_29 rfl (lv_at hl 0 rfl) ?_
          refine va_get (D := (dC, dI)) (ci := 6) (v := .ref nowh) (C := RX6) (T := TX6) (N := 11) hx hb hts hin6 hown hK hP 0 rfl rfl 2 (by decide) k26 (fun _ h9 => h9) rfl dX6_bestHeavy_30 ?_
          obtain ⟨z4, hz4, hf⟩ := bs_b hf
          refine bs_cVv (ws1 := [(psh, .inr (6, [.ref rowsh, .ref tapeh, .ref nowh, .ref drafth, .ref trialh, .ref psq_images, .ref actsh, .ref sackh, .ref asksh, .int ps_latestFault, .int ps_latestFinding])), (nowh, .inr (4, [.int now_told, .int now_wax, .int now_stick, .int now_givers, .int now_promises, .int now_pan, .ref nowq_keeping, .ref nowq_giverOf, .ref nowq_deedOf, .ref nowq_dayOf, .ref nowq_likelyOf, .ref nowq_kindOf, .ref nowq_settledOf])), (nowq_keeping, .inl (cI, 4, .inl now_keeping)), (nowq_giverOf, .inl (cI, 8, .inl now_giverOf)), (nowq_deedOf, .inl (cI, 8, .inl now_deedOf)), (nowq_dayOf, .inl (cI, 8, .inl now_dayOf)), (nowq_likelyOf, .inl (cI, 8, .inl now_likelyOf)), (nowq_kindOf, .inl (cI, 8, .inl now_kindOf)), (nowq_settledOf, .inl (cI, 8, .inl now_settledOf)), (trialh, .inr (4, [.int z4.1, .int z4.2.1, .int z4.2.2.1, .int z4.2.2.2.1, .int z4.2.2.2.2.1, .int z4.2.2.2.2.2.1, .ref trialq_keeping, .ref trialq_giverOf, .ref trialq_deedOf, .ref trialq_dayOf, .ref trialq_likelyOf, .ref trialq_kindOf, .ref trialq_settledOf])), (trialq_keeping, .inl (cI, 4, .inl z4.2.2.2.2.2.2.1)), (trialq_giverOf, .inl (cI, 8, .inl z4.2.2.2.2.2.2.2.1)), (trialq_deedOf, .inl (cI, 8, .inl z4.2.2.2.2.2.2.2.2.1)), (trialq_dayOf, .inl (cI, 8, .inl z4.2.2.2.2.2.2.2.2.2.1)), (trialq_likelyOf, .inl (cI, 8, .inl z4.2.2.2.2.2.2.2.2.2.2.1)), (trialq_kindOf, .inl (cI, 8, .inl z4.2.2.2.2.2.2.2.2.2.2.2.1)), (trialq_settledOf, .inl (cI, 8, .inl z4.2.2.2.2.2.2.2.2.2.2.2.2))]) ⟨hx, hb, hml, hown, hts⟩ (k_X4_become l dC dI cI cZ cS cG trialh trialq_keeping trialq_giverOf trialq_deedOf trialq_dayOf trialq_likelyOf trialq_kindOf trialq_settledOf nowh nowq_keeping nowq_giverOf nowq_deedOf nowq_dayOf nowq_likelyOf nowq_kindOf nowq_settledOf trial_told_18 trial_wax_18 trial_stick_18 trial_givers_18 trial_promises_18 trial_pan_18 trial_keeping_18 trial_giverOf_18 trial_deedOf_18 trial_dayOf_18 trial_likelyOf_18 trial_kindOf_18 trial_settledOf_18 now_told now_wax now_stick now_givers now_promises now_pan now_keeping now_giverOf now_deedOf now_dayOf now_likelyOf now_kindOf now_settledOf z4 hz4) (cwV 1 hts gX6_bestHeavy_X4_become rfl rfl rfl (by decide +kernel) ⟨Nat.le_of_ble_eq_true rfl, Nat.le_of_ble_eq_true rfl⟩) hE hP hD hA hS [9, 10, 11, 12, 13, 14, 15, 16, 1, 2, 3, 4, 5, 6, 7, 8] rfl rfl 4 0 rfl rfl rfl rfl rfl rfl rfl hl.1 (Nat.le_of_ble_eq_true rfl) dX6_bestHeavy_33 (fun H locs hP hD hS => ?_)
          refine lv_aload_n hx hb dX6_bestHeavy_36 rfl (lv_at hl 0 rfl) ?_
          refine va_get (D := (dC, dI)) (ci := 6) (v := .ref trialh) (C := RX6) (T := TX6) (N := 11) hx hb hts hin6 hown hK hP 0 rfl rfl 4 (by decide) k33 (fun _ h9 => h9) rfl dX6_bestHeavy_37 ?_
          refine lv_iload hx hb dX6_bestHeavy_40 (lv_at hl 4 rfl) ?_
          obtain ⟨z5, hz5, hf⟩ := bs_b hf
          refine bs_cVv (ws1 := [(psh, .inr (6, [.ref rowsh, .ref tapeh, .ref nowh, .ref drafth, .ref trialh, .ref psq_images, .ref actsh, .ref sackh, .ref asksh, .int ps_latestFault, .int ps_latestFinding])), (nowh, .inr (4, [.int now_told, .int now_wax, .int now_stick, .int now_givers, .int now_promises, .int now_pan, .ref nowq_keeping, .ref nowq_giverOf, .ref nowq_deedOf, .ref nowq_dayOf, .ref nowq_likelyOf, .ref nowq_kindOf, .ref nowq_settledOf])), (nowq_keeping, .inl (cI, 4, .inl now_keeping)), (nowq_giverOf, .inl (cI, 8, .inl now_giverOf)), (nowq_deedOf, .inl (cI, 8, .inl now_deedOf)), (nowq_dayOf, .inl (cI, 8, .inl now_dayOf)), (nowq_likelyOf, .inl (cI, 8, .inl now_likelyOf)), (nowq_kindOf, .inl (cI, 8, .inl now_kindOf)), (nowq_settledOf, .inl (cI, 8, .inl now_settledOf)), (trialh, .inr (4, [.int z4.1, .int z4.2.1, .int z4.2.2.1, .int z4.2.2.2.1, .int z4.2.2.2.2.1, .int z5.1, .ref trialq_keeping, .ref trialq_giverOf, .ref trialq_deedOf, .ref trialq_dayOf, .ref trialq_likelyOf, .ref trialq_kindOf, .ref trialq_settledOf])), (trialq_keeping, .inl (cI, 4, .inl z5.2.1)), (trialq_giverOf, .inl (cI, 8, .inl z4.2.2.2.2.2.2.2.1)), (trialq_deedOf, .inl (cI, 8, .inl z4.2.2.2.2.2.2.2.2.1)), (trialq_dayOf, .inl (cI, 8, .inl z4.2.2.2.2.2.2.2.2.2.1)), (trialq_likelyOf, .inl (cI, 8, .inl z4.2.2.2.2.2.2.2.2.2.2.1)), (trialq_kindOf, .inl (cI, 8, .inl z4.2.2.2.2.2.2.2.2.2.2.2.1)), (trialq_settledOf, .inl (cI, 8, .inl z5.2.2))]) ⟨hx, hb, hml, hown, hts⟩ (k_X4_settleByDays l dC dI cI cZ cS cG trialh trialq_keeping trialq_giverOf trialq_deedOf trialq_dayOf trialq_likelyOf trialq_kindOf trialq_settledOf z4.1 z4.2.1 z4.2.2.1 z4.2.2.2.1 z4.2.2.2.2.1 z4.2.2.2.2.2.1 z4.2.2.2.2.2.2.1 z4.2.2.2.2.2.2.2.1 z4.2.2.2.2.2.2.2.2.1 z4.2.2.2.2.2.2.2.2.2.1 z4.2.2.2.2.2.2.2.2.2.2.1 z4.2.2.2.2.2.2.2.2.2.2.2.1 z4.2.2.2.2.2.2.2.2.2.2.2.2 x4_18 z5 hz5) (cwV 1 hts gX6_bestHeavy_X4_settleByDays rfl rfl rfl (by decide +kernel) ⟨Nat.le_of_ble_eq_true rfl, Nat.le_of_ble_eq_true rfl⟩) hE hP hD hA hS [9, 10, 11, 12, 13, 14, 15, 16] rfl rfl 4 0 rfl rfl rfl rfl rfl rfl rfl hl.1 (Nat.le_of_ble_eq_true rfl) dX6_bestHeavy_42 (fun H locs hP hD hS => ?_)
          refine lv_aload_n hx hb dX6_bestHeavy_45 rfl (lv_at hl 0 rfl) ?_
          refine va_get (D := (dC, dI)) (ci := 6) (v := .ref trialh) (C := RX6) (T := TX6) (N := 11) hx hb hts hin6 hown hK hP 0 rfl rfl 4 (by decide) k33 (fun _ h9 => h9) rfl dX6_bestHeavy_46 ?_
          refine va_get (D := (dC, dI)) (ci := 4) (v := .ref trialq_keeping) (C := RX4) (T := TX4) (N := 13) hx hb hts hin4 hown hK hP 9 rfl rfl 6 (by decide) k164 (fun _ h9 => h9) rfl dX6_bestHeavy_49 ?_
          refine lv_iload_n hx hb dX6_bestHeavy_52 rfl (lv_at hl 1 rfl) ?_
          obtain ⟨g6, hf⟩ := bs_g hf
          refine va_iald hx hb hK hP 10 0 rfl rfl (bs_inV g6) dX6_bestHeavy_53 ?_
          refine lv_iload_n hx hb dX6_bestHeavy_54 rfl (lv_at hl 3 rfl) ?_
          refine lv_icmp_le (tgt := 71) hx hb dX6_bestHeavy_55 (by decide) (fun c7 => ?_) (fun c7 => ?_)
          · have hf := bs_t hf c7
            refine lv_iinc (v := x4_18 + 1) (lv' := [(4, .int (x4_18 + 1)), (0, .ref psh), (1, .int p1), (2, .int x2_18), (3, .int x3_18)]) hx hb dX6_bestHeavy_71 hl (k := 4) rfl rfl (by decide) rfl (fun ls hl => ?_)
            refine lv_goto (tgt := 18) hx hb dX6_bestHeavy_74 (by decide) ?_
            exact ih_18 z4.1 z4.2.1 z4.2.2.1 z4.2.2.2.1 z4.2.2.2.2.1 z5.1 z5.2.1 z4.2.2.2.2.2.2.2.1 z4.2.2.2.2.2.2.2.2.1 z4.2.2.2.2.2.2.2.2.2.1 z4.2.2.2.2.2.2.2.2.2.2.1 z4.2.2.2.2.2.2.2.2.2.2.2.1 z5.2.2 x2_18 x3_18 (x4_18 + 1) H locs ls hP hD hS (lv_sub hl [1, 2, 3, 4, 0] rfl) hf
          · have hf := bs_f hf c7
            refine lv_aload_n hx hb dX6_bestHeavy_58 rfl (lv_at hl 0 rfl) ?_
            refine va_get (D := (dC, dI)) (ci := 6) (v := .ref trialh) (C := RX6) (T := TX6) (N := 11) hx hb hts hin6 hown hK hP 0 rfl rfl 4 (by decide) k33 (fun _ h9 => h9) rfl dX6_bestHeavy_59 ?_
            refine va_get (D := (dC, dI)) (ci := 4) (v := .ref trialq_keeping) (C := RX4) (T := TX4) (N := 13) hx hb hts hin4 hown hK hP 9 rfl rfl 6 (by decide) k164 (fun _ h9 => h9) rfl dX6_bestHeavy_62 ?_
            refine lv_iload_n hx hb dX6_bestHeavy_65 rfl (lv_at hl 1 rfl) ?_
            obtain ⟨g8, hf⟩ := bs_g hf
            refine va_iald hx hb hK hP 10 0 rfl rfl (bs_inV g8) dX6_bestHeavy_66 ?_
            refine lv_istore_n (lv' := [(3, .int (z5.2.1 p1.toNatClampNeg)), (0, .ref psh), (1, .int p1), (2, .int x2_18), (4, .int x4_18)]) hx hb dX6_bestHeavy_67 rfl hl (by decide) rfl (fun ls hl => ?_)
            refine lv_iload hx hb dX6_bestHeavy_68 (lv_at hl 4 rfl) ?_
            refine lv_istore_n (lv' := [(2, .int x4_18), (3, .int (z5.2.1 p1.toNatClampNeg)), (0, .ref psh), (1, .int p1), (4, .int x4_18)]) hx hb dX6_bestHeavy_70 rfl hl (by decide) rfl (fun ls hl => ?_)
            refine lv_iinc (v := x4_18 + 1) (lv' := [(4, .int (x4_18 + 1)), (2, .int x4_18), (3, .int (z5.2.1 p1.toNatClampNeg)), (0, .ref psh), (1, .int p1)]) hx hb dX6_bestHeavy_71 hl (k := 4) rfl rfl (by decide) rfl (fun ls hl => ?_)
            refine lv_goto (tgt := 18) hx hb dX6_bestHeavy_74 (by decide) ?_
            exact ih_18 z4.1 z4.2.1 z4.2.2.1 z4.2.2.2.1 z4.2.2.2.2.1 z5.1 z5.2.1 z4.2.2.2.2.2.2.2.1 z4.2.2.2.2.2.2.2.2.1 z4.2.2.2.2.2.2.2.2.2.1 z4.2.2.2.2.2.2.2.2.2.2.1 z4.2.2.2.2.2.2.2.2.2.2.2.1 z5.2.2 x4_18 (z5.2.1 p1.toNatClampNeg) (x4_18 + 1) H locs ls hP hD hS (lv_sub hl [3, 4, 1, 2, 0] rfl) hf
    exact L_18 bs_F trial_told trial_wax trial_stick trial_givers trial_promises trial_pan trial_keeping trial_giverOf trial_deedOf trial_dayOf trial_likelyOf trial_kindOf trial_settledOf (0 : Int32) (-1 : Int32) (0 : Int32) H locs ls hP hD hS (lv_sub hl [3, 4, 2, 1, 0] rfl) hf
  · have hf := bs_t hf c2
    refine lv_ldc hx hb hown (hts (.constant RX6 69 (-1000001)) (by decide +kernel)) dX6_bestHeavy_8 ?_
    obtain rfl := Option.some.inj hf
    exact hret H locs _ _ hP hS rfl dX6_bestHeavy_10
set_option maxHeartbeats 4000000 in
set_option maxRecDepth 100000 in
theorem k_X6_areSets (l : Launch) (dC : Nat → ClassId) (dI : Nat → Nat → Nat) (cI cZ cS cG : ClassId) (psh : Nat) (rowsh : Nat) (tapeh : Nat) (nowh : Nat) (drafth : Nat) (trialh : Nat) (psq_images : Nat) (actsh : Nat) (sackh : Nat) (asksh : Nat) (nowq_keeping : Nat) (nowq_giverOf : Nat) (nowq_deedOf : Nat) (nowq_dayOf : Nat) (nowq_likelyOf : Nat) (nowq_kindOf : Nat) (nowq_settledOf : Nat) (aq : Nat) (ps_latestFault : Int32) (ps_latestFinding : Int32) (now_told : Int32) (now_wax : Int32) (now_stick : Int32) (now_givers : Int32) (now_promises : Int32) (now_pan : Int32) (now_keeping : Nat → Int32) (now_giverOf : Nat → Int32) (now_deedOf : Nat → Int32) (now_dayOf : Nat → Int32) (now_likelyOf : Nat → Int32) (now_kindOf : Nat → Int32) (now_settledOf : Nat → Int32) (a : Nat → Int32) (p2 : Int32) (p3 : Int32) (out : Int32) (hf : f_X6_areSets now_promises a p2 p3 = some out) : bs_C l dC dI cI cZ cS cG yX6_areSets wsX6_areSets ({ frames := 1, cells := 0, slots := 0, locals := 21 } : Room) [.ref psh, .ref aq, .int p2, .int p3] ([(psh, .inr (6, [.ref rowsh, .ref tapeh, .ref nowh, .ref drafth, .ref trialh, .ref psq_images, .ref actsh, .ref sackh, .ref asksh, .int ps_latestFault, .int ps_latestFinding])), (nowh, .inr (4, [.int now_told, .int now_wax, .int now_stick, .int now_givers, .int now_promises, .int now_pan, .ref nowq_keeping, .ref nowq_giverOf, .ref nowq_deedOf, .ref nowq_dayOf, .ref nowq_likelyOf, .ref nowq_kindOf, .ref nowq_settledOf])), (nowq_keeping, .inl (cI, 4, .inl now_keeping)), (nowq_giverOf, .inl (cI, 8, .inl now_giverOf)), (nowq_deedOf, .inl (cI, 8, .inl now_deedOf)), (nowq_dayOf, .inl (cI, 8, .inl now_dayOf)), (nowq_likelyOf, .inl (cI, 8, .inl now_likelyOf)), (nowq_kindOf, .inl (cI, 8, .inl now_kindOf)), (nowq_settledOf, .inl (cI, 8, .inl now_settledOf)), (aq, .inl (cI, 40, .inl a))]) out ([(psh, .inr (6, [.ref rowsh, .ref tapeh, .ref nowh, .ref drafth, .ref trialh, .ref psq_images, .ref actsh, .ref sackh, .ref asksh, .int ps_latestFault, .int ps_latestFinding])), (nowh, .inr (4, [.int now_told, .int now_wax, .int now_stick, .int now_givers, .int now_promises, .int now_pan, .ref nowq_keeping, .ref nowq_giverOf, .ref nowq_deedOf, .ref nowq_dayOf, .ref nowq_likelyOf, .ref nowq_kindOf, .ref nowq_settledOf])), (nowq_keeping, .inl (cI, 4, .inl now_keeping)), (nowq_giverOf, .inl (cI, 8, .inl now_giverOf)), (nowq_deedOf, .inl (cI, 8, .inl now_deedOf)), (nowq_dayOf, .inl (cI, 8, .inl now_dayOf)), (nowq_likelyOf, .inl (cI, 8, .inl now_likelyOf)), (nowq_kindOf, .inl (cI, 8, .inl now_kindOf)), (nowq_settledOf, .inl (cI, 8, .inl now_settledOf)), (aq, .inl (cI, 40, .inl a))]) := by
  refine bs_ofI (cc := cX6_areSets) (maxL := 5) (by decide) rfl (Nat.le_of_ble_eq_true rfl) ?_
  intro p e s m below meth c A Q hx hb hown hml hts hE H locs hP hD hA hS ls hl hret
  have hK := hE.1
  have hl : lv_has ls 5 [(0, .ref psh), (1, .ref aq), (2, .int p2), (3, .int p3)] := hl
  have hin6 : ∀ w ∈ u_ws RX6 TX6 11, w ∈ wsX6_areSets := by decide +kernel
  have k26 := hts (.fieldLink RX6 26 "PromiseScales" "now" "LPromiseScales$Scales;") (by decide +kernel)
  unfold f_X6_areSets at hf
  refine lv_iconst (v := 0) hx hb dX6_areSets_0 (by decide) ?_
  refine lv_istore (lv' := [(4, .int 0), (0, .ref psh), (1, .ref aq), (2, .int p2), (3, .int p3)]) hx hb dX6_areSets_1 hl (by decide) rfl (fun ls hl => ?_)
  have L_3 : ∀ (fuel : Nat) (x4_3 : Int32) (H : Heap) (locs : List Loc) (ls : Array Slot), va_P (dC, dI) vwCl ([(psh, .inr (6, [.ref rowsh, .ref tapeh, .ref nowh, .ref drafth, .ref trialh, .ref psq_images, .ref actsh, .ref sackh, .ref asksh, .int ps_latestFault, .int ps_latestFinding])), (nowh, .inr (4, [.int now_told, .int now_wax, .int now_stick, .int now_givers, .int now_promises, .int now_pan, .ref nowq_keeping, .ref nowq_giverOf, .ref nowq_deedOf, .ref nowq_dayOf, .ref nowq_likelyOf, .ref nowq_kindOf, .ref nowq_settledOf])), (nowq_keeping, .inl (cI, 4, .inl now_keeping)), (nowq_giverOf, .inl (cI, 8, .inl now_giverOf)), (nowq_deedOf, .inl (cI, 8, .inl now_deedOf)), (nowq_dayOf, .inl (cI, 8, .inl now_dayOf)), (nowq_likelyOf, .inl (cI, 8, .inl now_likelyOf)), (nowq_kindOf, .inl (cI, 8, .inl now_kindOf)), (nowq_settledOf, .inl (cI, 8, .inl now_settledOf)), (aq, .inl (cI, 40, .inl a))]) H → va_D A ([(psh, .inr (6, [.ref rowsh, .ref tapeh, .ref nowh, .ref drafth, .ref trialh, .ref psq_images, .ref actsh, .ref sackh, .ref asksh, .int ps_latestFault, .int ps_latestFinding])), (nowh, .inr (4, [.int now_told, .int now_wax, .int now_stick, .int now_givers, .int now_promises, .int now_pan, .ref nowq_keeping, .ref nowq_giverOf, .ref nowq_deedOf, .ref nowq_dayOf, .ref nowq_likelyOf, .ref nowq_kindOf, .ref nowq_settledOf])), (nowq_keeping, .inl (cI, 4, .inl now_keeping)), (nowq_giverOf, .inl (cI, 8, .inl now_giverOf)), (nowq_deedOf, .inl (cI, 8, .inl now_deedOf)), (nowq_dayOf, .inl (cI, 8, .inl now_dayOf)), (nowq_likelyOf, .inl (cI, 8, .inl now_likelyOf)), (nowq_kindOf, .inl (cI, 8, .inl now_kindOf)), (nowq_settledOf, .inl (cI, 8, .inl now_settledOf)), (aq, .inl (cI, 40, .inl a))]) → va_S A s.heap H locs → lv_has ls 5 [(0, .ref psh), (1, .ref aq), (2, .int p2), (3, .int p3), (4, .int x4_3)] → f_X6_areSets_L3 now_promises a p2 p3 fuel x4_3 = some out → W p l e ({ frames := 1, cells := 0, slots := 0, locals := 21 } : Room) s m ([.ref psh, .ref aq, .int p2, .int p3] : List Value).toArray below meth c H locs 0 0 Q (F0 m 3 ls []) := by
    intro fuel
    induction fuel with
    | zero =>
      intro x4_3 H locs ls hP hD hS hl hf
      cases (show (none : Option (Int32)) = some out from hf)
    | succ n_3 ih_3 =>
      intro x4_3 H locs ls hP hD hS hl hf
      have hf := (f_X6_areSets_L3_s now_promises a p2 p3 n_3 x4_3).symm.trans hf
      refine lv_iload hx hb dX6_areSets_3 (lv_at hl 4 rfl) ?_
      refine lv_iload_n hx hb dX6_areSets_5 rfl (lv_at hl 3 rfl) ?_
      refine lv_icmp_ge (tgt := 35) hx hb dX6_areSets_6 (by decide) (fun c1 => ?_) (fun c1 => ?_)
      · have hf := bs_t hf c1
        refine lv_iconst (v := 1) hx hb dX6_areSets_35 (by decide) ?_
        obtain rfl := Option.some.inj hf
        exact hret H locs _ _ hP hS bs_n1 dX6_areSets_36
      · have hf := bs_f hf c1
        refine lv_aload_n hx hb dX6_areSets_9 rfl (lv_at hl 0 rfl) ?_
        refine va_get (D := (dC, dI)) (ci := 6) (v := .ref nowh) (C := RX6) (T := TX6) (N := 11) hx hb hts hin6 hown hK hP 0 rfl rfl 2 (by decide) k26 (fun _ h9 => h9) rfl dX6_areSets_10 ?_
        refine lv_aload_n hx hb dX6_areSets_13 rfl (lv_at hl 1 rfl) ?_
        refine lv_iload_n hx hb dX6_areSets_14 rfl (lv_at hl 2 rfl) ?_
        refine lv_iconst (v := 2) hx hb dX6_areSets_15 (by decide) ?_
        refine lv_iload hx hb dX6_areSets_16 (lv_at hl 4 rfl) ?_
        refine lv_imul hx hb dX6_areSets_18 ?_
        refine lv_iadd hx hb dX6_areSets_19 ?_
        obtain ⟨g2, hf⟩ := bs_g hf
        refine va_iald hx hb hK hP 9 0 rfl rfl (bs_inV g2) dX6_areSets_20 ?_
        obtain ⟨z3, hz3, hf⟩ := bs_b hf
        refine bs_cViR ⟨hx, hb, hml, hown, hts⟩ (k_X4_isSet l dC dI cI cZ cS cG nowh nowq_keeping nowq_giverOf nowq_deedOf nowq_dayOf nowq_likelyOf nowq_kindOf nowq_settledOf now_told now_wax now_stick now_givers now_promises now_pan now_keeping now_giverOf now_deedOf now_dayOf now_likelyOf now_kindOf now_settledOf (a (p2 + (2 * x4_3)).toNatClampNeg) z3 hz3) (cwV 1 hts gX6_areSets_X4_isSet rfl rfl rfl (by decide +kernel) ⟨Nat.le_of_ble_eq_true rfl, Nat.le_of_ble_eq_true rfl⟩) hE hP hD hA hS [1, 2, 3, 4, 5, 6, 7, 8] rfl rfl 4 0 rfl rfl rfl rfl hl.1 (Nat.le_of_ble_eq_true rfl) dX6_areSets_21 (fun H locs hP hS => ?_)
        refine lv_if_ne (tgt := 29) hx hb dX6_areSets_24 (by decide) (fun c4 => ?_) (fun c4 => ?_)
        · have hf := bs_f hf c4
          refine lv_iinc (v := x4_3 + 1) (lv' := [(4, .int (x4_3 + 1)), (0, .ref psh), (1, .ref aq), (2, .int p2), (3, .int p3)]) hx hb dX6_areSets_29 hl (k := 4) rfl rfl (by decide) rfl (fun ls hl => ?_)
          refine lv_goto (tgt := 3) hx hb dX6_areSets_32 (by decide) ?_
          exact ih_3 (x4_3 + 1) H locs ls hP hD hS (lv_sub hl [1, 2, 3, 4, 0] rfl) hf
        · have hf := bs_t hf c4
          refine lv_iconst (v := 0) hx hb dX6_areSets_27 (by decide) ?_
          obtain rfl := Option.some.inj hf
          exact hret H locs _ _ hP hS bs_n0 dX6_areSets_28
  exact L_3 bs_F (0 : Int32) H locs ls hP hD hS (lv_sub hl [1, 2, 3, 4, 0] rfl) hf
set_option maxHeartbeats 4000000 in
set_option maxRecDepth 100000 in
theorem k_X6_waxesFound (l : Launch) (dC : Nat → ClassId) (dI : Nat → Nat → Nat) (cI cZ cS cG : ClassId) (psh : Nat) (rowsh : Nat) (tapeh : Nat) (nowh : Nat) (drafth : Nat) (trialh : Nat) (psq_images : Nat) (actsh : Nat) (sackh : Nat) (asksh : Nat) (nowq_keeping : Nat) (nowq_giverOf : Nat) (nowq_deedOf : Nat) (nowq_dayOf : Nat) (nowq_likelyOf : Nat) (nowq_kindOf : Nat) (nowq_settledOf : Nat) (sackq_weights : Nat) (sackq_rivals : Nat) (aq : Nat) (ps_latestFault : Int32) (ps_latestFinding : Int32) (now_told : Int32) (now_wax : Int32) (now_stick : Int32) (now_givers : Int32) (now_promises : Int32) (now_pan : Int32) (now_keeping : Nat → Int32) (now_giverOf : Nat → Int32) (now_deedOf : Nat → Int32) (now_dayOf : Nat → Int32) (now_likelyOf : Nat → Int32) (now_kindOf : Nat → Int32) (now_settledOf : Nat → Int32) (sack_weights : Nat → Int32) (sack_rivals : Nat → Int32) (sack_promises : Int32) (sack_sets : Int32) (sack_wax : Int32) (sack_stick : Int32) (sack_settled : Int32) (a : Nat → Int32) (p2 : Int32) (p3 : Int32) (out : Int32) (hf : f_X6_waxesFound now_stick sack_weights sack_promises a p2 p3 = some out) : bs_C l dC dI cI cZ cS cG yX6_waxesFound wsX6_waxesFound ({ frames := 2, cells := 0, slots := 0, locals := 50 } : Room) [.ref psh, .ref aq, .int p2, .int p3] ([(psh, .inr (6, [.ref rowsh, .ref tapeh, .ref nowh, .ref drafth, .ref trialh, .ref psq_images, .ref actsh, .ref sackh, .ref asksh, .int ps_latestFault, .int ps_latestFinding])), (nowh, .inr (4, [.int now_told, .int now_wax, .int now_stick, .int now_givers, .int now_promises, .int now_pan, .ref nowq_keeping, .ref nowq_giverOf, .ref nowq_deedOf, .ref nowq_dayOf, .ref nowq_likelyOf, .ref nowq_kindOf, .ref nowq_settledOf])), (nowq_keeping, .inl (cI, 4, .inl now_keeping)), (nowq_giverOf, .inl (cI, 8, .inl now_giverOf)), (nowq_deedOf, .inl (cI, 8, .inl now_deedOf)), (nowq_dayOf, .inl (cI, 8, .inl now_dayOf)), (nowq_likelyOf, .inl (cI, 8, .inl now_likelyOf)), (nowq_kindOf, .inl (cI, 8, .inl now_kindOf)), (nowq_settledOf, .inl (cI, 8, .inl now_settledOf)), (sackh, .inr (2, [.ref sackq_weights, .ref sackq_rivals, .int sack_promises, .int sack_sets, .int sack_wax, .int sack_stick, .int sack_settled])), (sackq_weights, .inl (cI, 8, .inl sack_weights)), (sackq_rivals, .inl (cI, 8, .inl sack_rivals)), (aq, .inl (cI, 40, .inl a))]) out ([(psh, .inr (6, [.ref rowsh, .ref tapeh, .ref nowh, .ref drafth, .ref trialh, .ref psq_images, .ref actsh, .ref sackh, .ref asksh, .int ps_latestFault, .int ps_latestFinding])), (nowh, .inr (4, [.int now_told, .int now_wax, .int now_stick, .int now_givers, .int now_promises, .int now_pan, .ref nowq_keeping, .ref nowq_giverOf, .ref nowq_deedOf, .ref nowq_dayOf, .ref nowq_likelyOf, .ref nowq_kindOf, .ref nowq_settledOf])), (nowq_keeping, .inl (cI, 4, .inl now_keeping)), (nowq_giverOf, .inl (cI, 8, .inl now_giverOf)), (nowq_deedOf, .inl (cI, 8, .inl now_deedOf)), (nowq_dayOf, .inl (cI, 8, .inl now_dayOf)), (nowq_likelyOf, .inl (cI, 8, .inl now_likelyOf)), (nowq_kindOf, .inl (cI, 8, .inl now_kindOf)), (nowq_settledOf, .inl (cI, 8, .inl now_settledOf)), (sackh, .inr (2, [.ref sackq_weights, .ref sackq_rivals, .int sack_promises, .int sack_sets, .int sack_wax, .int sack_stick, .int sack_settled])), (sackq_weights, .inl (cI, 8, .inl sack_weights)), (sackq_rivals, .inl (cI, 8, .inl sack_rivals)), (aq, .inl (cI, 40, .inl a))]) := by
  refine bs_ofI (cc := cX6_waxesFound) (maxL := 6) (by decide) rfl (Nat.le_of_ble_eq_true rfl) ?_
  intro p e s m below meth c A Q hx hb hown hml hts hE H locs hP hD hA hS ls hl hret
  have hK := hE.1
  have hl : lv_has ls 6 [(0, .ref psh), (1, .ref aq), (2, .int p2), (3, .int p3)] := hl
  have hin4 : ∀ w ∈ u_ws RX4 TX4 13, w ∈ wsX6_waxesFound := by decide +kernel
  have hin6 : ∀ w ∈ u_ws RX6 TX6 11, w ∈ wsX6_waxesFound := by decide +kernel
  have k26 := hts (.fieldLink RX6 26 "PromiseScales" "now" "LPromiseScales$Scales;") (by decide +kernel)
  have k50 := hts (.fieldLink RX6 50 "PromiseScales" "sack" "LPromiseScales$Bags;") (by decide +kernel)
  have k290 := hts (.fieldLink RX6 290 "PromiseScales$Scales" "stick" "I") (by decide +kernel)
  unfold f_X6_waxesFound at hf
  refine lv_iconst (v := 0) hx hb dX6_waxesFound_0 (by decide) ?_
  refine lv_istore (lv' := [(4, .int 0), (0, .ref psh), (1, .ref aq), (2, .int p2), (3, .int p3)]) hx hb dX6_waxesFound_1 hl (by decide) rfl (fun ls hl => ?_)
  refine lv_iconst (v := 0) hx hb dX6_waxesFound_3 (by decide) ?_
  refine lv_istore (lv' := [(5, .int 0), (4, .int 0), (0, .ref psh), (1, .ref aq), (2, .int p2), (3, .int p3)]) hx hb dX6_waxesFound_4 hl (by decide) rfl (fun ls hl => ?_)
  have L_6 : ∀ (fuel : Nat) (x4_6 : Int32) (x5_6 : Int32) (H : Heap) (locs : List Loc) (ls : Array Slot), va_P (dC, dI) vwCl ([(psh, .inr (6, [.ref rowsh, .ref tapeh, .ref nowh, .ref drafth, .ref trialh, .ref psq_images, .ref actsh, .ref sackh, .ref asksh, .int ps_latestFault, .int ps_latestFinding])), (nowh, .inr (4, [.int now_told, .int now_wax, .int now_stick, .int now_givers, .int now_promises, .int now_pan, .ref nowq_keeping, .ref nowq_giverOf, .ref nowq_deedOf, .ref nowq_dayOf, .ref nowq_likelyOf, .ref nowq_kindOf, .ref nowq_settledOf])), (nowq_keeping, .inl (cI, 4, .inl now_keeping)), (nowq_giverOf, .inl (cI, 8, .inl now_giverOf)), (nowq_deedOf, .inl (cI, 8, .inl now_deedOf)), (nowq_dayOf, .inl (cI, 8, .inl now_dayOf)), (nowq_likelyOf, .inl (cI, 8, .inl now_likelyOf)), (nowq_kindOf, .inl (cI, 8, .inl now_kindOf)), (nowq_settledOf, .inl (cI, 8, .inl now_settledOf)), (sackh, .inr (2, [.ref sackq_weights, .ref sackq_rivals, .int sack_promises, .int sack_sets, .int sack_wax, .int sack_stick, .int sack_settled])), (sackq_weights, .inl (cI, 8, .inl sack_weights)), (sackq_rivals, .inl (cI, 8, .inl sack_rivals)), (aq, .inl (cI, 40, .inl a))]) H → va_D A ([(psh, .inr (6, [.ref rowsh, .ref tapeh, .ref nowh, .ref drafth, .ref trialh, .ref psq_images, .ref actsh, .ref sackh, .ref asksh, .int ps_latestFault, .int ps_latestFinding])), (nowh, .inr (4, [.int now_told, .int now_wax, .int now_stick, .int now_givers, .int now_promises, .int now_pan, .ref nowq_keeping, .ref nowq_giverOf, .ref nowq_deedOf, .ref nowq_dayOf, .ref nowq_likelyOf, .ref nowq_kindOf, .ref nowq_settledOf])), (nowq_keeping, .inl (cI, 4, .inl now_keeping)), (nowq_giverOf, .inl (cI, 8, .inl now_giverOf)), (nowq_deedOf, .inl (cI, 8, .inl now_deedOf)), (nowq_dayOf, .inl (cI, 8, .inl now_dayOf)), (nowq_likelyOf, .inl (cI, 8, .inl now_likelyOf)), (nowq_kindOf, .inl (cI, 8, .inl now_kindOf)), (nowq_settledOf, .inl (cI, 8, .inl now_settledOf)), (sackh, .inr (2, [.ref sackq_weights, .ref sackq_rivals, .int sack_promises, .int sack_sets, .int sack_wax, .int sack_stick, .int sack_settled])), (sackq_weights, .inl (cI, 8, .inl sack_weights)), (sackq_rivals, .inl (cI, 8, .inl sack_rivals)), (aq, .inl (cI, 40, .inl a))]) → va_S A s.heap H locs → lv_has ls 6 [(0, .ref psh), (1, .ref aq), (2, .int p2), (3, .int p3), (4, .int x4_6), (5, .int x5_6)] → f_X6_waxesFound_L6 now_stick sack_weights sack_promises a p2 p3 fuel x4_6 x5_6 = some out → W p l e ({ frames := 2, cells := 0, slots := 0, locals := 50 } : Room) s m ([.ref psh, .ref aq, .int p2, .int p3] : List Value).toArray below meth c H locs 0 0 Q (F0 m 6 ls []) := by
    intro fuel
    induction fuel with
    | zero =>
      intro x4_6 x5_6 H locs ls hP hD hS hl hf
      cases (show (none : Option (Int32)) = some out from hf)
    | succ n_6 ih_6 =>
      intro x4_6 x5_6 H locs ls hP hD hS hl hf
      have hf := (f_X6_waxesFound_L6_s now_stick sack_weights sack_promises a p2 p3 n_6 x4_6 x5_6).symm.trans hf
      refine lv_iload hx hb dX6_waxesFound_6 (lv_at hl 5 rfl) ?_
      refine lv_bipush (v := 9) hx hb dX6_waxesFound_8 (by decide) ?_
      refine lv_icmp_gt (tgt := 50) hx hb dX6_waxesFound_10 (by decide) (fun c1 => ?_) (fun c1 => ?_)
      · have hf := bs_t hf c1
        refine lv_iload hx hb dX6_waxesFound_50 (lv_at hl 4 rfl) ?_
        obtain rfl := Option.some.inj hf
        exact hret H locs _ _ hP hS rfl dX6_waxesFound_52
      · have hf := bs_f hf c1
        refine lv_aload_n hx hb dX6_waxesFound_13 rfl (lv_at hl 0 rfl) ?_
        refine va_get (D := (dC, dI)) (ci := 6) (v := .ref sackh) (C := RX6) (T := TX6) (N := 11) hx hb hts hin6 hown hK hP 0 rfl rfl 7 (by decide) k50 (fun _ h9 => h9) rfl dX6_waxesFound_14 ?_
        refine lv_aload_n hx hb dX6_waxesFound_17 rfl (lv_at hl 1 rfl) ?_
        refine lv_iload_n hx hb dX6_waxesFound_18 rfl (lv_at hl 2 rfl) ?_
        refine lv_iload_n hx hb dX6_waxesFound_19 rfl (lv_at hl 3 rfl) ?_
        refine lv_iload hx hb dX6_waxesFound_20 (lv_at hl 5 rfl) ?_
        refine lv_aload_n hx hb dX6_waxesFound_22 rfl (lv_at hl 0 rfl) ?_
        refine va_get (D := (dC, dI)) (ci := 6) (v := .ref nowh) (C := RX6) (T := TX6) (N := 11) hx hb hts hin6 hown hK hP 0 rfl rfl 2 (by decide) k26 (fun _ h9 => h9) rfl dX6_waxesFound_23 ?_
        refine va_get (D := (dC, dI)) (ci := 4) (v := .int now_stick) (C := RX4) (T := TX4) (N := 13) hx hb hts hin4 hown hK hP 1 rfl rfl 2 (by decide) k290 (fun _ h9 => h9) rfl dX6_waxesFound_26 ?_
        obtain ⟨z2, hz2, hf⟩ := bs_b hf
        refine bs_cViR ⟨hx, hb, hml, hown, hts⟩ (k_X2_areRead l dC dI cI cZ cS cG sackh sackq_weights sackq_rivals aq sack_weights sack_rivals sack_promises sack_sets sack_wax sack_stick sack_settled a p2 p3 x5_6 now_stick z2 hz2) (cwV 5 hts gX6_waxesFound_X2_areRead rfl rfl rfl (by decide +kernel) ⟨Nat.le_of_ble_eq_true rfl, Nat.le_of_ble_eq_true rfl⟩) hE hP hD hA hS [9, 10, 11, 12] rfl rfl 2 0 rfl rfl rfl rfl hl.1 (Nat.le_of_ble_eq_true rfl) dX6_waxesFound_29 (fun H locs hP hS => ?_)
        refine lv_if_eq (tgt := 44) hx hb dX6_waxesFound_32 (by decide) (fun c3 => ?_) (fun c3 => ?_)
        · have hf := bs_t hf c3
          refine lv_iinc (v := x5_6 + 1) (lv' := [(5, .int (x5_6 + 1)), (0, .ref psh), (1, .ref aq), (2, .int p2), (3, .int p3), (4, .int x4_6)]) hx hb dX6_waxesFound_44 hl (k := 5) rfl rfl (by decide) rfl (fun ls hl => ?_)
          refine lv_goto (tgt := 6) hx hb dX6_waxesFound_47 (by decide) ?_
          exact ih_6 x4_6 (x5_6 + 1) H locs ls hP hD hS (lv_sub hl [1, 2, 3, 4, 5, 0] rfl) hf
        · have hf := bs_f hf c3
          refine lv_iload hx hb dX6_waxesFound_35 (lv_at hl 4 rfl) ?_
          refine lv_iconst (v := 1) hx hb dX6_waxesFound_37 (by decide) ?_
          refine lv_iload hx hb dX6_waxesFound_38 (lv_at hl 5 rfl) ?_
          refine lv_ishl hx hb dX6_waxesFound_40 ?_
          refine lv_ior hx hb dX6_waxesFound_41 ?_
          refine lv_istore (lv' := [(4, .int (x4_6 ||| (1 <<< (x5_6 &&& 31)))), (0, .ref psh), (1, .ref aq), (2, .int p2), (3, .int p3), (5, .int x5_6)]) hx hb dX6_waxesFound_42 hl (by decide) rfl (fun ls hl => ?_)
          refine lv_iinc (v := x5_6 + 1) (lv' := [(5, .int (x5_6 + 1)), (4, .int (x4_6 ||| (1 <<< (x5_6 &&& 31)))), (0, .ref psh), (1, .ref aq), (2, .int p2), (3, .int p3)]) hx hb dX6_waxesFound_44 hl (k := 5) rfl rfl (by decide) rfl (fun ls hl => ?_)
          refine lv_goto (tgt := 6) hx hb dX6_waxesFound_47 (by decide) ?_
          exact ih_6 (x4_6 ||| (1 <<< (x5_6 &&& 31))) (x5_6 + 1) H locs ls hP hD hS (lv_sub hl [2, 3, 4, 5, 1, 0] rfl) hf
  exact L_6 bs_F (0 : Int32) (0 : Int32) H locs ls hP hD hS (lv_sub hl [2, 3, 4, 5, 1, 0] rfl) hf
set_option maxHeartbeats 4000000 in
set_option maxRecDepth 100000 in
theorem k_X6_sticksFound (l : Launch) (dC : Nat → ClassId) (dI : Nat → Nat → Nat) (cI cZ cS cG : ClassId) (psh : Nat) (rowsh : Nat) (tapeh : Nat) (nowh : Nat) (drafth : Nat) (trialh : Nat) (psq_images : Nat) (actsh : Nat) (sackh : Nat) (asksh : Nat) (nowq_keeping : Nat) (nowq_giverOf : Nat) (nowq_deedOf : Nat) (nowq_dayOf : Nat) (nowq_likelyOf : Nat) (nowq_kindOf : Nat) (nowq_settledOf : Nat) (sackq_weights : Nat) (sackq_rivals : Nat) (aq : Nat) (ps_latestFault : Int32) (ps_latestFinding : Int32) (now_told : Int32) (now_wax : Int32) (now_stick : Int32) (now_givers : Int32) (now_promises : Int32) (now_pan : Int32) (now_keeping : Nat → Int32) (now_giverOf : Nat → Int32) (now_deedOf : Nat → Int32) (now_dayOf : Nat → Int32) (now_likelyOf : Nat → Int32) (now_kindOf : Nat → Int32) (now_settledOf : Nat → Int32) (sack_weights : Nat → Int32) (sack_rivals : Nat → Int32) (sack_promises : Int32) (sack_sets : Int32) (sack_wax : Int32) (sack_stick : Int32) (sack_settled : Int32) (a : Nat → Int32) (p2 : Int32) (p3 : Int32) (out : Int32) (hf : f_X6_sticksFound now_wax sack_weights sack_promises a p2 p3 = some out) : bs_C l dC dI cI cZ cS cG yX6_sticksFound wsX6_sticksFound ({ frames := 2, cells := 0, slots := 0, locals := 50 } : Room) [.ref psh, .ref aq, .int p2, .int p3] ([(psh, .inr (6, [.ref rowsh, .ref tapeh, .ref nowh, .ref drafth, .ref trialh, .ref psq_images, .ref actsh, .ref sackh, .ref asksh, .int ps_latestFault, .int ps_latestFinding])), (nowh, .inr (4, [.int now_told, .int now_wax, .int now_stick, .int now_givers, .int now_promises, .int now_pan, .ref nowq_keeping, .ref nowq_giverOf, .ref nowq_deedOf, .ref nowq_dayOf, .ref nowq_likelyOf, .ref nowq_kindOf, .ref nowq_settledOf])), (nowq_keeping, .inl (cI, 4, .inl now_keeping)), (nowq_giverOf, .inl (cI, 8, .inl now_giverOf)), (nowq_deedOf, .inl (cI, 8, .inl now_deedOf)), (nowq_dayOf, .inl (cI, 8, .inl now_dayOf)), (nowq_likelyOf, .inl (cI, 8, .inl now_likelyOf)), (nowq_kindOf, .inl (cI, 8, .inl now_kindOf)), (nowq_settledOf, .inl (cI, 8, .inl now_settledOf)), (sackh, .inr (2, [.ref sackq_weights, .ref sackq_rivals, .int sack_promises, .int sack_sets, .int sack_wax, .int sack_stick, .int sack_settled])), (sackq_weights, .inl (cI, 8, .inl sack_weights)), (sackq_rivals, .inl (cI, 8, .inl sack_rivals)), (aq, .inl (cI, 40, .inl a))]) out ([(psh, .inr (6, [.ref rowsh, .ref tapeh, .ref nowh, .ref drafth, .ref trialh, .ref psq_images, .ref actsh, .ref sackh, .ref asksh, .int ps_latestFault, .int ps_latestFinding])), (nowh, .inr (4, [.int now_told, .int now_wax, .int now_stick, .int now_givers, .int now_promises, .int now_pan, .ref nowq_keeping, .ref nowq_giverOf, .ref nowq_deedOf, .ref nowq_dayOf, .ref nowq_likelyOf, .ref nowq_kindOf, .ref nowq_settledOf])), (nowq_keeping, .inl (cI, 4, .inl now_keeping)), (nowq_giverOf, .inl (cI, 8, .inl now_giverOf)), (nowq_deedOf, .inl (cI, 8, .inl now_deedOf)), (nowq_dayOf, .inl (cI, 8, .inl now_dayOf)), (nowq_likelyOf, .inl (cI, 8, .inl now_likelyOf)), (nowq_kindOf, .inl (cI, 8, .inl now_kindOf)), (nowq_settledOf, .inl (cI, 8, .inl now_settledOf)), (sackh, .inr (2, [.ref sackq_weights, .ref sackq_rivals, .int sack_promises, .int sack_sets, .int sack_wax, .int sack_stick, .int sack_settled])), (sackq_weights, .inl (cI, 8, .inl sack_weights)), (sackq_rivals, .inl (cI, 8, .inl sack_rivals)), (aq, .inl (cI, 40, .inl a))]) := by
  refine bs_ofI (cc := cX6_sticksFound) (maxL := 6) (by decide) rfl (Nat.le_of_ble_eq_true rfl) ?_
  intro p e s m below meth c A Q hx hb hown hml hts hE H locs hP hD hA hS ls hl hret
  have hK := hE.1
  have hl : lv_has ls 6 [(0, .ref psh), (1, .ref aq), (2, .int p2), (3, .int p3)] := hl
  have hin4 : ∀ w ∈ u_ws RX4 TX4 13, w ∈ wsX6_sticksFound := by decide +kernel
  have hin6 : ∀ w ∈ u_ws RX6 TX6 11, w ∈ wsX6_sticksFound := by decide +kernel
  have k26 := hts (.fieldLink RX6 26 "PromiseScales" "now" "LPromiseScales$Scales;") (by decide +kernel)
  have k50 := hts (.fieldLink RX6 50 "PromiseScales" "sack" "LPromiseScales$Bags;") (by decide +kernel)
  have k175 := hts (.fieldLink RX6 175 "PromiseScales$Scales" "wax" "I") (by decide +kernel)
  unfold f_X6_sticksFound at hf
  refine lv_iconst (v := 0) hx hb dX6_sticksFound_0 (by decide) ?_
  refine lv_istore (lv' := [(4, .int 0), (0, .ref psh), (1, .ref aq), (2, .int p2), (3, .int p3)]) hx hb dX6_sticksFound_1 hl (by decide) rfl (fun ls hl => ?_)
  refine lv_iconst (v := 1) hx hb dX6_sticksFound_3 (by decide) ?_
  refine lv_istore (lv' := [(5, .int 1), (4, .int 0), (0, .ref psh), (1, .ref aq), (2, .int p2), (3, .int p3)]) hx hb dX6_sticksFound_4 hl (by decide) rfl (fun ls hl => ?_)
  have L_6 : ∀ (fuel : Nat) (x4_6 : Int32) (x5_6 : Int32) (H : Heap) (locs : List Loc) (ls : Array Slot), va_P (dC, dI) vwCl ([(psh, .inr (6, [.ref rowsh, .ref tapeh, .ref nowh, .ref drafth, .ref trialh, .ref psq_images, .ref actsh, .ref sackh, .ref asksh, .int ps_latestFault, .int ps_latestFinding])), (nowh, .inr (4, [.int now_told, .int now_wax, .int now_stick, .int now_givers, .int now_promises, .int now_pan, .ref nowq_keeping, .ref nowq_giverOf, .ref nowq_deedOf, .ref nowq_dayOf, .ref nowq_likelyOf, .ref nowq_kindOf, .ref nowq_settledOf])), (nowq_keeping, .inl (cI, 4, .inl now_keeping)), (nowq_giverOf, .inl (cI, 8, .inl now_giverOf)), (nowq_deedOf, .inl (cI, 8, .inl now_deedOf)), (nowq_dayOf, .inl (cI, 8, .inl now_dayOf)), (nowq_likelyOf, .inl (cI, 8, .inl now_likelyOf)), (nowq_kindOf, .inl (cI, 8, .inl now_kindOf)), (nowq_settledOf, .inl (cI, 8, .inl now_settledOf)), (sackh, .inr (2, [.ref sackq_weights, .ref sackq_rivals, .int sack_promises, .int sack_sets, .int sack_wax, .int sack_stick, .int sack_settled])), (sackq_weights, .inl (cI, 8, .inl sack_weights)), (sackq_rivals, .inl (cI, 8, .inl sack_rivals)), (aq, .inl (cI, 40, .inl a))]) H → va_D A ([(psh, .inr (6, [.ref rowsh, .ref tapeh, .ref nowh, .ref drafth, .ref trialh, .ref psq_images, .ref actsh, .ref sackh, .ref asksh, .int ps_latestFault, .int ps_latestFinding])), (nowh, .inr (4, [.int now_told, .int now_wax, .int now_stick, .int now_givers, .int now_promises, .int now_pan, .ref nowq_keeping, .ref nowq_giverOf, .ref nowq_deedOf, .ref nowq_dayOf, .ref nowq_likelyOf, .ref nowq_kindOf, .ref nowq_settledOf])), (nowq_keeping, .inl (cI, 4, .inl now_keeping)), (nowq_giverOf, .inl (cI, 8, .inl now_giverOf)), (nowq_deedOf, .inl (cI, 8, .inl now_deedOf)), (nowq_dayOf, .inl (cI, 8, .inl now_dayOf)), (nowq_likelyOf, .inl (cI, 8, .inl now_likelyOf)), (nowq_kindOf, .inl (cI, 8, .inl now_kindOf)), (nowq_settledOf, .inl (cI, 8, .inl now_settledOf)), (sackh, .inr (2, [.ref sackq_weights, .ref sackq_rivals, .int sack_promises, .int sack_sets, .int sack_wax, .int sack_stick, .int sack_settled])), (sackq_weights, .inl (cI, 8, .inl sack_weights)), (sackq_rivals, .inl (cI, 8, .inl sack_rivals)), (aq, .inl (cI, 40, .inl a))]) → va_S A s.heap H locs → lv_has ls 6 [(0, .ref psh), (1, .ref aq), (2, .int p2), (3, .int p3), (4, .int x4_6), (5, .int x5_6)] → f_X6_sticksFound_L6 now_wax sack_weights sack_promises a p2 p3 fuel x4_6 x5_6 = some out → W p l e ({ frames := 2, cells := 0, slots := 0, locals := 50 } : Room) s m ([.ref psh, .ref aq, .int p2, .int p3] : List Value).toArray below meth c H locs 0 0 Q (F0 m 6 ls []) := by
    intro fuel
    induction fuel with
    | zero =>
      intro x4_6 x5_6 H locs ls hP hD hS hl hf
      cases (show (none : Option (Int32)) = some out from hf)
    | succ n_6 ih_6 =>
      intro x4_6 x5_6 H locs ls hP hD hS hl hf
      have hf := (f_X6_sticksFound_L6_s now_wax sack_weights sack_promises a p2 p3 n_6 x4_6 x5_6).symm.trans hf
      refine lv_iload hx hb dX6_sticksFound_6 (lv_at hl 5 rfl) ?_
      refine lv_iconst (v := 5) hx hb dX6_sticksFound_8 (by decide) ?_
      refine lv_icmp_gt (tgt := 51) hx hb dX6_sticksFound_9 (by decide) (fun c1 => ?_) (fun c1 => ?_)
      · have hf := bs_t hf c1
        refine lv_iload hx hb dX6_sticksFound_51 (lv_at hl 4 rfl) ?_
        obtain rfl := Option.some.inj hf
        exact hret H locs _ _ hP hS rfl dX6_sticksFound_53
      · have hf := bs_f hf c1
        refine lv_aload_n hx hb dX6_sticksFound_12 rfl (lv_at hl 0 rfl) ?_
        refine va_get (D := (dC, dI)) (ci := 6) (v := .ref sackh) (C := RX6) (T := TX6) (N := 11) hx hb hts hin6 hown hK hP 0 rfl rfl 7 (by decide) k50 (fun _ h9 => h9) rfl dX6_sticksFound_13 ?_
        refine lv_aload_n hx hb dX6_sticksFound_16 rfl (lv_at hl 1 rfl) ?_
        refine lv_iload_n hx hb dX6_sticksFound_17 rfl (lv_at hl 2 rfl) ?_
        refine lv_iload_n hx hb dX6_sticksFound_18 rfl (lv_at hl 3 rfl) ?_
        refine lv_aload_n hx hb dX6_sticksFound_19 rfl (lv_at hl 0 rfl) ?_
        refine va_get (D := (dC, dI)) (ci := 6) (v := .ref nowh) (C := RX6) (T := TX6) (N := 11) hx hb hts hin6 hown hK hP 0 rfl rfl 2 (by decide) k26 (fun _ h9 => h9) rfl dX6_sticksFound_20 ?_
        refine va_get (D := (dC, dI)) (ci := 4) (v := .int now_wax) (C := RX4) (T := TX4) (N := 13) hx hb hts hin4 hown hK hP 1 rfl rfl 1 (by decide) k175 (fun _ h9 => h9) rfl dX6_sticksFound_23 ?_
        refine lv_iload hx hb dX6_sticksFound_26 (lv_at hl 5 rfl) ?_
        obtain ⟨z2, hz2, hf⟩ := bs_b hf
        refine bs_cViR ⟨hx, hb, hml, hown, hts⟩ (k_X2_areRead l dC dI cI cZ cS cG sackh sackq_weights sackq_rivals aq sack_weights sack_rivals sack_promises sack_sets sack_wax sack_stick sack_settled a p2 p3 now_wax x5_6 z2 hz2) (cwV 5 hts gX6_sticksFound_X2_areRead rfl rfl rfl (by decide +kernel) ⟨Nat.le_of_ble_eq_true rfl, Nat.le_of_ble_eq_true rfl⟩) hE hP hD hA hS [9, 10, 11, 12] rfl rfl 2 0 rfl rfl rfl rfl hl.1 (Nat.le_of_ble_eq_true rfl) dX6_sticksFound_28 (fun H locs hP hS => ?_)
        refine lv_if_eq (tgt := 45) hx hb dX6_sticksFound_31 (by decide) (fun c3 => ?_) (fun c3 => ?_)
        · have hf := bs_t hf c3
          refine lv_iinc (v := x5_6 + 1) (lv' := [(5, .int (x5_6 + 1)), (0, .ref psh), (1, .ref aq), (2, .int p2), (3, .int p3), (4, .int x4_6)]) hx hb dX6_sticksFound_45 hl (k := 5) rfl rfl (by decide) rfl (fun ls hl => ?_)
          refine lv_goto (tgt := 6) hx hb dX6_sticksFound_48 (by decide) ?_
          exact ih_6 x4_6 (x5_6 + 1) H locs ls hP hD hS (lv_sub hl [1, 2, 3, 4, 5, 0] rfl) hf
        · have hf := bs_f hf c3
          refine lv_iload hx hb dX6_sticksFound_34 (lv_at hl 4 rfl) ?_
          refine lv_iconst (v := 1) hx hb dX6_sticksFound_36 (by decide) ?_
          refine lv_iload hx hb dX6_sticksFound_37 (lv_at hl 5 rfl) ?_
          refine lv_iconst (v := 1) hx hb dX6_sticksFound_39 (by decide) ?_
          refine lv_isub hx hb dX6_sticksFound_40 ?_
          refine lv_ishl hx hb dX6_sticksFound_41 ?_
          refine lv_ior hx hb dX6_sticksFound_42 ?_
          refine lv_istore (lv' := [(4, .int (x4_6 ||| (1 <<< ((x5_6 - 1) &&& 31)))), (0, .ref psh), (1, .ref aq), (2, .int p2), (3, .int p3), (5, .int x5_6)]) hx hb dX6_sticksFound_43 hl (by decide) rfl (fun ls hl => ?_)
          refine lv_iinc (v := x5_6 + 1) (lv' := [(5, .int (x5_6 + 1)), (4, .int (x4_6 ||| (1 <<< ((x5_6 - 1) &&& 31)))), (0, .ref psh), (1, .ref aq), (2, .int p2), (3, .int p3)]) hx hb dX6_sticksFound_45 hl (k := 5) rfl rfl (by decide) rfl (fun ls hl => ?_)
          refine lv_goto (tgt := 6) hx hb dX6_sticksFound_48 (by decide) ?_
          exact ih_6 (x4_6 ||| (1 <<< ((x5_6 - 1) &&& 31))) (x5_6 + 1) H locs ls hP hD hS (lv_sub hl [2, 3, 4, 5, 1, 0] rfl) hf
  exact L_6 bs_F (0 : Int32) (1 : Int32) H locs ls hP hD hS (lv_sub hl [2, 3, 4, 5, 1, 0] rfl) hf
set_option maxHeartbeats 4000000 in
set_option maxRecDepth 100000 in
theorem k_X6_found (l : Launch) (dC : Nat → ClassId) (dI : Nat → Nat → Nat) (cI cZ cS cG : ClassId) (psh : Nat) (rowsh : Nat) (tapeh : Nat) (nowh : Nat) (drafth : Nat) (trialh : Nat) (psq_images : Nat) (actsh : Nat) (sackh : Nat) (asksh : Nat) (nowq_keeping : Nat) (nowq_giverOf : Nat) (nowq_deedOf : Nat) (nowq_dayOf : Nat) (nowq_likelyOf : Nat) (nowq_kindOf : Nat) (nowq_settledOf : Nat) (sackq_weights : Nat) (sackq_rivals : Nat) (rowsq_items : Nat) (rowsg : Nat → Nat) (rowsq_laneOf : Nat) (rowsq_lengthOf : Nat) (ps_latestFault : Int32) (ps_latestFinding : Int32) (now_told : Int32) (now_wax : Int32) (now_stick : Int32) (now_givers : Int32) (now_promises : Int32) (now_pan : Int32) (now_keeping : Nat → Int32) (now_giverOf : Nat → Int32) (now_deedOf : Nat → Int32) (now_dayOf : Nat → Int32) (now_likelyOf : Nat → Int32) (now_kindOf : Nat → Int32) (now_settledOf : Nat → Int32) (sack_weights : Nat → Int32) (sack_rivals : Nat → Int32) (sack_promises : Int32) (sack_sets : Int32) (sack_wax : Int32) (sack_stick : Int32) (sack_settled : Int32) (rows_items : Nat → Nat → Int32) (rows_laneOf : Nat → Int32) (rows_lengthOf : Nat → Int32) (p1 : Int32) (p2 : Int32) (p3 : Int32) (p4 : Int32) (out : Int32 × Int32 × (Nat → Int32) × (Nat → Int32) × Int32 × Int32 × Int32 × Int32 × Int32) (hf : f_X6_found ps_latestFinding now_told now_wax now_stick now_promises now_keeping now_giverOf now_deedOf now_dayOf now_likelyOf now_kindOf now_settledOf sack_weights sack_rivals sack_promises sack_sets sack_wax sack_stick sack_settled rows_items rows_lengthOf p1 p2 p3 p4 = some out) : bs_C l dC dI cI cZ cS cG yX6_found wsX6_found ({ frames := 4, cells := 0, slots := 0, locals := 92 } : Room) [.ref psh, .int p1, .int p2, .int p3, .int p4] ([(psh, .inr (6, [.ref rowsh, .ref tapeh, .ref nowh, .ref drafth, .ref trialh, .ref psq_images, .ref actsh, .ref sackh, .ref asksh, .int ps_latestFault, .int ps_latestFinding])), (nowh, .inr (4, [.int now_told, .int now_wax, .int now_stick, .int now_givers, .int now_promises, .int now_pan, .ref nowq_keeping, .ref nowq_giverOf, .ref nowq_deedOf, .ref nowq_dayOf, .ref nowq_likelyOf, .ref nowq_kindOf, .ref nowq_settledOf])), (nowq_keeping, .inl (cI, 4, .inl now_keeping)), (nowq_giverOf, .inl (cI, 8, .inl now_giverOf)), (nowq_deedOf, .inl (cI, 8, .inl now_deedOf)), (nowq_dayOf, .inl (cI, 8, .inl now_dayOf)), (nowq_likelyOf, .inl (cI, 8, .inl now_likelyOf)), (nowq_kindOf, .inl (cI, 8, .inl now_kindOf)), (nowq_settledOf, .inl (cI, 8, .inl now_settledOf)), (sackh, .inr (2, [.ref sackq_weights, .ref sackq_rivals, .int sack_promises, .int sack_sets, .int sack_wax, .int sack_stick, .int sack_settled])), (sackq_weights, .inl (cI, 8, .inl sack_weights)), (sackq_rivals, .inl (cI, 8, .inl sack_rivals)), (rowsh, .inr (3, [.ref rowsq_items, .ref rowsq_laneOf, .ref rowsq_lengthOf])), (rowsq_items, .inl (cG, 8, .inr (.inr (.inr (.inr (fun j : Nat => if j < 8 then some (rowsg j) else none)))))), (rowsq_laneOf, .inl (cI, 8, .inl rows_laneOf)), (rowsq_lengthOf, .inl (cI, 8, .inl rows_lengthOf))] ++ bs_rw cI rowsg rows_items) out.1 ([(psh, .inr (6, [.ref rowsh, .ref tapeh, .ref nowh, .ref drafth, .ref trialh, .ref psq_images, .ref actsh, .ref sackh, .ref asksh, .int ps_latestFault, .int out.2.1])), (nowh, .inr (4, [.int now_told, .int now_wax, .int now_stick, .int now_givers, .int now_promises, .int now_pan, .ref nowq_keeping, .ref nowq_giverOf, .ref nowq_deedOf, .ref nowq_dayOf, .ref nowq_likelyOf, .ref nowq_kindOf, .ref nowq_settledOf])), (nowq_keeping, .inl (cI, 4, .inl now_keeping)), (nowq_giverOf, .inl (cI, 8, .inl now_giverOf)), (nowq_deedOf, .inl (cI, 8, .inl now_deedOf)), (nowq_dayOf, .inl (cI, 8, .inl now_dayOf)), (nowq_likelyOf, .inl (cI, 8, .inl now_likelyOf)), (nowq_kindOf, .inl (cI, 8, .inl now_kindOf)), (nowq_settledOf, .inl (cI, 8, .inl now_settledOf)), (sackh, .inr (2, [.ref sackq_weights, .ref sackq_rivals, .int out.2.2.2.2.1, .int out.2.2.2.2.2.1, .int out.2.2.2.2.2.2.1, .int out.2.2.2.2.2.2.2.1, .int out.2.2.2.2.2.2.2.2])), (sackq_weights, .inl (cI, 8, .inl out.2.2.1)), (sackq_rivals, .inl (cI, 8, .inl out.2.2.2.1)), (rowsh, .inr (3, [.ref rowsq_items, .ref rowsq_laneOf, .ref rowsq_lengthOf])), (rowsq_items, .inl (cG, 8, .inr (.inr (.inr (.inr (fun j : Nat => if j < 8 then some (rowsg j) else none)))))), (rowsq_laneOf, .inl (cI, 8, .inl rows_laneOf)), (rowsq_lengthOf, .inl (cI, 8, .inl rows_lengthOf))] ++ bs_rw cI rowsg rows_items) := by
  refine bs_ofI (cc := cX6_found) (maxL := 6) (by decide) rfl (Nat.le_of_ble_eq_true rfl) ?_
  intro p e s m below meth c A Q hx hb hown hml hts hE H locs hP hD hA hS ls hl hret
  have hK := hE.1
  have hl : lv_has ls 6 [(0, .ref psh), (1, .int p1), (2, .int p2), (3, .int p3), (4, .int p4)] := hl
  have hin3 : ∀ w ∈ u_ws RX3 TX3 3, w ∈ wsX6_found := by decide +kernel
  have hin4 : ∀ w ∈ u_ws RX4 TX4 13, w ∈ wsX6_found := by decide +kernel
  have hin6 : ∀ w ∈ u_ws RX6 TX6 11, w ∈ wsX6_found := by decide +kernel
  have k10 := hts (.fieldLink RX6 10 "PromiseScales" "rows" "LPromiseScales$Rows;") (by decide +kernel)
  have k26 := hts (.fieldLink RX6 26 "PromiseScales" "now" "LPromiseScales$Scales;") (by decide +kernel)
  have k50 := hts (.fieldLink RX6 50 "PromiseScales" "sack" "LPromiseScales$Bags;") (by decide +kernel)
  have k171 := hts (.fieldLink RX6 171 "PromiseScales$Scales" "told" "Z") (by decide +kernel)
  have k237 := hts (.fieldLink RX6 237 "PromiseScales$Rows" "items" "[[I") (by decide +kernel)
  unfold f_X6_found at hf
  refine lv_aload_n hx hb dX6_found_0 rfl (lv_at hl 0 rfl) ?_
  refine va_get (D := (dC, dI)) (ci := 6) (v := .ref nowh) (C := RX6) (T := TX6) (N := 11) hx hb hts hin6 hown hK hP 0 rfl rfl 2 (by decide) k26 (fun _ h9 => h9) rfl dX6_found_1 ?_
  refine va_get (D := (dC, dI)) (ci := 4) (v := .int now_told) (C := RX4) (T := TX4) (N := 13) hx hb hts hin4 hown hK hP 1 rfl rfl 0 (by decide) k171 (fun _ h9 => h9) rfl dX6_found_4 ?_
  refine lv_if_ne (tgt := 13) hx hb dX6_found_7 (by decide) (fun c1 => ?_) (fun c1 => ?_)
  · have hf := bs_f hf c1
    refine lv_iload_n hx hb dX6_found_13 rfl (lv_at hl 1 rfl) ?_
    obtain ⟨z2, hz2, hf⟩ := bs_b hf
    refine bs_cSi ⟨hx, hb, hml, hown, hts⟩ (k_X6_isRow l dC dI cI cZ cS cG p1 z2 hz2) (va_cwS 1 hts gX6_found_X6_isRow rfl rfl rfl (by decide +kernel) ⟨Nat.le_of_ble_eq_true rfl, Nat.le_of_ble_eq_true rfl⟩) hE hP hD hA hS rfl rfl hl.1 (Nat.le_of_ble_eq_true rfl) dX6_found_14 (fun H locs hP hS => ?_)
    refine lv_if_eq (tgt := 38) hx hb dX6_found_17 (by decide) (fun c3 => ?_) (fun c3 => ?_)
    · have hf := bs_t hf c3
      refine lv_ldc hx hb hown (hts (.constant RX6 69 (-1000001)) (by decide +kernel)) dX6_found_38 ?_
      obtain rfl := Option.some.inj hf
      exact hret H locs _ _ hP hS rfl dX6_found_40
    · have hf := bs_f hf c3
      refine lv_iload_n hx hb dX6_found_20 rfl (lv_at hl 3 rfl) ?_
      refine lv_iconst (v := 1) hx hb dX6_found_21 (by decide) ?_
      refine lv_bipush (v := 8) hx hb dX6_found_22 (by decide) ?_
      obtain ⟨z4, hz4, hf⟩ := bs_b hf
      refine bs_cSi ⟨hx, hb, hml, hown, hts⟩ (k_X6_isWithin l dC dI cI cZ cS cG p3 (1 : Int32) (8 : Int32) z4 hz4) (va_cwS 3 hts gX6_found_X6_isWithin rfl rfl rfl (by decide +kernel) ⟨Nat.le_of_ble_eq_true rfl, Nat.le_of_ble_eq_true rfl⟩) hE hP hD hA hS rfl rfl hl.1 (Nat.le_of_ble_eq_true rfl) dX6_found_24 (fun H locs hP hS => ?_)
      refine lv_if_eq (tgt := 38) hx hb dX6_found_27 (by decide) (fun c5 => ?_) (fun c5 => ?_)
      · have hf := bs_t hf c5
        refine lv_ldc hx hb hown (hts (.constant RX6 69 (-1000001)) (by decide +kernel)) dX6_found_38 ?_
        obtain rfl := Option.some.inj hf
        exact hret H locs _ _ hP hS rfl dX6_found_40
      · have hf := bs_f hf c5
        refine lv_iload hx hb dX6_found_30 (lv_at hl 4 rfl) ?_
        obtain ⟨z6, hz6, hf⟩ := bs_b hf
        refine bs_cSi ⟨hx, hb, hml, hown, hts⟩ (k_X6_isEither l dC dI cI cZ cS cG p4 z6 hz6) (va_cwS 1 hts gX6_found_X6_isEither rfl rfl rfl (by decide +kernel) ⟨Nat.le_of_ble_eq_true rfl, Nat.le_of_ble_eq_true rfl⟩) hE hP hD hA hS rfl rfl hl.1 (Nat.le_of_ble_eq_true rfl) dX6_found_32 (fun H locs hP hS => ?_)
        refine lv_if_ne (tgt := 41) hx hb dX6_found_35 (by decide) (fun c7 => ?_) (fun c7 => ?_)
        · have hf := bs_f hf c7
          refine lv_aload_n hx hb dX6_found_41 rfl (lv_at hl 0 rfl) ?_
          refine va_get (D := (dC, dI)) (ci := 6) (v := .ref rowsh) (C := RX6) (T := TX6) (N := 11) hx hb hts hin6 hown hK hP 0 rfl rfl 0 (by decide) k10 (fun _ h9 => h9) rfl dX6_found_42 ?_
          refine lv_iload_n hx hb dX6_found_45 rfl (lv_at hl 1 rfl) ?_
          refine lv_iload_n hx hb dX6_found_46 rfl (lv_at hl 2 rfl) ?_
          refine lv_iconst (v := 2) hx hb dX6_found_47 (by decide) ?_
          refine lv_iload_n hx hb dX6_found_48 rfl (lv_at hl 3 rfl) ?_
          refine lv_imul hx hb dX6_found_49 ?_
          obtain ⟨z8, hz8, hf⟩ := bs_b hf
          refine bs_cViR ⟨hx, hb, hml, hown, hts⟩ (k_X3_findingOfRun l dC dI cI cZ cS cG rowsh rowsq_items rowsg rowsq_laneOf rowsq_lengthOf rows_items rows_laneOf rows_lengthOf p1 p2 (2 * p3) z8 hz8) (cwV 3 hts gX6_found_X3_findingOfRun rfl rfl rfl (by decide +kernel) ⟨Nat.le_of_ble_eq_true rfl, Nat.le_of_ble_eq_true rfl⟩) hE hP hD hA hS [12, 13, 14, 15, 16, 17, 18, 19, 20, 21, 22, 23] rfl rfl 3 0 rfl rfl rfl rfl hl.1 (Nat.le_of_ble_eq_true rfl) dX6_found_50 (fun H locs hP hS => ?_)
          refine lv_istore (lv' := [(5, .int z8), (0, .ref psh), (1, .int p1), (2, .int p2), (3, .int p3), (4, .int p4)]) hx hb dX6_found_53 hl (by decide) rfl (fun ls hl => ?_)
          refine lv_iload hx hb dX6_found_55 (lv_at hl 0 rfl) ?_
          refine lv_if_eq (tgt := 67) hx hb dX6_found_57 (by decide) (fun c9 => ?_) (fun c9 => ?_)
          · have hf := bs_t hf c9
            refine lv_aload_n hx hb dX6_found_67 rfl (lv_at hl 1 rfl) ?_
            refine lv_aload_n hx hb dX6_found_68 rfl (lv_at hl 1 rfl) ?_
            refine va_get (D := (dC, dI)) (ci := 6) (v := .ref rowsh) (C := RX6) (T := TX6) (N := 11) hx hb hts hin6 hown hK hP 0 rfl rfl 0 (by decide) k10 (fun _ h9 => h9) rfl dX6_found_69 ?_
            refine va_get (D := (dC, dI)) (ci := 3) (v := .ref rowsq_items) (C := RX3) (T := TX3) (N := 3) hx hb hts hin3 hown hK hP 12 rfl rfl 0 (by decide) k237 (fun _ h9 => h9) rfl dX6_found_72 ?_
            refine lv_iload_n hx hb dX6_found_75 rfl (lv_at hl 2 rfl) ?_
            obtain ⟨g10, hf⟩ := bs_g hf
            refine bs_aldg hx hb hK hP 13 3 rfl rfl (bs_inV g10) dX6_found_76 ?_
            refine bs_topq (a := rowsg p1.toNatClampNeg) (bs_row (bs_inL g10)) ?_
            refine lv_iload_n hx hb dX6_found_77 rfl (lv_at hl 3 rfl) ?_
            refine lv_iload_n hx hb dX6_found_78 rfl (lv_at hl 4 rfl) ?_
            obtain ⟨z11, hz11, hf⟩ := bs_b hf
            refine bs_cViR ⟨hx, hb, hml, hown, hts⟩ (k_X6_areSets l dC dI cI cZ cS cG psh rowsh tapeh nowh drafth trialh psq_images actsh sackh asksh nowq_keeping nowq_giverOf nowq_deedOf nowq_dayOf nowq_likelyOf nowq_kindOf nowq_settledOf (rowsg p1.toNatClampNeg) ps_latestFault ps_latestFinding now_told now_wax now_stick now_givers now_promises now_pan now_keeping now_giverOf now_deedOf now_dayOf now_likelyOf now_kindOf now_settledOf (rows_items p1.toNatClampNeg) p2 p3 z11 hz11) (cwV 3 hts gX6_found_X6_areSets rfl rfl rfl (by decide +kernel) ⟨Nat.le_of_ble_eq_true rfl, Nat.le_of_ble_eq_true rfl⟩) hE hP hD hA hS [0, 1, 2, 3, 4, 5, 6, 7, 8, 16 + p1.toNatClampNeg] (by simp [va_nd]; try omega) (congrArg (fun z : Option (Nat × va_E) => ([some (psh, .inr (6, [.ref rowsh, .ref tapeh, .ref nowh, .ref drafth, .ref trialh, .ref psq_images, .ref actsh, .ref sackh, .ref asksh, .int ps_latestFault, .int ps_latestFinding])), some (nowh, .inr (4, [.int now_told, .int now_wax, .int now_stick, .int now_givers, .int now_promises, .int now_pan, .ref nowq_keeping, .ref nowq_giverOf, .ref nowq_deedOf, .ref nowq_dayOf, .ref nowq_likelyOf, .ref nowq_kindOf, .ref nowq_settledOf])), some (nowq_keeping, .inl (cI, 4, .inl now_keeping)), some (nowq_giverOf, .inl (cI, 8, .inl now_giverOf)), some (nowq_deedOf, .inl (cI, 8, .inl now_deedOf)), some (nowq_dayOf, .inl (cI, 8, .inl now_dayOf)), some (nowq_likelyOf, .inl (cI, 8, .inl now_likelyOf)), some (nowq_kindOf, .inl (cI, 8, .inl now_kindOf)), some (nowq_settledOf, .inl (cI, 8, .inl now_settledOf)), z] : List (Option (Nat × va_E)))) (bs_rw_at (pre := [(psh, .inr (6, [.ref rowsh, .ref tapeh, .ref nowh, .ref drafth, .ref trialh, .ref psq_images, .ref actsh, .ref sackh, .ref asksh, .int ps_latestFault, .int ps_latestFinding])), (nowh, .inr (4, [.int now_told, .int now_wax, .int now_stick, .int now_givers, .int now_promises, .int now_pan, .ref nowq_keeping, .ref nowq_giverOf, .ref nowq_deedOf, .ref nowq_dayOf, .ref nowq_likelyOf, .ref nowq_kindOf, .ref nowq_settledOf])), (nowq_keeping, .inl (cI, 4, .inl now_keeping)), (nowq_giverOf, .inl (cI, 8, .inl now_giverOf)), (nowq_deedOf, .inl (cI, 8, .inl now_deedOf)), (nowq_dayOf, .inl (cI, 8, .inl now_dayOf)), (nowq_likelyOf, .inl (cI, 8, .inl now_likelyOf)), (nowq_kindOf, .inl (cI, 8, .inl now_kindOf)), (nowq_settledOf, .inl (cI, 8, .inl now_settledOf)), (sackh, .inr (2, [.ref sackq_weights, .ref sackq_rivals, .int sack_promises, .int sack_sets, .int sack_wax, .int sack_stick, .int sack_settled])), (sackq_weights, .inl (cI, 8, .inl sack_weights)), (sackq_rivals, .inl (cI, 8, .inl sack_rivals)), (rowsh, .inr (3, [.ref rowsq_items, .ref rowsq_laneOf, .ref rowsq_lengthOf])), (rowsq_items, .inl (cG, 8, .inr (.inr (.inr (.inr (fun j : Nat => if j < 8 then some (rowsg j) else none)))))), (rowsq_laneOf, .inl (cI, 8, .inl rows_laneOf)), (rowsq_lengthOf, .inl (cI, 8, .inl rows_lengthOf))]) (n := 16) rfl (bs_inL g10))) 6 0 rfl rfl rfl rfl hl.1 (Nat.le_of_ble_eq_true rfl) dX6_found_79 (fun H locs hP hS => ?_)
            refine lv_if_ne (tgt := 88) hx hb dX6_found_82 (by decide) (fun c12 => ?_) (fun c12 => ?_)
            · have hf := bs_f hf c12
              refine lv_aload_n hx hb dX6_found_88 rfl (lv_at hl 1 rfl) ?_
              refine va_get (D := (dC, dI)) (ci := 6) (v := .ref sackh) (C := RX6) (T := TX6) (N := 11) hx hb hts hin6 hown hK hP 0 rfl rfl 7 (by decide) k50 (fun _ h9 => h9) rfl dX6_found_89 ?_
              refine lv_aload_n hx hb dX6_found_92 rfl (lv_at hl 1 rfl) ?_
              refine va_get (D := (dC, dI)) (ci := 6) (v := .ref nowh) (C := RX6) (T := TX6) (N := 11) hx hb hts hin6 hown hK hP 0 rfl rfl 2 (by decide) k26 (fun _ h9 => h9) rfl dX6_found_93 ?_
              obtain ⟨z13, hz13, hf⟩ := bs_b hf
              refine bs_cVv (ws1 := [(psh, .inr (6, [.ref rowsh, .ref tapeh, .ref nowh, .ref drafth, .ref trialh, .ref psq_images, .ref actsh, .ref sackh, .ref asksh, .int ps_latestFault, .int ps_latestFinding])), (nowh, .inr (4, [.int now_told, .int now_wax, .int now_stick, .int now_givers, .int now_promises, .int now_pan, .ref nowq_keeping, .ref nowq_giverOf, .ref nowq_deedOf, .ref nowq_dayOf, .ref nowq_likelyOf, .ref nowq_kindOf, .ref nowq_settledOf])), (nowq_keeping, .inl (cI, 4, .inl now_keeping)), (nowq_giverOf, .inl (cI, 8, .inl now_giverOf)), (nowq_deedOf, .inl (cI, 8, .inl now_deedOf)), (nowq_dayOf, .inl (cI, 8, .inl now_dayOf)), (nowq_likelyOf, .inl (cI, 8, .inl now_likelyOf)), (nowq_kindOf, .inl (cI, 8, .inl now_kindOf)), (nowq_settledOf, .inl (cI, 8, .inl now_settledOf)), (sackh, .inr (2, [.ref sackq_weights, .ref sackq_rivals, .int z13.2.2.1, .int z13.2.2.2.1, .int z13.2.2.2.2.1, .int z13.2.2.2.2.2.1, .int z13.2.2.2.2.2.2])), (sackq_weights, .inl (cI, 8, .inl z13.1)), (sackq_rivals, .inl (cI, 8, .inl z13.2.1)), (rowsh, .inr (3, [.ref rowsq_items, .ref rowsq_laneOf, .ref rowsq_lengthOf])), (rowsq_items, .inl (cG, 8, .inr (.inr (.inr (.inr (fun j : Nat => if j < 8 then some (rowsg j) else none)))))), (rowsq_laneOf, .inl (cI, 8, .inl rows_laneOf)), (rowsq_lengthOf, .inl (cI, 8, .inl rows_lengthOf))] ++ bs_rw cI rowsg rows_items) ⟨hx, hb, hml, hown, hts⟩ (k_X2_lookAt l dC dI cI cZ cS cG sackh sackq_weights sackq_rivals nowh nowq_keeping nowq_giverOf nowq_deedOf nowq_dayOf nowq_likelyOf nowq_kindOf nowq_settledOf sack_weights sack_rivals sack_promises sack_sets sack_wax sack_stick sack_settled now_told now_wax now_stick now_givers now_promises now_pan now_keeping now_giverOf now_deedOf now_dayOf now_likelyOf now_kindOf now_settledOf z13 hz13) (cwV 1 hts gX6_found_X2_lookAt rfl rfl rfl (by decide +kernel) ⟨Nat.le_of_ble_eq_true rfl, Nat.le_of_ble_eq_true rfl⟩) hE hP hD hA hS [9, 10, 11, 1, 2, 3, 4, 5, 6, 7, 8] rfl rfl 2 0 rfl rfl rfl rfl rfl rfl rfl hl.1 (Nat.le_of_ble_eq_true rfl) dX6_found_96 (fun H locs hP hD hS => ?_)
              refine lv_aload_n hx hb dX6_found_99 rfl (lv_at hl 1 rfl) ?_
              refine lv_iload hx hb dX6_found_100 (lv_at hl 5 rfl) ?_
              refine lv_if_ne (tgt := 123) hx hb dX6_found_102 (by decide) (fun c14 => ?_) (fun c14 => ?_)
              · have hf := bs_f hf c14
                refine lv_aload_n hx hb dX6_found_123 rfl (lv_at hl 1 rfl) ?_
                refine lv_aload_n hx hb dX6_found_124 rfl (lv_at hl 1 rfl) ?_
                refine va_get (D := (dC, dI)) (ci := 6) (v := .ref rowsh) (C := RX6) (T := TX6) (N := 11) hx hb hts hin6 hown hK hP 0 rfl rfl 0 (by decide) k10 (fun _ h9 => h9) rfl dX6_found_125 ?_
                refine va_get (D := (dC, dI)) (ci := 3) (v := .ref rowsq_items) (C := RX3) (T := TX3) (N := 3) hx hb hts hin3 hown hK hP 12 rfl rfl 0 (by decide) k237 (fun _ h9 => h9) rfl dX6_found_128 ?_
                refine lv_iload_n hx hb dX6_found_131 rfl (lv_at hl 2 rfl) ?_
                obtain ⟨g15, hf⟩ := bs_g hf
                refine bs_aldg hx hb hK hP 13 3 rfl rfl (bs_inV g15) dX6_found_132 ?_
                refine bs_topq (a := rowsg p1.toNatClampNeg) (bs_row (bs_inL g15)) ?_
                refine lv_iload_n hx hb dX6_found_133 rfl (lv_at hl 3 rfl) ?_
                refine lv_iload_n hx hb dX6_found_134 rfl (lv_at hl 4 rfl) ?_
                obtain ⟨z16, hz16, hf⟩ := bs_b hf
                refine bs_cViR ⟨hx, hb, hml, hown, hts⟩ (k_X6_sticksFound l dC dI cI cZ cS cG psh rowsh tapeh nowh drafth trialh psq_images actsh sackh asksh nowq_keeping nowq_giverOf nowq_deedOf nowq_dayOf nowq_likelyOf nowq_kindOf nowq_settledOf sackq_weights sackq_rivals (rowsg p1.toNatClampNeg) ps_latestFault ps_latestFinding now_told now_wax now_stick now_givers now_promises now_pan now_keeping now_giverOf now_deedOf now_dayOf now_likelyOf now_kindOf now_settledOf z13.1 z13.2.1 z13.2.2.1 z13.2.2.2.1 z13.2.2.2.2.1 z13.2.2.2.2.2.1 z13.2.2.2.2.2.2 (rows_items p1.toNatClampNeg) p2 p3 z16 hz16) (cwV 3 hts gX6_found_X6_sticksFound rfl rfl rfl (by decide +kernel) ⟨Nat.le_of_ble_eq_true rfl, Nat.le_of_ble_eq_true rfl⟩) hE hP hD hA hS [0, 1, 2, 3, 4, 5, 6, 7, 8, 9, 10, 11, 16 + p1.toNatClampNeg] (by simp [va_nd]; try omega) (congrArg (fun z : Option (Nat × va_E) => ([some (psh, .inr (6, [.ref rowsh, .ref tapeh, .ref nowh, .ref drafth, .ref trialh, .ref psq_images, .ref actsh, .ref sackh, .ref asksh, .int ps_latestFault, .int ps_latestFinding])), some (nowh, .inr (4, [.int now_told, .int now_wax, .int now_stick, .int now_givers, .int now_promises, .int now_pan, .ref nowq_keeping, .ref nowq_giverOf, .ref nowq_deedOf, .ref nowq_dayOf, .ref nowq_likelyOf, .ref nowq_kindOf, .ref nowq_settledOf])), some (nowq_keeping, .inl (cI, 4, .inl now_keeping)), some (nowq_giverOf, .inl (cI, 8, .inl now_giverOf)), some (nowq_deedOf, .inl (cI, 8, .inl now_deedOf)), some (nowq_dayOf, .inl (cI, 8, .inl now_dayOf)), some (nowq_likelyOf, .inl (cI, 8, .inl now_likelyOf)), some (nowq_kindOf, .inl (cI, 8, .inl now_kindOf)), some (nowq_settledOf, .inl (cI, 8, .inl now_settledOf)), some (sackh, .inr (2, [.ref sackq_weights, .ref sackq_rivals, .int z13.2.2.1, .int z13.2.2.2.1, .int z13.2.2.2.2.1, .int z13.2.2.2.2.2.1, .int z13.2.2.2.2.2.2])), some (sackq_weights, .inl (cI, 8, .inl z13.1)), some (sackq_rivals, .inl (cI, 8, .inl z13.2.1)), z] : List (Option (Nat × va_E)))) (bs_rw_at (pre := [(psh, .inr (6, [.ref rowsh, .ref tapeh, .ref nowh, .ref drafth, .ref trialh, .ref psq_images, .ref actsh, .ref sackh, .ref asksh, .int ps_latestFault, .int ps_latestFinding])), (nowh, .inr (4, [.int now_told, .int now_wax, .int now_stick, .int now_givers, .int now_promises, .int now_pan, .ref nowq_keeping, .ref nowq_giverOf, .ref nowq_deedOf, .ref nowq_dayOf, .ref nowq_likelyOf, .ref nowq_kindOf, .ref nowq_settledOf])), (nowq_keeping, .inl (cI, 4, .inl now_keeping)), (nowq_giverOf, .inl (cI, 8, .inl now_giverOf)), (nowq_deedOf, .inl (cI, 8, .inl now_deedOf)), (nowq_dayOf, .inl (cI, 8, .inl now_dayOf)), (nowq_likelyOf, .inl (cI, 8, .inl now_likelyOf)), (nowq_kindOf, .inl (cI, 8, .inl now_kindOf)), (nowq_settledOf, .inl (cI, 8, .inl now_settledOf)), (sackh, .inr (2, [.ref sackq_weights, .ref sackq_rivals, .int z13.2.2.1, .int z13.2.2.2.1, .int z13.2.2.2.2.1, .int z13.2.2.2.2.2.1, .int z13.2.2.2.2.2.2])), (sackq_weights, .inl (cI, 8, .inl z13.1)), (sackq_rivals, .inl (cI, 8, .inl z13.2.1)), (rowsh, .inr (3, [.ref rowsq_items, .ref rowsq_laneOf, .ref rowsq_lengthOf])), (rowsq_items, .inl (cG, 8, .inr (.inr (.inr (.inr (fun j : Nat => if j < 8 then some (rowsg j) else none)))))), (rowsq_laneOf, .inl (cI, 8, .inl rows_laneOf)), (rowsq_lengthOf, .inl (cI, 8, .inl rows_lengthOf))]) (n := 16) rfl (bs_inL g15))) 6 0 rfl rfl rfl rfl hl.1 (Nat.le_of_ble_eq_true rfl) dX6_found_135 (fun H locs hP hS => ?_)
                obtain ⟨z17, hz17, hf⟩ := bs_b hf
                refine bs_cVi (ws1 := [(psh, .inr (6, [.ref rowsh, .ref tapeh, .ref nowh, .ref drafth, .ref trialh, .ref psq_images, .ref actsh, .ref sackh, .ref asksh, .int ps_latestFault, .int z17.2])), (nowh, .inr (4, [.int now_told, .int now_wax, .int now_stick, .int now_givers, .int now_promises, .int now_pan, .ref nowq_keeping, .ref nowq_giverOf, .ref nowq_deedOf, .ref nowq_dayOf, .ref nowq_likelyOf, .ref nowq_kindOf, .ref nowq_settledOf])), (nowq_keeping, .inl (cI, 4, .inl now_keeping)), (nowq_giverOf, .inl (cI, 8, .inl now_giverOf)), (nowq_deedOf, .inl (cI, 8, .inl now_deedOf)), (nowq_dayOf, .inl (cI, 8, .inl now_dayOf)), (nowq_likelyOf, .inl (cI, 8, .inl now_likelyOf)), (nowq_kindOf, .inl (cI, 8, .inl now_kindOf)), (nowq_settledOf, .inl (cI, 8, .inl now_settledOf)), (sackh, .inr (2, [.ref sackq_weights, .ref sackq_rivals, .int z13.2.2.1, .int z13.2.2.2.1, .int z13.2.2.2.2.1, .int z13.2.2.2.2.2.1, .int z13.2.2.2.2.2.2])), (sackq_weights, .inl (cI, 8, .inl z13.1)), (sackq_rivals, .inl (cI, 8, .inl z13.2.1)), (rowsh, .inr (3, [.ref rowsq_items, .ref rowsq_laneOf, .ref rowsq_lengthOf])), (rowsq_items, .inl (cG, 8, .inr (.inr (.inr (.inr (fun j : Nat => if j < 8 then some (rowsg j) else none)))))), (rowsq_laneOf, .inl (cI, 8, .inl rows_laneOf)), (rowsq_lengthOf, .inl (cI, 8, .inl rows_lengthOf))] ++ bs_rw cI rowsg rows_items) ⟨hx, hb, hml, hown, hts⟩ (k_X6_answered l dC dI cI cZ cS cG psh rowsh tapeh nowh drafth trialh psq_images actsh sackh asksh ps_latestFault ps_latestFinding z16 z17 hz17) (cwV 1 hts gX6_found_X6_answered rfl rfl rfl (by decide +kernel) ⟨Nat.le_of_ble_eq_true rfl, Nat.le_of_ble_eq_true rfl⟩) hE hP hD hA hS [0] rfl rfl 6 0 rfl rfl rfl rfl rfl rfl rfl hl.1 (Nat.le_of_ble_eq_true rfl) dX6_found_138 (fun H locs hP hD hS => ?_)
                obtain rfl := Option.some.inj hf
                exact hret H locs _ _ hP hS rfl dX6_found_141
              · have hf := bs_t hf c14
                refine lv_aload_n hx hb dX6_found_105 rfl (lv_at hl 1 rfl) ?_
                refine lv_aload_n hx hb dX6_found_106 rfl (lv_at hl 1 rfl) ?_
                refine va_get (D := (dC, dI)) (ci := 6) (v := .ref rowsh) (C := RX6) (T := TX6) (N := 11) hx hb hts hin6 hown hK hP 0 rfl rfl 0 (by decide) k10 (fun _ h9 => h9) rfl dX6_found_107 ?_
                refine va_get (D := (dC, dI)) (ci := 3) (v := .ref rowsq_items) (C := RX3) (T := TX3) (N := 3) hx hb hts hin3 hown hK hP 12 rfl rfl 0 (by decide) k237 (fun _ h9 => h9) rfl dX6_found_110 ?_
                refine lv_iload_n hx hb dX6_found_113 rfl (lv_at hl 2 rfl) ?_
                obtain ⟨g18, hf⟩ := bs_g hf
                refine bs_aldg hx hb hK hP 13 3 rfl rfl (bs_inV g18) dX6_found_114 ?_
                refine bs_topq (a := rowsg p1.toNatClampNeg) (bs_row (bs_inL g18)) ?_
                refine lv_iload_n hx hb dX6_found_115 rfl (lv_at hl 3 rfl) ?_
                refine lv_iload_n hx hb dX6_found_116 rfl (lv_at hl 4 rfl) ?_
                obtain ⟨z19, hz19, hf⟩ := bs_b hf
                refine bs_cViR ⟨hx, hb, hml, hown, hts⟩ (k_X6_waxesFound l dC dI cI cZ cS cG psh rowsh tapeh nowh drafth trialh psq_images actsh sackh asksh nowq_keeping nowq_giverOf nowq_deedOf nowq_dayOf nowq_likelyOf nowq_kindOf nowq_settledOf sackq_weights sackq_rivals (rowsg p1.toNatClampNeg) ps_latestFault ps_latestFinding now_told now_wax now_stick now_givers now_promises now_pan now_keeping now_giverOf now_deedOf now_dayOf now_likelyOf now_kindOf now_settledOf z13.1 z13.2.1 z13.2.2.1 z13.2.2.2.1 z13.2.2.2.2.1 z13.2.2.2.2.2.1 z13.2.2.2.2.2.2 (rows_items p1.toNatClampNeg) p2 p3 z19 hz19) (cwV 3 hts gX6_found_X6_waxesFound rfl rfl rfl (by decide +kernel) ⟨Nat.le_of_ble_eq_true rfl, Nat.le_of_ble_eq_true rfl⟩) hE hP hD hA hS [0, 1, 2, 3, 4, 5, 6, 7, 8, 9, 10, 11, 16 + p1.toNatClampNeg] (by simp [va_nd]; try omega) (congrArg (fun z : Option (Nat × va_E) => ([some (psh, .inr (6, [.ref rowsh, .ref tapeh, .ref nowh, .ref drafth, .ref trialh, .ref psq_images, .ref actsh, .ref sackh, .ref asksh, .int ps_latestFault, .int ps_latestFinding])), some (nowh, .inr (4, [.int now_told, .int now_wax, .int now_stick, .int now_givers, .int now_promises, .int now_pan, .ref nowq_keeping, .ref nowq_giverOf, .ref nowq_deedOf, .ref nowq_dayOf, .ref nowq_likelyOf, .ref nowq_kindOf, .ref nowq_settledOf])), some (nowq_keeping, .inl (cI, 4, .inl now_keeping)), some (nowq_giverOf, .inl (cI, 8, .inl now_giverOf)), some (nowq_deedOf, .inl (cI, 8, .inl now_deedOf)), some (nowq_dayOf, .inl (cI, 8, .inl now_dayOf)), some (nowq_likelyOf, .inl (cI, 8, .inl now_likelyOf)), some (nowq_kindOf, .inl (cI, 8, .inl now_kindOf)), some (nowq_settledOf, .inl (cI, 8, .inl now_settledOf)), some (sackh, .inr (2, [.ref sackq_weights, .ref sackq_rivals, .int z13.2.2.1, .int z13.2.2.2.1, .int z13.2.2.2.2.1, .int z13.2.2.2.2.2.1, .int z13.2.2.2.2.2.2])), some (sackq_weights, .inl (cI, 8, .inl z13.1)), some (sackq_rivals, .inl (cI, 8, .inl z13.2.1)), z] : List (Option (Nat × va_E)))) (bs_rw_at (pre := [(psh, .inr (6, [.ref rowsh, .ref tapeh, .ref nowh, .ref drafth, .ref trialh, .ref psq_images, .ref actsh, .ref sackh, .ref asksh, .int ps_latestFault, .int ps_latestFinding])), (nowh, .inr (4, [.int now_told, .int now_wax, .int now_stick, .int now_givers, .int now_promises, .int now_pan, .ref nowq_keeping, .ref nowq_giverOf, .ref nowq_deedOf, .ref nowq_dayOf, .ref nowq_likelyOf, .ref nowq_kindOf, .ref nowq_settledOf])), (nowq_keeping, .inl (cI, 4, .inl now_keeping)), (nowq_giverOf, .inl (cI, 8, .inl now_giverOf)), (nowq_deedOf, .inl (cI, 8, .inl now_deedOf)), (nowq_dayOf, .inl (cI, 8, .inl now_dayOf)), (nowq_likelyOf, .inl (cI, 8, .inl now_likelyOf)), (nowq_kindOf, .inl (cI, 8, .inl now_kindOf)), (nowq_settledOf, .inl (cI, 8, .inl now_settledOf)), (sackh, .inr (2, [.ref sackq_weights, .ref sackq_rivals, .int z13.2.2.1, .int z13.2.2.2.1, .int z13.2.2.2.2.1, .int z13.2.2.2.2.2.1, .int z13.2.2.2.2.2.2])), (sackq_weights, .inl (cI, 8, .inl z13.1)), (sackq_rivals, .inl (cI, 8, .inl z13.2.1)), (rowsh, .inr (3, [.ref rowsq_items, .ref rowsq_laneOf, .ref rowsq_lengthOf])), (rowsq_items, .inl (cG, 8, .inr (.inr (.inr (.inr (fun j : Nat => if j < 8 then some (rowsg j) else none)))))), (rowsq_laneOf, .inl (cI, 8, .inl rows_laneOf)), (rowsq_lengthOf, .inl (cI, 8, .inl rows_lengthOf))]) (n := 16) rfl (bs_inL g18))) 6 0 rfl rfl rfl rfl hl.1 (Nat.le_of_ble_eq_true rfl) dX6_found_117 (fun H locs hP hS => ?_)
                refine lv_goto (tgt := 138) hx hb dX6_found_120 (by decide) ?_
                obtain ⟨z20, hz20, hf⟩ := bs_b hf
                refine bs_cVi (ws1 := [(psh, .inr (6, [.ref rowsh, .ref tapeh, .ref nowh, .ref drafth, .ref trialh, .ref psq_images, .ref actsh, .ref sackh, .ref asksh, .int ps_latestFault, .int z20.2])), (nowh, .inr (4, [.int now_told, .int now_wax, .int now_stick, .int now_givers, .int now_promises, .int now_pan, .ref nowq_keeping, .ref nowq_giverOf, .ref nowq_deedOf, .ref nowq_dayOf, .ref nowq_likelyOf, .ref nowq_kindOf, .ref nowq_settledOf])), (nowq_keeping, .inl (cI, 4, .inl now_keeping)), (nowq_giverOf, .inl (cI, 8, .inl now_giverOf)), (nowq_deedOf, .inl (cI, 8, .inl now_deedOf)), (nowq_dayOf, .inl (cI, 8, .inl now_dayOf)), (nowq_likelyOf, .inl (cI, 8, .inl now_likelyOf)), (nowq_kindOf, .inl (cI, 8, .inl now_kindOf)), (nowq_settledOf, .inl (cI, 8, .inl now_settledOf)), (sackh, .inr (2, [.ref sackq_weights, .ref sackq_rivals, .int z13.2.2.1, .int z13.2.2.2.1, .int z13.2.2.2.2.1, .int z13.2.2.2.2.2.1, .int z13.2.2.2.2.2.2])), (sackq_weights, .inl (cI, 8, .inl z13.1)), (sackq_rivals, .inl (cI, 8, .inl z13.2.1)), (rowsh, .inr (3, [.ref rowsq_items, .ref rowsq_laneOf, .ref rowsq_lengthOf])), (rowsq_items, .inl (cG, 8, .inr (.inr (.inr (.inr (fun j : Nat => if j < 8 then some (rowsg j) else none)))))), (rowsq_laneOf, .inl (cI, 8, .inl rows_laneOf)), (rowsq_lengthOf, .inl (cI, 8, .inl rows_lengthOf))] ++ bs_rw cI rowsg rows_items) ⟨hx, hb, hml, hown, hts⟩ (k_X6_answered l dC dI cI cZ cS cG psh rowsh tapeh nowh drafth trialh psq_images actsh sackh asksh ps_latestFault ps_latestFinding z19 z20 hz20) (cwV 1 hts gX6_found_X6_answered rfl rfl rfl (by decide +kernel) ⟨Nat.le_of_ble_eq_true rfl, Nat.le_of_ble_eq_true rfl⟩) hE hP hD hA hS [0] rfl rfl 6 0 rfl rfl rfl rfl rfl rfl rfl hl.1 (Nat.le_of_ble_eq_true rfl) dX6_found_138 (fun H locs hP hD hS => ?_)
                obtain rfl := Option.some.inj hf
                exact hret H locs _ _ hP hS rfl dX6_found_141
            · have hf := bs_t hf c12
              refine lv_ldc hx hb hown (hts (.constant RX6 69 (-1000001)) (by decide +kernel)) dX6_found_85 ?_
              obtain rfl := Option.some.inj hf
              exact hret H locs _ _ hP hS rfl dX6_found_87
          · have hf := bs_f hf c9
            refine lv_aload_n hx hb dX6_found_60 rfl (lv_at hl 1 rfl) ?_
            refine lv_iload hx hb dX6_found_61 (lv_at hl 0 rfl) ?_
            obtain ⟨z21, hz21, hf⟩ := bs_b hf
            refine bs_cVi (ws1 := [(psh, .inr (6, [.ref rowsh, .ref tapeh, .ref nowh, .ref drafth, .ref trialh, .ref psq_images, .ref actsh, .ref sackh, .ref asksh, .int ps_latestFault, .int z21.2])), (nowh, .inr (4, [.int now_told, .int now_wax, .int now_stick, .int now_givers, .int now_promises, .int now_pan, .ref nowq_keeping, .ref nowq_giverOf, .ref nowq_deedOf, .ref nowq_dayOf, .ref nowq_likelyOf, .ref nowq_kindOf, .ref nowq_settledOf])), (nowq_keeping, .inl (cI, 4, .inl now_keeping)), (nowq_giverOf, .inl (cI, 8, .inl now_giverOf)), (nowq_deedOf, .inl (cI, 8, .inl now_deedOf)), (nowq_dayOf, .inl (cI, 8, .inl now_dayOf)), (nowq_likelyOf, .inl (cI, 8, .inl now_likelyOf)), (nowq_kindOf, .inl (cI, 8, .inl now_kindOf)), (nowq_settledOf, .inl (cI, 8, .inl now_settledOf)), (sackh, .inr (2, [.ref sackq_weights, .ref sackq_rivals, .int sack_promises, .int sack_sets, .int sack_wax, .int sack_stick, .int sack_settled])), (sackq_weights, .inl (cI, 8, .inl sack_weights)), (sackq_rivals, .inl (cI, 8, .inl sack_rivals)), (rowsh, .inr (3, [.ref rowsq_items, .ref rowsq_laneOf, .ref rowsq_lengthOf])), (rowsq_items, .inl (cG, 8, .inr (.inr (.inr (.inr (fun j : Nat => if j < 8 then some (rowsg j) else none)))))), (rowsq_laneOf, .inl (cI, 8, .inl rows_laneOf)), (rowsq_lengthOf, .inl (cI, 8, .inl rows_lengthOf))] ++ bs_rw cI rowsg rows_items) ⟨hx, hb, hml, hown, hts⟩ (k_X6_finding l dC dI cI cZ cS cG psh rowsh tapeh nowh drafth trialh psq_images actsh sackh asksh ps_latestFault ps_latestFinding z8 z21 hz21) (cwV 1 hts gX6_found_X6_finding rfl rfl rfl (by decide +kernel) ⟨Nat.le_of_ble_eq_true rfl, Nat.le_of_ble_eq_true rfl⟩) hE hP hD hA hS [0] rfl rfl 6 0 rfl rfl rfl rfl rfl rfl rfl hl.1 (Nat.le_of_ble_eq_true rfl) dX6_found_63 (fun H locs hP hD hS => ?_)
            obtain rfl := Option.some.inj hf
            exact hret H locs _ _ hP hS rfl dX6_found_66
        · have hf := bs_t hf c7
          refine lv_ldc hx hb hown (hts (.constant RX6 69 (-1000001)) (by decide +kernel)) dX6_found_38 ?_
          obtain rfl := Option.some.inj hf
          exact hret H locs _ _ hP hS rfl dX6_found_40
  · have hf := bs_t hf c1
    refine lv_ldc hx hb hown (hts (.constant RX6 145 (-1000002)) (by decide +kernel)) dX6_found_10 ?_
    obtain rfl := Option.some.inj hf
    exact hret H locs _ _ hP hS rfl dX6_found_12
set_option maxHeartbeats 4000000 in
set_option maxRecDepth 100000 in
theorem k_X6_keepsFound (l : Launch) (dC : Nat → ClassId) (dI : Nat → Nat → Nat) (cI cZ cS cG : ClassId) (psh : Nat) (rowsh : Nat) (tapeh : Nat) (nowh : Nat) (drafth : Nat) (trialh : Nat) (psq_images : Nat) (actsh : Nat) (sackh : Nat) (asksh : Nat) (nowq_keeping : Nat) (nowq_giverOf : Nat) (nowq_deedOf : Nat) (nowq_dayOf : Nat) (nowq_likelyOf : Nat) (nowq_kindOf : Nat) (nowq_settledOf : Nat) (rowsq_items : Nat) (rowsg : Nat → Nat) (rowsq_laneOf : Nat) (rowsq_lengthOf : Nat) (ps_latestFault : Int32) (ps_latestFinding : Int32) (now_told : Int32) (now_wax : Int32) (now_stick : Int32) (now_givers : Int32) (now_promises : Int32) (now_pan : Int32) (now_keeping : Nat → Int32) (now_giverOf : Nat → Int32) (now_deedOf : Nat → Int32) (now_dayOf : Nat → Int32) (now_likelyOf : Nat → Int32) (now_kindOf : Nat → Int32) (now_settledOf : Nat → Int32) (rows_items : Nat → Nat → Int32) (rows_laneOf : Nat → Int32) (rows_lengthOf : Nat → Int32) (p1 : Int32) (p2 : Int32) (p3 : Int32) (out : Int32 × Int32) (hf : f_X6_keepsFound ps_latestFinding now_givers now_promises now_giverOf now_likelyOf now_kindOf now_settledOf rows_items rows_lengthOf p1 p2 p3 = some out) : bs_C l dC dI cI cZ cS cG yX6_keepsFound wsX6_keepsFound ({ frames := 3, cells := 0, slots := 0, locals := 69 } : Room) [.ref psh, .int p1, .int p2, .int p3] ([(psh, .inr (6, [.ref rowsh, .ref tapeh, .ref nowh, .ref drafth, .ref trialh, .ref psq_images, .ref actsh, .ref sackh, .ref asksh, .int ps_latestFault, .int ps_latestFinding])), (nowh, .inr (4, [.int now_told, .int now_wax, .int now_stick, .int now_givers, .int now_promises, .int now_pan, .ref nowq_keeping, .ref nowq_giverOf, .ref nowq_deedOf, .ref nowq_dayOf, .ref nowq_likelyOf, .ref nowq_kindOf, .ref nowq_settledOf])), (nowq_keeping, .inl (cI, 4, .inl now_keeping)), (nowq_giverOf, .inl (cI, 8, .inl now_giverOf)), (nowq_deedOf, .inl (cI, 8, .inl now_deedOf)), (nowq_dayOf, .inl (cI, 8, .inl now_dayOf)), (nowq_likelyOf, .inl (cI, 8, .inl now_likelyOf)), (nowq_kindOf, .inl (cI, 8, .inl now_kindOf)), (nowq_settledOf, .inl (cI, 8, .inl now_settledOf)), (rowsh, .inr (3, [.ref rowsq_items, .ref rowsq_laneOf, .ref rowsq_lengthOf])), (rowsq_items, .inl (cG, 8, .inr (.inr (.inr (.inr (fun j : Nat => if j < 8 then some (rowsg j) else none)))))), (rowsq_laneOf, .inl (cI, 8, .inl rows_laneOf)), (rowsq_lengthOf, .inl (cI, 8, .inl rows_lengthOf))] ++ bs_rw cI rowsg rows_items) out.1 ([(psh, .inr (6, [.ref rowsh, .ref tapeh, .ref nowh, .ref drafth, .ref trialh, .ref psq_images, .ref actsh, .ref sackh, .ref asksh, .int ps_latestFault, .int out.2])), (nowh, .inr (4, [.int now_told, .int now_wax, .int now_stick, .int now_givers, .int now_promises, .int now_pan, .ref nowq_keeping, .ref nowq_giverOf, .ref nowq_deedOf, .ref nowq_dayOf, .ref nowq_likelyOf, .ref nowq_kindOf, .ref nowq_settledOf])), (nowq_keeping, .inl (cI, 4, .inl now_keeping)), (nowq_giverOf, .inl (cI, 8, .inl now_giverOf)), (nowq_deedOf, .inl (cI, 8, .inl now_deedOf)), (nowq_dayOf, .inl (cI, 8, .inl now_dayOf)), (nowq_likelyOf, .inl (cI, 8, .inl now_likelyOf)), (nowq_kindOf, .inl (cI, 8, .inl now_kindOf)), (nowq_settledOf, .inl (cI, 8, .inl now_settledOf)), (rowsh, .inr (3, [.ref rowsq_items, .ref rowsq_laneOf, .ref rowsq_lengthOf])), (rowsq_items, .inl (cG, 8, .inr (.inr (.inr (.inr (fun j : Nat => if j < 8 then some (rowsg j) else none)))))), (rowsq_laneOf, .inl (cI, 8, .inl rows_laneOf)), (rowsq_lengthOf, .inl (cI, 8, .inl rows_lengthOf))] ++ bs_rw cI rowsg rows_items) := by
  refine bs_ofI (cc := cX6_keepsFound) (maxL := 7) (by decide) rfl (Nat.le_of_ble_eq_true rfl) ?_
  intro p e s m below meth c A Q hx hb hown hml hts hE H locs hP hD hA hS ls hl hret
  have hK := hE.1
  have hl : lv_has ls 7 [(0, .ref psh), (1, .int p1), (2, .int p2), (3, .int p3)] := hl
  have hin3 : ∀ w ∈ u_ws RX3 TX3 3, w ∈ wsX6_keepsFound := by decide +kernel
  have hin6 : ∀ w ∈ u_ws RX6 TX6 11, w ∈ wsX6_keepsFound := by decide +kernel
  have k10 := hts (.fieldLink RX6 10 "PromiseScales" "rows" "LPromiseScales$Rows;") (by decide +kernel)
  have k26 := hts (.fieldLink RX6 26 "PromiseScales" "now" "LPromiseScales$Scales;") (by decide +kernel)
  have k237 := hts (.fieldLink RX6 237 "PromiseScales$Rows" "items" "[[I") (by decide +kernel)
  unfold f_X6_keepsFound at hf
  refine lv_aload_n hx hb dX6_keepsFound_0 rfl (lv_at hl 0 rfl) ?_
  refine lv_iload_n hx hb dX6_keepsFound_1 rfl (lv_at hl 1 rfl) ?_
  obtain ⟨z1, hz1, hf⟩ := bs_b hf
  refine bs_cViR ⟨hx, hb, hml, hown, hts⟩ (k_X6_isGiver l dC dI cI cZ cS cG psh rowsh tapeh nowh drafth trialh psq_images actsh sackh asksh nowq_keeping nowq_giverOf nowq_deedOf nowq_dayOf nowq_likelyOf nowq_kindOf nowq_settledOf ps_latestFault ps_latestFinding now_told now_wax now_stick now_givers now_promises now_pan now_keeping now_giverOf now_deedOf now_dayOf now_likelyOf now_kindOf now_settledOf p1 z1 hz1) (cwV 1 hts gX6_keepsFound_X6_isGiver rfl rfl rfl (by decide +kernel) ⟨Nat.le_of_ble_eq_true rfl, Nat.le_of_ble_eq_true rfl⟩) hE hP hD hA hS [0, 1, 2, 3, 4, 5, 6, 7, 8] rfl rfl 6 0 rfl rfl rfl rfl hl.1 (Nat.le_of_ble_eq_true rfl) dX6_keepsFound_2 (fun H locs hP hS => ?_)
  refine lv_if_eq (tgt := 15) hx hb dX6_keepsFound_5 (by decide) (fun c2 => ?_) (fun c2 => ?_)
  · have hf := bs_t hf c2
    refine lv_ldc hx hb hown (hts (.constant RX6 69 (-1000001)) (by decide +kernel)) dX6_keepsFound_15 ?_
    obtain rfl := Option.some.inj hf
    exact hret H locs _ _ hP hS rfl dX6_keepsFound_17
  · have hf := bs_f hf c2
    refine lv_iload_n hx hb dX6_keepsFound_8 rfl (lv_at hl 2 rfl) ?_
    obtain ⟨z3, hz3, hf⟩ := bs_b hf
    refine bs_cSi ⟨hx, hb, hml, hown, hts⟩ (k_X6_isRow l dC dI cI cZ cS cG p2 z3 hz3) (va_cwS 1 hts gX6_keepsFound_X6_isRow rfl rfl rfl (by decide +kernel) ⟨Nat.le_of_ble_eq_true rfl, Nat.le_of_ble_eq_true rfl⟩) hE hP hD hA hS rfl rfl hl.1 (Nat.le_of_ble_eq_true rfl) dX6_keepsFound_9 (fun H locs hP hS => ?_)
    refine lv_if_ne (tgt := 18) hx hb dX6_keepsFound_12 (by decide) (fun c4 => ?_) (fun c4 => ?_)
    · have hf := bs_f hf c4
      refine lv_aload_n hx hb dX6_keepsFound_18 rfl (lv_at hl 0 rfl) ?_
      refine va_get (D := (dC, dI)) (ci := 6) (v := .ref rowsh) (C := RX6) (T := TX6) (N := 11) hx hb hts hin6 hown hK hP 0 rfl rfl 0 (by decide) k10 (fun _ h9 => h9) rfl dX6_keepsFound_19 ?_
      refine lv_iload_n hx hb dX6_keepsFound_22 rfl (lv_at hl 2 rfl) ?_
      refine lv_iload_n hx hb dX6_keepsFound_23 rfl (lv_at hl 3 rfl) ?_
      refine lv_aload_n hx hb dX6_keepsFound_24 rfl (lv_at hl 0 rfl) ?_
      refine va_get (D := (dC, dI)) (ci := 6) (v := .ref nowh) (C := RX6) (T := TX6) (N := 11) hx hb hts hin6 hown hK hP 0 rfl rfl 2 (by decide) k26 (fun _ h9 => h9) rfl dX6_keepsFound_25 ?_
      refine lv_iload_n hx hb dX6_keepsFound_28 rfl (lv_at hl 1 rfl) ?_
      obtain ⟨z5, hz5, hf⟩ := bs_b hf
      refine bs_cViR ⟨hx, hb, hml, hown, hts⟩ (k_X4_howManyPlain l dC dI cI cZ cS cG nowh nowq_keeping nowq_giverOf nowq_deedOf nowq_dayOf nowq_likelyOf nowq_kindOf nowq_settledOf now_told now_wax now_stick now_givers now_promises now_pan now_keeping now_giverOf now_deedOf now_dayOf now_likelyOf now_kindOf now_settledOf p1 z5 hz5) (cwV 1 hts gX6_keepsFound_X4_howManyPlain rfl rfl rfl (by decide +kernel) ⟨Nat.le_of_ble_eq_true rfl, Nat.le_of_ble_eq_true rfl⟩) hE hP hD hA hS [1, 2, 3, 4, 5, 6, 7, 8] rfl rfl 4 0 rfl rfl rfl rfl hl.1 (Nat.le_of_ble_eq_true rfl) dX6_keepsFound_29 (fun H locs hP hS => ?_)
      obtain ⟨z6, hz6, hf⟩ := bs_b hf
      refine bs_cViR ⟨hx, hb, hml, hown, hts⟩ (k_X3_findingOfRun l dC dI cI cZ cS cG rowsh rowsq_items rowsg rowsq_laneOf rowsq_lengthOf rows_items rows_laneOf rows_lengthOf p2 p3 z5 z6 hz6) (cwV 3 hts gX6_keepsFound_X3_findingOfRun rfl rfl rfl (by decide +kernel) ⟨Nat.le_of_ble_eq_true rfl, Nat.le_of_ble_eq_true rfl⟩) hE hP hD hA hS [9, 10, 11, 12, 13, 14, 15, 16, 17, 18, 19, 20] rfl rfl 3 0 rfl rfl rfl rfl hl.1 (Nat.le_of_ble_eq_true rfl) dX6_keepsFound_32 (fun H locs hP hS => ?_)
      refine lv_istore (lv' := [(4, .int z6), (0, .ref psh), (1, .int p1), (2, .int p2), (3, .int p3)]) hx hb dX6_keepsFound_35 hl (by decide) rfl (fun ls hl => ?_)
      refine lv_iload hx hb dX6_keepsFound_37 (lv_at hl 0 rfl) ?_
      refine lv_if_eq (tgt := 49) hx hb dX6_keepsFound_39 (by decide) (fun c7 => ?_) (fun c7 => ?_)
      · have hf := bs_t hf c7
        refine lv_iconst (v := 0) hx hb dX6_keepsFound_49 (by decide) ?_
        refine lv_istore (lv' := [(5, .int 0), (4, .int z6), (0, .ref psh), (1, .int p1), (2, .int p2), (3, .int p3)]) hx hb dX6_keepsFound_50 hl (by decide) rfl (fun ls hl => ?_)
        refine lv_iconst (v := 0) hx hb dX6_keepsFound_52 (by decide) ?_
        refine lv_istore (lv' := [(6, .int 0), (5, .int 0), (4, .int z6), (0, .ref psh), (1, .int p1), (2, .int p2), (3, .int p3)]) hx hb dX6_keepsFound_53 hl (by decide) rfl (fun ls hl => ?_)
        have L_55 : ∀ (fuel : Nat) (x5_55 : Int32) (x6_55 : Int32) (H : Heap) (locs : List Loc) (ls : Array Slot), va_P (dC, dI) vwCl ([(psh, .inr (6, [.ref rowsh, .ref tapeh, .ref nowh, .ref drafth, .ref trialh, .ref psq_images, .ref actsh, .ref sackh, .ref asksh, .int ps_latestFault, .int ps_latestFinding])), (nowh, .inr (4, [.int now_told, .int now_wax, .int now_stick, .int now_givers, .int now_promises, .int now_pan, .ref nowq_keeping, .ref nowq_giverOf, .ref nowq_deedOf, .ref nowq_dayOf, .ref nowq_likelyOf, .ref nowq_kindOf, .ref nowq_settledOf])), (nowq_keeping, .inl (cI, 4, .inl now_keeping)), (nowq_giverOf, .inl (cI, 8, .inl now_giverOf)), (nowq_deedOf, .inl (cI, 8, .inl now_deedOf)), (nowq_dayOf, .inl (cI, 8, .inl now_dayOf)), (nowq_likelyOf, .inl (cI, 8, .inl now_likelyOf)), (nowq_kindOf, .inl (cI, 8, .inl now_kindOf)), (nowq_settledOf, .inl (cI, 8, .inl now_settledOf)), (rowsh, .inr (3, [.ref rowsq_items, .ref rowsq_laneOf, .ref rowsq_lengthOf])), (rowsq_items, .inl (cG, 8, .inr (.inr (.inr (.inr (fun j : Nat => if j < 8 then some (rowsg j) else none)))))), (rowsq_laneOf, .inl (cI, 8, .inl rows_laneOf)), (rowsq_lengthOf, .inl (cI, 8, .inl rows_lengthOf))] ++ bs_rw cI rowsg rows_items) H → va_D A ([(psh, .inr (6, [.ref rowsh, .ref tapeh, .ref nowh, .ref drafth, .ref trialh, .ref psq_images, .ref actsh, .ref sackh, .ref asksh, .int ps_latestFault, .int ps_latestFinding])), (nowh, .inr (4, [.int now_told, .int now_wax, .int now_stick, .int now_givers, .int now_promises, .int now_pan, .ref nowq_keeping, .ref nowq_giverOf, .ref nowq_deedOf, .ref nowq_dayOf, .ref nowq_likelyOf, .ref nowq_kindOf, .ref nowq_settledOf])), (nowq_keeping, .inl (cI, 4, .inl now_keeping)), (nowq_giverOf, .inl (cI, 8, .inl now_giverOf)), (nowq_deedOf, .inl (cI, 8, .inl now_deedOf)), (nowq_dayOf, .inl (cI, 8, .inl now_dayOf)), (nowq_likelyOf, .inl (cI, 8, .inl now_likelyOf)), (nowq_kindOf, .inl (cI, 8, .inl now_kindOf)), (nowq_settledOf, .inl (cI, 8, .inl now_settledOf)), (rowsh, .inr (3, [.ref rowsq_items, .ref rowsq_laneOf, .ref rowsq_lengthOf])), (rowsq_items, .inl (cG, 8, .inr (.inr (.inr (.inr (fun j : Nat => if j < 8 then some (rowsg j) else none)))))), (rowsq_laneOf, .inl (cI, 8, .inl rows_laneOf)), (rowsq_lengthOf, .inl (cI, 8, .inl rows_lengthOf))] ++ bs_rw cI rowsg rows_items) → va_S A s.heap H locs → lv_has ls 7 [(0, .ref psh), (1, .int p1), (2, .int p2), (3, .int p3), (5, .int x5_55), (6, .int x6_55)] → f_X6_keepsFound_L55 ps_latestFinding now_givers now_promises now_giverOf now_likelyOf now_kindOf now_settledOf rows_items rows_lengthOf p1 p2 p3 fuel x5_55 x6_55 = some out → W p l e ({ frames := 3, cells := 0, slots := 0, locals := 69 } : Room) s m ([.ref psh, .int p1, .int p2, .int p3] : List Value).toArray below meth c H locs 0 0 Q (F0 m 55 ls []) := by
          intro fuel
          induction fuel with
          | zero =>
            intro x5_55 x6_55 H locs ls hP hD hS hl hf
            cases (show (none : Option (Int32 × Int32)) = some out from hf)
          | succ n_55 ih_55 =>
            intro x5_55 x6_55 H locs ls hP hD hS hl hf
            have hf := (f_X6_keepsFound_L55_s ps_latestFinding now_givers now_promises now_giverOf now_likelyOf now_kindOf now_settledOf rows_items rows_lengthOf p1 p2 p3 n_55 x5_55 x6_55).symm.trans hf
            refine lv_iload hx hb dX6_keepsFound_55 (lv_at hl 5 rfl) ?_
            refine lv_bipush (v := 10) hx hb dX6_keepsFound_57 (by decide) ?_
            refine lv_icmp_gt (tgt := 100) hx hb dX6_keepsFound_59 (by decide) (fun c8 => ?_) (fun c8 => ?_)
            · have hf := bs_t hf c8
              refine lv_aload_n hx hb dX6_keepsFound_100 rfl (lv_at hl 0 rfl) ?_
              refine lv_iload hx hb dX6_keepsFound_101 (lv_at hl 4 rfl) ?_
              obtain ⟨z9, hz9, hf⟩ := bs_b hf
              refine bs_cVi (ws1 := [(psh, .inr (6, [.ref rowsh, .ref tapeh, .ref nowh, .ref drafth, .ref trialh, .ref psq_images, .ref actsh, .ref sackh, .ref asksh, .int ps_latestFault, .int z9.2])), (nowh, .inr (4, [.int now_told, .int now_wax, .int now_stick, .int now_givers, .int now_promises, .int now_pan, .ref nowq_keeping, .ref nowq_giverOf, .ref nowq_deedOf, .ref nowq_dayOf, .ref nowq_likelyOf, .ref nowq_kindOf, .ref nowq_settledOf])), (nowq_keeping, .inl (cI, 4, .inl now_keeping)), (nowq_giverOf, .inl (cI, 8, .inl now_giverOf)), (nowq_deedOf, .inl (cI, 8, .inl now_deedOf)), (nowq_dayOf, .inl (cI, 8, .inl now_dayOf)), (nowq_likelyOf, .inl (cI, 8, .inl now_likelyOf)), (nowq_kindOf, .inl (cI, 8, .inl now_kindOf)), (nowq_settledOf, .inl (cI, 8, .inl now_settledOf)), (rowsh, .inr (3, [.ref rowsq_items, .ref rowsq_laneOf, .ref rowsq_lengthOf])), (rowsq_items, .inl (cG, 8, .inr (.inr (.inr (.inr (fun j : Nat => if j < 8 then some (rowsg j) else none)))))), (rowsq_laneOf, .inl (cI, 8, .inl rows_laneOf)), (rowsq_lengthOf, .inl (cI, 8, .inl rows_lengthOf))] ++ bs_rw cI rowsg rows_items) ⟨hx, hb, hml, hown, hts⟩ (k_X6_answered l dC dI cI cZ cS cG psh rowsh tapeh nowh drafth trialh psq_images actsh sackh asksh ps_latestFault ps_latestFinding x5_55 z9 hz9) (cwV 1 hts gX6_keepsFound_X6_answered rfl rfl rfl (by decide +kernel) ⟨Nat.le_of_ble_eq_true rfl, Nat.le_of_ble_eq_true rfl⟩) hE hP hD hA hS [0] rfl rfl 6 0 rfl rfl rfl rfl rfl rfl rfl hl.1 (Nat.le_of_ble_eq_true rfl) dX6_keepsFound_103 (fun H locs hP hD hS => ?_)
              obtain rfl := Option.some.inj hf
              exact hret H locs _ _ hP hS rfl dX6_keepsFound_106
            · have hf := bs_f hf c8
              refine lv_aload_n hx hb dX6_keepsFound_62 rfl (lv_at hl 0 rfl) ?_
              refine va_get (D := (dC, dI)) (ci := 6) (v := .ref nowh) (C := RX6) (T := TX6) (N := 11) hx hb hts hin6 hown hK hP 0 rfl rfl 2 (by decide) k26 (fun _ h9 => h9) rfl dX6_keepsFound_63 ?_
              refine lv_iload_n hx hb dX6_keepsFound_66 rfl (lv_at hl 1 rfl) ?_
              refine lv_iload hx hb dX6_keepsFound_67 (lv_at hl 5 rfl) ?_
              refine lv_aload_n hx hb dX6_keepsFound_69 rfl (lv_at hl 0 rfl) ?_
              refine va_get (D := (dC, dI)) (ci := 6) (v := .ref rowsh) (C := RX6) (T := TX6) (N := 11) hx hb hts hin6 hown hK hP 0 rfl rfl 0 (by decide) k10 (fun _ h9 => h9) rfl dX6_keepsFound_70 ?_
              refine va_get (D := (dC, dI)) (ci := 3) (v := .ref rowsq_items) (C := RX3) (T := TX3) (N := 3) hx hb hts hin3 hown hK hP 9 rfl rfl 0 (by decide) k237 (fun _ h9 => h9) rfl dX6_keepsFound_73 ?_
              refine lv_iload_n hx hb dX6_keepsFound_76 rfl (lv_at hl 2 rfl) ?_
              obtain ⟨g10, hf⟩ := bs_g hf
              refine bs_aldg hx hb hK hP 10 3 rfl rfl (bs_inV g10) dX6_keepsFound_77 ?_
              refine bs_topq (a := rowsg p2.toNatClampNeg) (bs_row (bs_inL g10)) ?_
              refine lv_iload_n hx hb dX6_keepsFound_78 rfl (lv_at hl 3 rfl) ?_
              obtain ⟨z11, hz11, hf⟩ := bs_b hf
              refine bs_cViR ⟨hx, hb, hml, hown, hts⟩ (k_X4_plainWeigh l dC dI cI cZ cS cG nowh nowq_keeping nowq_giverOf nowq_deedOf nowq_dayOf nowq_likelyOf nowq_kindOf nowq_settledOf (rowsg p2.toNatClampNeg) now_told now_wax now_stick now_givers now_promises now_pan now_keeping now_giverOf now_deedOf now_dayOf now_likelyOf now_kindOf now_settledOf (rows_items p2.toNatClampNeg) p1 x6_55 p3 z11 hz11) (cwV 4 hts gX6_keepsFound_X4_plainWeigh rfl rfl rfl (by decide +kernel) ⟨Nat.le_of_ble_eq_true rfl, Nat.le_of_ble_eq_true rfl⟩) hE hP hD hA hS [1, 2, 3, 4, 5, 6, 7, 8, 13 + p2.toNatClampNeg] (by simp [va_nd]; try omega) (congrArg (fun z : Option (Nat × va_E) => ([some (nowh, .inr (4, [.int now_told, .int now_wax, .int now_stick, .int now_givers, .int now_promises, .int now_pan, .ref nowq_keeping, .ref nowq_giverOf, .ref nowq_deedOf, .ref nowq_dayOf, .ref nowq_likelyOf, .ref nowq_kindOf, .ref nowq_settledOf])), some (nowq_keeping, .inl (cI, 4, .inl now_keeping)), some (nowq_giverOf, .inl (cI, 8, .inl now_giverOf)), some (nowq_deedOf, .inl (cI, 8, .inl now_deedOf)), some (nowq_dayOf, .inl (cI, 8, .inl now_dayOf)), some (nowq_likelyOf, .inl (cI, 8, .inl now_likelyOf)), some (nowq_kindOf, .inl (cI, 8, .inl now_kindOf)), some (nowq_settledOf, .inl (cI, 8, .inl now_settledOf)), z] : List (Option (Nat × va_E)))) (bs_rw_at (pre := [(psh, .inr (6, [.ref rowsh, .ref tapeh, .ref nowh, .ref drafth, .ref trialh, .ref psq_images, .ref actsh, .ref sackh, .ref asksh, .int ps_latestFault, .int ps_latestFinding])), (nowh, .inr (4, [.int now_told, .int now_wax, .int now_stick, .int now_givers, .int now_promises, .int now_pan, .ref nowq_keeping, .ref nowq_giverOf, .ref nowq_deedOf, .ref nowq_dayOf, .ref nowq_likelyOf, .ref nowq_kindOf, .ref nowq_settledOf])), (nowq_keeping, .inl (cI, 4, .inl now_keeping)), (nowq_giverOf, .inl (cI, 8, .inl now_giverOf)), (nowq_deedOf, .inl (cI, 8, .inl now_deedOf)), (nowq_dayOf, .inl (cI, 8, .inl now_dayOf)), (nowq_likelyOf, .inl (cI, 8, .inl now_likelyOf)), (nowq_kindOf, .inl (cI, 8, .inl now_kindOf)), (nowq_settledOf, .inl (cI, 8, .inl now_settledOf)), (rowsh, .inr (3, [.ref rowsq_items, .ref rowsq_laneOf, .ref rowsq_lengthOf])), (rowsq_items, .inl (cG, 8, .inr (.inr (.inr (.inr (fun j : Nat => if j < 8 then some (rowsg j) else none)))))), (rowsq_laneOf, .inl (cI, 8, .inl rows_laneOf)), (rowsq_lengthOf, .inl (cI, 8, .inl rows_lengthOf))]) (n := 13) rfl (bs_inL g10))) 4 0 rfl rfl rfl rfl hl.1 (Nat.le_of_ble_eq_true rfl) dX6_keepsFound_79 (fun H locs hP hS => ?_)
              refine lv_if_eq (tgt := 94) hx hb dX6_keepsFound_82 (by decide) (fun c12 => ?_) (fun c12 => ?_)
              · have hf := bs_t hf c12
                refine lv_iinc (v := x6_55 + 1) (lv' := [(6, .int (x6_55 + 1)), (0, .ref psh), (1, .int p1), (2, .int p2), (3, .int p3), (5, .int x5_55)]) hx hb dX6_keepsFound_94 hl (k := 5) rfl rfl (by decide) rfl (fun ls hl => ?_)
                refine lv_goto (tgt := 55) hx hb dX6_keepsFound_97 (by decide) ?_
                exact ih_55 x5_55 (x6_55 + 1) H locs ls hP hD hS (lv_sub hl [1, 2, 3, 4, 5, 0] rfl) hf
              · have hf := bs_f hf c12
                refine lv_iload hx hb dX6_keepsFound_85 (lv_at hl 4 rfl) ?_
                refine lv_iconst (v := 1) hx hb dX6_keepsFound_87 (by decide) ?_
                refine lv_iload hx hb dX6_keepsFound_88 (lv_at hl 5 rfl) ?_
                refine lv_ishl hx hb dX6_keepsFound_90 ?_
                refine lv_ior hx hb dX6_keepsFound_91 ?_
                refine lv_istore (lv' := [(5, .int (x5_55 ||| (1 <<< (x6_55 &&& 31)))), (0, .ref psh), (1, .int p1), (2, .int p2), (3, .int p3), (6, .int x6_55)]) hx hb dX6_keepsFound_92 hl (by decide) rfl (fun ls hl => ?_)
                refine lv_iinc (v := x6_55 + 1) (lv' := [(6, .int (x6_55 + 1)), (5, .int (x5_55 ||| (1 <<< (x6_55 &&& 31)))), (0, .ref psh), (1, .int p1), (2, .int p2), (3, .int p3)]) hx hb dX6_keepsFound_94 hl (k := 5) rfl rfl (by decide) rfl (fun ls hl => ?_)
                refine lv_goto (tgt := 55) hx hb dX6_keepsFound_97 (by decide) ?_
                exact ih_55 (x5_55 ||| (1 <<< (x6_55 &&& 31))) (x6_55 + 1) H locs ls hP hD hS (lv_sub hl [2, 3, 4, 5, 1, 0] rfl) hf
        exact L_55 bs_F (0 : Int32) (0 : Int32) H locs ls hP hD hS (lv_sub hl [3, 4, 5, 6, 1, 0] rfl) hf
      · have hf := bs_f hf c7
        refine lv_aload_n hx hb dX6_keepsFound_42 rfl (lv_at hl 1 rfl) ?_
        refine lv_iload hx hb dX6_keepsFound_43 (lv_at hl 0 rfl) ?_
        obtain ⟨z13, hz13, hf⟩ := bs_b hf
        refine bs_cVi (ws1 := [(psh, .inr (6, [.ref rowsh, .ref tapeh, .ref nowh, .ref drafth, .ref trialh, .ref psq_images, .ref actsh, .ref sackh, .ref asksh, .int ps_latestFault, .int z13.2])), (nowh, .inr (4, [.int now_told, .int now_wax, .int now_stick, .int now_givers, .int now_promises, .int now_pan, .ref nowq_keeping, .ref nowq_giverOf, .ref nowq_deedOf, .ref nowq_dayOf, .ref nowq_likelyOf, .ref nowq_kindOf, .ref nowq_settledOf])), (nowq_keeping, .inl (cI, 4, .inl now_keeping)), (nowq_giverOf, .inl (cI, 8, .inl now_giverOf)), (nowq_deedOf, .inl (cI, 8, .inl now_deedOf)), (nowq_dayOf, .inl (cI, 8, .inl now_dayOf)), (nowq_likelyOf, .inl (cI, 8, .inl now_likelyOf)), (nowq_kindOf, .inl (cI, 8, .inl now_kindOf)), (nowq_settledOf, .inl (cI, 8, .inl now_settledOf)), (rowsh, .inr (3, [.ref rowsq_items, .ref rowsq_laneOf, .ref rowsq_lengthOf])), (rowsq_items, .inl (cG, 8, .inr (.inr (.inr (.inr (fun j : Nat => if j < 8 then some (rowsg j) else none)))))), (rowsq_laneOf, .inl (cI, 8, .inl rows_laneOf)), (rowsq_lengthOf, .inl (cI, 8, .inl rows_lengthOf))] ++ bs_rw cI rowsg rows_items) ⟨hx, hb, hml, hown, hts⟩ (k_X6_finding l dC dI cI cZ cS cG psh rowsh tapeh nowh drafth trialh psq_images actsh sackh asksh ps_latestFault ps_latestFinding z6 z13 hz13) (cwV 1 hts gX6_keepsFound_X6_finding rfl rfl rfl (by decide +kernel) ⟨Nat.le_of_ble_eq_true rfl, Nat.le_of_ble_eq_true rfl⟩) hE hP hD hA hS [0] rfl rfl 6 0 rfl rfl rfl rfl rfl rfl rfl hl.1 (Nat.le_of_ble_eq_true rfl) dX6_keepsFound_45 (fun H locs hP hD hS => ?_)
        obtain rfl := Option.some.inj hf
        exact hret H locs _ _ hP hS rfl dX6_keepsFound_48
    · have hf := bs_t hf c4
      refine lv_ldc hx hb hown (hts (.constant RX6 69 (-1000001)) (by decide +kernel)) dX6_keepsFound_15 ?_
      obtain rfl := Option.some.inj hf
      exact hret H locs _ _ hP hS rfl dX6_keepsFound_17
set_option maxHeartbeats 4000000 in
set_option maxRecDepth 100000 in
theorem k_X6_commonDivisor (l : Launch) (dC : Nat → ClassId) (dI : Nat → Nat → Nat) (cI cZ cS cG : ClassId) (p1 : Int32) (p2 : Int32) (out : Int32) (hf : f_X6_commonDivisor p1 p2 = some out) : bs_C l dC dI cI cZ cS cG yX6_commonDivisor wsX6_commonDivisor ({ frames := 0, cells := 0, slots := 0, locals := 0 } : Room) [.int p1, .int p2] ([]) out ([]) := by
  refine bs_ofI (cc := cX6_commonDivisor) (maxL := 6) (by decide) rfl (Nat.le_of_ble_eq_true rfl) ?_
  intro p e s m below meth c A Q hx hb hown hml hts hE H locs hP hD hA hS ls hl hret
  have hK := hE.1
  have hl : lv_has ls 6 [(0, .int p1), (1, .int p2)] := hl
  unfold f_X6_commonDivisor at hf
  refine lv_iload_n hx hb dX6_commonDivisor_0 rfl (lv_at hl 0 rfl) ?_
  refine lv_istore_n (lv' := [(2, .int p1), (0, .int p1), (1, .int p2)]) hx hb dX6_commonDivisor_1 rfl hl (by decide) rfl (fun ls hl => ?_)
  refine lv_iload_n hx hb dX6_commonDivisor_2 rfl (lv_at hl 2 rfl) ?_
  refine lv_istore_n (lv' := [(3, .int p2), (2, .int p1), (0, .int p1), (1, .int p2)]) hx hb dX6_commonDivisor_3 rfl hl (by decide) rfl (fun ls hl => ?_)
  refine lv_iconst (v := 0) hx hb dX6_commonDivisor_4 (by decide) ?_
  refine lv_istore (lv' := [(4, .int 0), (3, .int p2), (2, .int p1), (0, .int p1), (1, .int p2)]) hx hb dX6_commonDivisor_5 hl (by decide) rfl (fun ls hl => ?_)
  have L_7 : ∀ (fuel : Nat) (x2_7 : Int32) (x3_7 : Int32) (x4_7 : Int32) (H : Heap) (locs : List Loc) (ls : Array Slot), va_P (dC, dI) vwCl ([]) H → va_D A ([]) → va_S A s.heap H locs → lv_has ls 6 [(2, .int x2_7), (3, .int x3_7), (4, .int x4_7)] → f_X6_commonDivisor_L7 fuel x2_7 x3_7 x4_7 = some out → W p l e ({ frames := 0, cells := 0, slots := 0, locals := 0 } : Room) s m ([.int p1, .int p2] : List Value).toArray below meth c H locs 0 0 Q (F0 m 7 ls []) := by
    intro fuel
    induction fuel with
    | zero =>
      intro x2_7 x3_7 x4_7 H locs ls hP hD hS hl hf
      cases (show (none : Option (Int32)) = some out from hf)
    | succ n_7 ih_7 =>
      intro x2_7 x3_7 x4_7 H locs ls hP hD hS hl hf
      have hf := (f_X6_commonDivisor_L7_s  n_7 x2_7 x3_7 x4_7).symm.trans hf
      refine lv_iload hx hb dX6_commonDivisor_7 (lv_at hl 2 rfl) ?_
      refine lv_bipush (v := 64) hx hb dX6_commonDivisor_9 (by decide) ?_
      refine lv_icmp_ge (tgt := 34) hx hb dX6_commonDivisor_11 (by decide) (fun c1 => ?_) (fun c1 => ?_)
      · have hf := bs_t hf c1
        refine lv_iload_n hx hb dX6_commonDivisor_34 rfl (lv_at hl 0 rfl) ?_
        obtain rfl := Option.some.inj hf
        exact hret H locs _ _ hP hS rfl dX6_commonDivisor_35
      · have hf := bs_f hf c1
        refine lv_iload_n hx hb dX6_commonDivisor_14 rfl (lv_at hl 1 rfl) ?_
        refine lv_if_eq (tgt := 34) hx hb dX6_commonDivisor_15 (by decide) (fun c2 => ?_) (fun c2 => ?_)
        · have hf := bs_t hf c2
          refine lv_iload_n hx hb dX6_commonDivisor_34 rfl (lv_at hl 0 rfl) ?_
          obtain rfl := Option.some.inj hf
          exact hret H locs _ _ hP hS rfl dX6_commonDivisor_35
        · have hf := bs_f hf c2
          refine lv_iload_n hx hb dX6_commonDivisor_18 rfl (lv_at hl 0 rfl) ?_
          refine lv_iload_n hx hb dX6_commonDivisor_19 rfl (lv_at hl 1 rfl) ?_
          obtain ⟨g3, hf⟩ := bs_g hf
          refine lv_irem hx hb dX6_commonDivisor_20 g3 ?_
          refine lv_istore (lv' := [(5, .int (x2_7 - x2_7 / x3_7 * x3_7)), (2, .int x2_7), (3, .int x3_7), (4, .int x4_7)]) hx hb dX6_commonDivisor_21 hl (by decide) rfl (fun ls hl => ?_)
          refine lv_iload_n hx hb dX6_commonDivisor_23 rfl (lv_at hl 2 rfl) ?_
          refine lv_istore_n (lv' := [(2, .int x3_7), (5, .int (x2_7 - x2_7 / x3_7 * x3_7)), (3, .int x3_7), (4, .int x4_7)]) hx hb dX6_commonDivisor_24 rfl hl (by decide) rfl (fun ls hl => ?_)
          refine lv_iload hx hb dX6_commonDivisor_25 (lv_at hl 1 rfl) ?_
          refine lv_istore_n (lv' := [(3, .int (x2_7 - x2_7 / x3_7 * x3_7)), (2, .int x3_7), (5, .int (x2_7 - x2_7 / x3_7 * x3_7)), (4, .int x4_7)]) hx hb dX6_commonDivisor_27 rfl hl (by decide) rfl (fun ls hl => ?_)
          refine lv_iinc (v := x4_7 + 1) (lv' := [(4, .int (x4_7 + 1)), (3, .int (x2_7 - x2_7 / x3_7 * x3_7)), (2, .int x3_7), (5, .int (x2_7 - x2_7 / x3_7 * x3_7))]) hx hb dX6_commonDivisor_28 hl (k := 3) rfl rfl (by decide) rfl (fun ls hl => ?_)
          refine lv_goto (tgt := 7) hx hb dX6_commonDivisor_31 (by decide) ?_
          exact ih_7 x3_7 (x2_7 - x2_7 / x3_7 * x3_7) (x4_7 + 1) H locs ls hP hD hS (lv_sub hl [2, 1, 0] rfl) hf
  exact L_7 bs_F p1 p2 (0 : Int32) H locs ls hP hD hS (lv_sub hl [2, 1, 0] rfl) hf
set_option maxHeartbeats 4000000 in
set_option maxRecDepth 100000 in
theorem k_X6_free (l : Launch) (dC : Nat → ClassId) (dI : Nat → Nat → Nat) (cI cZ cS cG : ClassId) (psh : Nat) (rowsh : Nat) (tapeh : Nat) (nowh : Nat) (drafth : Nat) (trialh : Nat) (psq_images : Nat) (actsh : Nat) (sackh : Nat) (asksh : Nat) (ps_latestFault : Int32) (ps_latestFinding : Int32) (p1 : Int32) (p2 : Int32) (p3 : Int32) (out : Int32) (hf : f_X6_free p1 p2 p3 = some out) : bs_C l dC dI cI cZ cS cG yX6_free wsX6_free ({ frames := 1, cells := 0, slots := 0, locals := 25 } : Room) [.ref psh, .int p1, .int p2, .int p3] ([(psh, .inr (6, [.ref rowsh, .ref tapeh, .ref nowh, .ref drafth, .ref trialh, .ref psq_images, .ref actsh, .ref sackh, .ref asksh, .int ps_latestFault, .int ps_latestFinding]))]) out ([(psh, .inr (6, [.ref rowsh, .ref tapeh, .ref nowh, .ref drafth, .ref trialh, .ref psq_images, .ref actsh, .ref sackh, .ref asksh, .int ps_latestFault, .int ps_latestFinding]))]) := by
  refine bs_ofI (cc := cX6_free) (maxL := 8) (by decide) rfl (Nat.le_of_ble_eq_true rfl) ?_
  intro p e s m below meth c A Q hx hb hown hml hts hE H locs hP hD hA hS ls hl hret
  have hK := hE.1
  have hl : lv_has ls 8 [(0, .ref psh), (1, .int p1), (2, .int p2), (3, .int p3)] := hl
  unfold f_X6_free at hf
  refine lv_iload_n hx hb dX6_free_0 rfl (lv_at hl 1 rfl) ?_
  refine lv_iconst (v := 0) hx hb dX6_free_1 (by decide) ?_
  refine lv_bipush (v := 10) hx hb dX6_free_2 (by decide) ?_
  obtain ⟨z1, hz1, hf⟩ := bs_b hf
  refine bs_cSi ⟨hx, hb, hml, hown, hts⟩ (k_X6_isWithin l dC dI cI cZ cS cG p1 (0 : Int32) (10 : Int32) z1 hz1) (va_cwS 3 hts gX6_free_X6_isWithin rfl rfl rfl (by decide +kernel) ⟨Nat.le_of_ble_eq_true rfl, Nat.le_of_ble_eq_true rfl⟩) hE hP hD hA hS rfl rfl hl.1 (Nat.le_of_ble_eq_true rfl) dX6_free_4 (fun H locs hP hS => ?_)
  refine lv_if_eq (tgt := 27) hx hb dX6_free_7 (by decide) (fun c2 => ?_) (fun c2 => ?_)
  · have hf := bs_t hf c2
    refine lv_ldc hx hb hown (hts (.constant RX6 69 (-1000001)) (by decide +kernel)) dX6_free_27 ?_
    obtain rfl := Option.some.inj hf
    exact hret H locs _ _ hP hS rfl dX6_free_29
  · have hf := bs_f hf c2
    refine lv_iload_n hx hb dX6_free_10 rfl (lv_at hl 2 rfl) ?_
    refine lv_iconst (v := 0) hx hb dX6_free_11 (by decide) ?_
    refine lv_bipush (v := 8) hx hb dX6_free_12 (by decide) ?_
    obtain ⟨z3, hz3, hf⟩ := bs_b hf
    refine bs_cSi ⟨hx, hb, hml, hown, hts⟩ (k_X6_isWithin l dC dI cI cZ cS cG p2 (0 : Int32) (8 : Int32) z3 hz3) (va_cwS 3 hts gX6_free_X6_isWithin rfl rfl rfl (by decide +kernel) ⟨Nat.le_of_ble_eq_true rfl, Nat.le_of_ble_eq_true rfl⟩) hE hP hD hA hS rfl rfl hl.1 (Nat.le_of_ble_eq_true rfl) dX6_free_14 (fun H locs hP hS => ?_)
    refine lv_if_eq (tgt := 27) hx hb dX6_free_17 (by decide) (fun c4 => ?_) (fun c4 => ?_)
    · have hf := bs_t hf c4
      refine lv_ldc hx hb hown (hts (.constant RX6 69 (-1000001)) (by decide +kernel)) dX6_free_27 ?_
      obtain rfl := Option.some.inj hf
      exact hret H locs _ _ hP hS rfl dX6_free_29
    · have hf := bs_f hf c4
      refine lv_iload_n hx hb dX6_free_20 rfl (lv_at hl 3 rfl) ?_
      obtain ⟨z5, hz5, hf⟩ := bs_b hf
      refine bs_cSi ⟨hx, hb, hml, hown, hts⟩ (k_X6_isEither l dC dI cI cZ cS cG p3 z5 hz5) (va_cwS 1 hts gX6_free_X6_isEither rfl rfl rfl (by decide +kernel) ⟨Nat.le_of_ble_eq_true rfl, Nat.le_of_ble_eq_true rfl⟩) hE hP hD hA hS rfl rfl hl.1 (Nat.le_of_ble_eq_true rfl) dX6_free_21 (fun H locs hP hS => ?_)
      refine lv_if_ne (tgt := 30) hx hb dX6_free_24 (by decide) (fun c6 => ?_) (fun c6 => ?_)
      · have hf := bs_f hf c6
        refine lv_iconst (v := 1) hx hb dX6_free_30 (by decide) ?_
        refine lv_istore (lv' := [(4, .int 1), (0, .ref psh), (1, .int p1), (2, .int p2), (3, .int p3)]) hx hb dX6_free_31 hl (by decide) rfl (fun ls hl => ?_)
        refine lv_iconst (v := 1) hx hb dX6_free_33 (by decide) ?_
        refine lv_istore (lv' := [(5, .int 1), (4, .int 1), (0, .ref psh), (1, .int p1), (2, .int p2), (3, .int p3)]) hx hb dX6_free_34 hl (by decide) rfl (fun ls hl => ?_)
        refine lv_iconst (v := 0) hx hb dX6_free_36 (by decide) ?_
        refine lv_istore (lv' := [(6, .int 0), (5, .int 1), (4, .int 1), (0, .ref psh), (1, .int p1), (2, .int p2), (3, .int p3)]) hx hb dX6_free_37 hl (by decide) rfl (fun ls hl => ?_)
        have L_39 : ∀ (fuel : Nat) (x4_39 : Int32) (x5_39 : Int32) (x6_39 : Int32) (H : Heap) (locs : List Loc) (ls : Array Slot), va_P (dC, dI) vwCl ([(psh, .inr (6, [.ref rowsh, .ref tapeh, .ref nowh, .ref drafth, .ref trialh, .ref psq_images, .ref actsh, .ref sackh, .ref asksh, .int ps_latestFault, .int ps_latestFinding]))]) H → va_D A ([(psh, .inr (6, [.ref rowsh, .ref tapeh, .ref nowh, .ref drafth, .ref trialh, .ref psq_images, .ref actsh, .ref sackh, .ref asksh, .int ps_latestFault, .int ps_latestFinding]))]) → va_S A s.heap H locs → lv_has ls 8 [(1, .int p1), (2, .int p2), (3, .int p3), (4, .int x4_39), (5, .int x5_39), (6, .int x6_39)] → f_X6_free_L39 p1 p2 p3 fuel x4_39 x5_39 x6_39 = some out → W p l e ({ frames := 1, cells := 0, slots := 0, locals := 25 } : Room) s m ([.ref psh, .int p1, .int p2, .int p3] : List Value).toArray below meth c H locs 0 0 Q (F0 m 39 ls []) := by
          intro fuel
          induction fuel with
          | zero =>
            intro x4_39 x5_39 x6_39 H locs ls hP hD hS hl hf
            cases (show (none : Option (Int32)) = some out from hf)
          | succ n_39 ih_39 =>
            intro x4_39 x5_39 x6_39 H locs ls hP hD hS hl hf
            have hf := (f_X6_free_L39_s p1 p2 p3 n_39 x4_39 x5_39 x6_39).symm.trans hf
            refine lv_iload hx hb dX6_free_39 (lv_at hl 5 rfl) ?_
            refine lv_iload_n hx hb dX6_free_41 rfl (lv_at hl 1 rfl) ?_
            refine lv_icmp_ge (tgt := 64) hx hb dX6_free_42 (by decide) (fun c7 => ?_) (fun c7 => ?_)
            · have hf := bs_t hf c7
              refine lv_iload hx hb dX6_free_64 (lv_at hl 3 rfl) ?_
              refine lv_iload hx hb dX6_free_66 (lv_at hl 3 rfl) ?_
              refine lv_iload hx hb dX6_free_68 (lv_at hl 4 rfl) ?_
              refine lv_isub hx hb dX6_free_70 ?_
              obtain ⟨z8, hz8, hf⟩ := bs_b hf
              refine bs_cSi ⟨hx, hb, hml, hown, hts⟩ (k_X6_commonDivisor l dC dI cI cZ cS cG x4_39 (x4_39 - x5_39) z8 hz8) (va_cwS 2 hts gX6_free_X6_commonDivisor rfl rfl rfl (by decide +kernel) ⟨Nat.le_of_ble_eq_true rfl, Nat.le_of_ble_eq_true rfl⟩) hE hP hD hA hS rfl rfl hl.1 (Nat.le_of_ble_eq_true rfl) dX6_free_71 (fun H locs hP hS => ?_)
              refine lv_istore (lv' := [(6, .int z8), (1, .int p1), (2, .int p2), (3, .int p3), (4, .int x4_39), (5, .int x5_39)]) hx hb dX6_free_74 hl (by decide) rfl (fun ls hl => ?_)
              refine lv_iload_n hx hb dX6_free_76 rfl (lv_at hl 3 rfl) ?_
              refine lv_if_ne (tgt := 88) hx hb dX6_free_77 (by decide) (fun c9 => ?_) (fun c9 => ?_)
              · have hf := bs_f hf c9
                refine lv_iload hx hb dX6_free_88 (lv_at hl 4 rfl) ?_
                refine lv_istore (lv' := [(7, .int x4_39), (6, .int z8), (1, .int p1), (2, .int p2), (3, .int p3), (4, .int x4_39), (5, .int x5_39)]) hx hb dX6_free_90 hl (by decide) rfl (fun ls hl => ?_)
                refine lv_iload hx hb dX6_free_92 (lv_at hl 1 rfl) ?_
                refine lv_iconst (v := 1) hx hb dX6_free_94 (by decide) ?_
                refine lv_icmp_ge (tgt := 103) hx hb dX6_free_95 (by decide) (fun c10 => ?_) (fun c10 => ?_)
                · have hf := bs_t hf c10
                  refine lv_iload hx hb dX6_free_103 (lv_at hl 0 rfl) ?_
                  refine lv_iload hx hb dX6_free_105 (lv_at hl 1 rfl) ?_
                  obtain ⟨g11, hf⟩ := bs_g hf
                  refine lv_idiv hx hb dX6_free_107 g11 ?_
                  obtain rfl := Option.some.inj hf
                  exact hret H locs _ _ hP hS rfl dX6_free_108
                · have hf := bs_f hf c10
                  refine lv_iload hx hb dX6_free_98 (lv_at hl 0 rfl) ?_
                  refine lv_goto (tgt := 108) hx hb dX6_free_100 (by decide) ?_
                  obtain rfl := Option.some.inj hf
                  exact hret H locs _ _ hP hS rfl dX6_free_108
              · have hf := bs_t hf c9
                refine lv_iload hx hb dX6_free_80 (lv_at hl 4 rfl) ?_
                refine lv_iload hx hb dX6_free_82 (lv_at hl 5 rfl) ?_
                refine lv_isub hx hb dX6_free_84 ?_
                refine lv_goto (tgt := 90) hx hb dX6_free_85 (by decide) ?_
                refine lv_istore (lv' := [(7, .int (x4_39 - x5_39)), (6, .int z8), (1, .int p1), (2, .int p2), (3, .int p3), (4, .int x4_39), (5, .int x5_39)]) hx hb dX6_free_90 hl (by decide) rfl (fun ls hl => ?_)
                refine lv_iload hx hb dX6_free_92 (lv_at hl 1 rfl) ?_
                refine lv_iconst (v := 1) hx hb dX6_free_94 (by decide) ?_
                refine lv_icmp_ge (tgt := 103) hx hb dX6_free_95 (by decide) (fun c12 => ?_) (fun c12 => ?_)
                · have hf := bs_t hf c12
                  refine lv_iload hx hb dX6_free_103 (lv_at hl 0 rfl) ?_
                  refine lv_iload hx hb dX6_free_105 (lv_at hl 1 rfl) ?_
                  obtain ⟨g13, hf⟩ := bs_g hf
                  refine lv_idiv hx hb dX6_free_107 g13 ?_
                  obtain rfl := Option.some.inj hf
                  exact hret H locs _ _ hP hS rfl dX6_free_108
                · have hf := bs_f hf c12
                  refine lv_iload hx hb dX6_free_98 (lv_at hl 0 rfl) ?_
                  refine lv_goto (tgt := 108) hx hb dX6_free_100 (by decide) ?_
                  obtain rfl := Option.some.inj hf
                  exact hret H locs _ _ hP hS rfl dX6_free_108
            · have hf := bs_f hf c7
              refine lv_iload hx hb dX6_free_45 (lv_at hl 3 rfl) ?_
              refine lv_bipush (v := 10) hx hb dX6_free_47 (by decide) ?_
              refine lv_imul hx hb dX6_free_49 ?_
              refine lv_istore (lv' := [(4, .int (x4_39 * 10)), (1, .int p1), (2, .int p2), (3, .int p3), (5, .int x5_39), (6, .int x6_39)]) hx hb dX6_free_50 hl (by decide) rfl (fun ls hl => ?_)
              refine lv_iload hx hb dX6_free_52 (lv_at hl 4 rfl) ?_
              refine lv_iload_n hx hb dX6_free_54 rfl (lv_at hl 1 rfl) ?_
              refine lv_imul hx hb dX6_free_55 ?_
              refine lv_istore (lv' := [(5, .int (x5_39 * p1)), (4, .int (x4_39 * 10)), (1, .int p1), (2, .int p2), (3, .int p3), (6, .int x6_39)]) hx hb dX6_free_56 hl (by decide) rfl (fun ls hl => ?_)
              refine lv_iinc (v := x6_39 + 1) (lv' := [(6, .int (x6_39 + 1)), (5, .int (x5_39 * p1)), (4, .int (x4_39 * 10)), (1, .int p1), (2, .int p2), (3, .int p3)]) hx hb dX6_free_58 hl (k := 5) rfl rfl (by decide) rfl (fun ls hl => ?_)
              refine lv_goto (tgt := 39) hx hb dX6_free_61 (by decide) ?_
              exact ih_39 (x4_39 * 10) (x5_39 * p1) (x6_39 + 1) H locs ls hP hD hS (lv_sub hl [3, 4, 5, 2, 1, 0] rfl) hf
        exact L_39 bs_F (1 : Int32) (1 : Int32) (0 : Int32) H locs ls hP hD hS (lv_sub hl [4, 5, 6, 2, 1, 0] rfl) hf
      · have hf := bs_t hf c6
        refine lv_ldc hx hb hown (hts (.constant RX6 69 (-1000001)) (by decide +kernel)) dX6_free_27 ?_
        obtain rfl := Option.some.inj hf
        exact hret H locs _ _ hP hS rfl dX6_free_29
set_option maxHeartbeats 4000000 in
set_option maxRecDepth 100000 in
theorem k_X6_isImage (l : Launch) (dC : Nat → ClassId) (dI : Nat → Nat → Nat) (cI cZ cS cG : ClassId) (p1 : Int32) (out : Int32) (hf : f_X6_isImage p1 = some out) : bs_C l dC dI cI cZ cS cG yX6_isImage wsX6_isImage ({ frames := 1, cells := 0, slots := 0, locals := 22 } : Room) [.int p1] ([]) out ([]) := by
  refine bs_ofI (cc := cX6_isImage) (maxL := 1) (by decide) rfl (Nat.le_of_ble_eq_true rfl) ?_
  intro p e s m below meth c A Q hx hb hown hml hts hE H locs hP hD hA hS ls hl hret
  have hK := hE.1
  have hl : lv_has ls 1 [(0, .int p1)] := hl
  unfold f_X6_isImage at hf
  refine lv_iload_n hx hb dX6_isImage_0 rfl (lv_at hl 0 rfl) ?_
  refine lv_iconst (v := 0) hx hb dX6_isImage_1 (by decide) ?_
  refine lv_iconst (v := 1) hx hb dX6_isImage_2 (by decide) ?_
  obtain ⟨z1, hz1, hf⟩ := bs_b hf
  refine bs_cSi ⟨hx, hb, hml, hown, hts⟩ (k_X6_isWithin l dC dI cI cZ cS cG p1 (0 : Int32) (1 : Int32) z1 hz1) (va_cwS 3 hts gX6_isImage_X6_isWithin rfl rfl rfl (by decide +kernel) ⟨Nat.le_of_ble_eq_true rfl, Nat.le_of_ble_eq_true rfl⟩) hE hP hD hA hS rfl rfl hl.1 (Nat.le_of_ble_eq_true rfl) dX6_isImage_3 (fun H locs hP hS => ?_)
  obtain ⟨g2, hf⟩ := bs_g hf
  obtain rfl := Option.some.inj hf
  exact hret H locs _ _ hP hS (bs_nz g2) dX6_isImage_6
set_option maxHeartbeats 4000000 in
set_option maxRecDepth 100000 in
theorem k_X6_image (l : Launch) (dC : Nat → ClassId) (dI : Nat → Nat → Nat) (cI cZ cS cG : ClassId) (psh : Nat) (rowsh : Nat) (tapeh : Nat) (nowh : Nat) (drafth : Nat) (trialh : Nat) (psq_images : Nat) (actsh : Nat) (sackh : Nat) (asksh : Nat) (nowq_keeping : Nat) (nowq_giverOf : Nat) (nowq_deedOf : Nat) (nowq_dayOf : Nat) (nowq_likelyOf : Nat) (nowq_kindOf : Nat) (nowq_settledOf : Nat) (im0h : Nat) (im0q_keeping : Nat) (im0q_giverOf : Nat) (im0q_deedOf : Nat) (im0q_dayOf : Nat) (im0q_likelyOf : Nat) (im0q_kindOf : Nat) (im0q_settledOf : Nat) (im1h : Nat) (im1q_keeping : Nat) (im1q_giverOf : Nat) (im1q_deedOf : Nat) (im1q_dayOf : Nat) (im1q_likelyOf : Nat) (im1q_kindOf : Nat) (im1q_settledOf : Nat) (ps_latestFault : Int32) (ps_latestFinding : Int32) (now_told : Int32) (now_wax : Int32) (now_stick : Int32) (now_givers : Int32) (now_promises : Int32) (now_pan : Int32) (now_keeping : Nat → Int32) (now_giverOf : Nat → Int32) (now_deedOf : Nat → Int32) (now_dayOf : Nat → Int32) (now_likelyOf : Nat → Int32) (now_kindOf : Nat → Int32) (now_settledOf : Nat → Int32) (im0_told : Int32) (im0_wax : Int32) (im0_stick : Int32) (im0_givers : Int32) (im0_promises : Int32) (im0_pan : Int32) (im0_keeping : Nat → Int32) (im0_giverOf : Nat → Int32) (im0_deedOf : Nat → Int32) (im0_dayOf : Nat → Int32) (im0_likelyOf : Nat → Int32) (im0_kindOf : Nat → Int32) (im0_settledOf : Nat → Int32) (im1_told : Int32) (im1_wax : Int32) (im1_stick : Int32) (im1_givers : Int32) (im1_promises : Int32) (im1_pan : Int32) (im1_keeping : Nat → Int32) (im1_giverOf : Nat → Int32) (im1_deedOf : Nat → Int32) (im1_dayOf : Nat → Int32) (im1_likelyOf : Nat → Int32) (im1_kindOf : Nat → Int32) (im1_settledOf : Nat → Int32) (p1 : Int32) (out : Int32 × Int32 × Int32 × Int32 × Int32 × Int32 × Int32 × (Nat → Int32) × (Nat → Int32) × (Nat → Int32) × (Nat → Int32) × (Nat → Int32) × (Nat → Int32) × (Nat → Int32) × Int32 × Int32 × Int32 × Int32 × Int32 × Int32 × (Nat → Int32) × (Nat → Int32) × (Nat → Int32) × (Nat → Int32) × (Nat → Int32) × (Nat → Int32) × (Nat → Int32)) (hf : f_X6_image now_told now_wax now_stick now_givers now_promises now_pan now_keeping now_giverOf now_deedOf now_dayOf now_likelyOf now_kindOf now_settledOf im0_told im0_wax im0_stick im0_givers im0_promises im0_pan im0_keeping im0_giverOf im0_deedOf im0_dayOf im0_likelyOf im0_kindOf im0_settledOf im1_told im1_wax im1_stick im1_givers im1_promises im1_pan im1_keeping im1_giverOf im1_deedOf im1_dayOf im1_likelyOf im1_kindOf im1_settledOf p1 = some out) : bs_C l dC dI cI cZ cS cG yX6_image wsX6_image ({ frames := 2, cells := 0, slots := 0, locals := 42 } : Room) [.ref psh, .int p1] ([(psh, .inr (6, [.ref rowsh, .ref tapeh, .ref nowh, .ref drafth, .ref trialh, .ref psq_images, .ref actsh, .ref sackh, .ref asksh, .int ps_latestFault, .int ps_latestFinding])), (psq_images, .inl (cS, 2, .inr (.inr (.inr (.inr (fun j : Nat => if j = 0 then some im0h else some im1h)))))), (nowh, .inr (4, [.int now_told, .int now_wax, .int now_stick, .int now_givers, .int now_promises, .int now_pan, .ref nowq_keeping, .ref nowq_giverOf, .ref nowq_deedOf, .ref nowq_dayOf, .ref nowq_likelyOf, .ref nowq_kindOf, .ref nowq_settledOf])), (nowq_keeping, .inl (cI, 4, .inl now_keeping)), (nowq_giverOf, .inl (cI, 8, .inl now_giverOf)), (nowq_deedOf, .inl (cI, 8, .inl now_deedOf)), (nowq_dayOf, .inl (cI, 8, .inl now_dayOf)), (nowq_likelyOf, .inl (cI, 8, .inl now_likelyOf)), (nowq_kindOf, .inl (cI, 8, .inl now_kindOf)), (nowq_settledOf, .inl (cI, 8, .inl now_settledOf)), (im0h, .inr (4, [.int im0_told, .int im0_wax, .int im0_stick, .int im0_givers, .int im0_promises, .int im0_pan, .ref im0q_keeping, .ref im0q_giverOf, .ref im0q_deedOf, .ref im0q_dayOf, .ref im0q_likelyOf, .ref im0q_kindOf, .ref im0q_settledOf])), (im0q_keeping, .inl (cI, 4, .inl im0_keeping)), (im0q_giverOf, .inl (cI, 8, .inl im0_giverOf)), (im0q_deedOf, .inl (cI, 8, .inl im0_deedOf)), (im0q_dayOf, .inl (cI, 8, .inl im0_dayOf)), (im0q_likelyOf, .inl (cI, 8, .inl im0_likelyOf)), (im0q_kindOf, .inl (cI, 8, .inl im0_kindOf)), (im0q_settledOf, .inl (cI, 8, .inl im0_settledOf)), (im1h, .inr (4, [.int im1_told, .int im1_wax, .int im1_stick, .int im1_givers, .int im1_promises, .int im1_pan, .ref im1q_keeping, .ref im1q_giverOf, .ref im1q_deedOf, .ref im1q_dayOf, .ref im1q_likelyOf, .ref im1q_kindOf, .ref im1q_settledOf])), (im1q_keeping, .inl (cI, 4, .inl im1_keeping)), (im1q_giverOf, .inl (cI, 8, .inl im1_giverOf)), (im1q_deedOf, .inl (cI, 8, .inl im1_deedOf)), (im1q_dayOf, .inl (cI, 8, .inl im1_dayOf)), (im1q_likelyOf, .inl (cI, 8, .inl im1_likelyOf)), (im1q_kindOf, .inl (cI, 8, .inl im1_kindOf)), (im1q_settledOf, .inl (cI, 8, .inl im1_settledOf))]) out.1 ([(psh, .inr (6, [.ref rowsh, .ref tapeh, .ref nowh, .ref drafth, .ref trialh, .ref psq_images, .ref actsh, .ref sackh, .ref asksh, .int ps_latestFault, .int ps_latestFinding])), (psq_images, .inl (cS, 2, .inr (.inr (.inr (.inr (fun j : Nat => if j = 0 then some im0h else some im1h)))))), (nowh, .inr (4, [.int now_told, .int now_wax, .int now_stick, .int now_givers, .int now_promises, .int now_pan, .ref nowq_keeping, .ref nowq_giverOf, .ref nowq_deedOf, .ref nowq_dayOf, .ref nowq_likelyOf, .ref nowq_kindOf, .ref nowq_settledOf])), (nowq_keeping, .inl (cI, 4, .inl now_keeping)), (nowq_giverOf, .inl (cI, 8, .inl now_giverOf)), (nowq_deedOf, .inl (cI, 8, .inl now_deedOf)), (nowq_dayOf, .inl (cI, 8, .inl now_dayOf)), (nowq_likelyOf, .inl (cI, 8, .inl now_likelyOf)), (nowq_kindOf, .inl (cI, 8, .inl now_kindOf)), (nowq_settledOf, .inl (cI, 8, .inl now_settledOf)), (im0h, .inr (4, [.int out.2.1, .int out.2.2.1, .int out.2.2.2.1, .int out.2.2.2.2.1, .int out.2.2.2.2.2.1, .int out.2.2.2.2.2.2.1, .ref im0q_keeping, .ref im0q_giverOf, .ref im0q_deedOf, .ref im0q_dayOf, .ref im0q_likelyOf, .ref im0q_kindOf, .ref im0q_settledOf])), (im0q_keeping, .inl (cI, 4, .inl out.2.2.2.2.2.2.2.1)), (im0q_giverOf, .inl (cI, 8, .inl out.2.2.2.2.2.2.2.2.1)), (im0q_deedOf, .inl (cI, 8, .inl out.2.2.2.2.2.2.2.2.2.1)), (im0q_dayOf, .inl (cI, 8, .inl out.2.2.2.2.2.2.2.2.2.2.1)), (im0q_likelyOf, .inl (cI, 8, .inl out.2.2.2.2.2.2.2.2.2.2.2.1)), (im0q_kindOf, .inl (cI, 8, .inl out.2.2.2.2.2.2.2.2.2.2.2.2.1)), (im0q_settledOf, .inl (cI, 8, .inl out.2.2.2.2.2.2.2.2.2.2.2.2.2.1)), (im1h, .inr (4, [.int out.2.2.2.2.2.2.2.2.2.2.2.2.2.2.1, .int out.2.2.2.2.2.2.2.2.2.2.2.2.2.2.2.1, .int out.2.2.2.2.2.2.2.2.2.2.2.2.2.2.2.2.1, .int out.2.2.2.2.2.2.2.2.2.2.2.2.2.2.2.2.2.1, .int out.2.2.2.2.2.2.2.2.2.2.2.2.2.2.2.2.2.2.1, .int out.2.2.2.2.2.2.2.2.2.2.2.2.2.2.2.2.2.2.2.1, .ref im1q_keeping, .ref im1q_giverOf, .ref im1q_deedOf, .ref im1q_dayOf, .ref im1q_likelyOf, .ref im1q_kindOf, .ref im1q_settledOf])), (im1q_keeping, .inl (cI, 4, .inl out.2.2.2.2.2.2.2.2.2.2.2.2.2.2.2.2.2.2.2.2.1)), (im1q_giverOf, .inl (cI, 8, .inl out.2.2.2.2.2.2.2.2.2.2.2.2.2.2.2.2.2.2.2.2.2.1)), (im1q_deedOf, .inl (cI, 8, .inl out.2.2.2.2.2.2.2.2.2.2.2.2.2.2.2.2.2.2.2.2.2.2.1)), (im1q_dayOf, .inl (cI, 8, .inl out.2.2.2.2.2.2.2.2.2.2.2.2.2.2.2.2.2.2.2.2.2.2.2.1)), (im1q_likelyOf, .inl (cI, 8, .inl out.2.2.2.2.2.2.2.2.2.2.2.2.2.2.2.2.2.2.2.2.2.2.2.2.1)), (im1q_kindOf, .inl (cI, 8, .inl out.2.2.2.2.2.2.2.2.2.2.2.2.2.2.2.2.2.2.2.2.2.2.2.2.2.1)), (im1q_settledOf, .inl (cI, 8, .inl out.2.2.2.2.2.2.2.2.2.2.2.2.2.2.2.2.2.2.2.2.2.2.2.2.2.2))]) := by
  refine bs_ofI (cc := cX6_image) (maxL := 2) (by decide) rfl (Nat.le_of_ble_eq_true rfl) ?_
  intro p e s m below meth c A Q hx hb hown hml hts hE H locs hP hD hA hS ls hl hret
  have hK := hE.1
  have hl : lv_has ls 2 [(0, .ref psh), (1, .int p1)] := hl
  have hin4 : ∀ w ∈ u_ws RX4 TX4 13, w ∈ wsX6_image := by decide +kernel
  have hin6 : ∀ w ∈ u_ws RX6 TX6 11, w ∈ wsX6_image := by decide +kernel
  have k26 := hts (.fieldLink RX6 26 "PromiseScales" "now" "LPromiseScales$Scales;") (by decide +kernel)
  have k36 := hts (.fieldLink RX6 36 "PromiseScales" "images" "[LPromiseScales$Scales;") (by decide +kernel)
  have k171 := hts (.fieldLink RX6 171 "PromiseScales$Scales" "told" "Z") (by decide +kernel)
  unfold f_X6_image at hf
  refine lv_iload_n hx hb dX6_image_0 rfl (lv_at hl 1 rfl) ?_
  obtain ⟨z1, hz1, hf⟩ := bs_b hf
  refine bs_cSi ⟨hx, hb, hml, hown, hts⟩ (k_X6_isImage l dC dI cI cZ cS cG p1 z1 hz1) (va_cwS 1 hts gX6_image_X6_isImage rfl rfl rfl (by decide +kernel) ⟨Nat.le_of_ble_eq_true rfl, Nat.le_of_ble_eq_true rfl⟩) hE hP hD hA hS rfl rfl hl.1 (Nat.le_of_ble_eq_true rfl) dX6_image_1 (fun H locs hP hS => ?_)
  refine lv_if_ne (tgt := 10) hx hb dX6_image_4 (by decide) (fun c2 => ?_) (fun c2 => ?_)
  · have hf := bs_f hf c2
    refine lv_aload_n hx hb dX6_image_10 rfl (lv_at hl 0 rfl) ?_
    refine va_get (D := (dC, dI)) (ci := 6) (v := .ref nowh) (C := RX6) (T := TX6) (N := 11) hx hb hts hin6 hown hK hP 0 rfl rfl 2 (by decide) k26 (fun _ h9 => h9) rfl dX6_image_11 ?_
    refine va_get (D := (dC, dI)) (ci := 4) (v := .int now_told) (C := RX4) (T := TX4) (N := 13) hx hb hts hin4 hown hK hP 2 rfl rfl 0 (by decide) k171 (fun _ h9 => h9) rfl dX6_image_14 ?_
    refine lv_if_ne (tgt := 23) hx hb dX6_image_17 (by decide) (fun c3 => ?_) (fun c3 => ?_)
    · have hf := bs_f hf c3
      refine lv_aload_n hx hb dX6_image_23 rfl (lv_at hl 0 rfl) ?_
      refine va_get (D := (dC, dI)) (ci := 6) (v := .ref psq_images) (C := RX6) (T := TX6) (N := 11) hx hb hts hin6 hown hK hP 0 rfl rfl 5 (by decide) k36 (fun _ h9 => h9) rfl dX6_image_24 ?_
      refine lv_iload_n hx hb dX6_image_27 rfl (lv_at hl 1 rfl) ?_
      obtain ⟨g4, hf⟩ := bs_g hf
      refine va_aldq hx hb hK hP 1 2 rfl rfl (bs_inV g4) dX6_image_28 ?_
      by_cases c5 : p1.toNatClampNeg = 0
      · have hf := bs_t hf c5
        refine bs_topq (a := im0h) (bs_im0 c5) ?_
        refine lv_aload_n hx hb dX6_image_29 rfl (lv_at hl 0 rfl) ?_
        refine va_get (D := (dC, dI)) (ci := 6) (v := .ref nowh) (C := RX6) (T := TX6) (N := 11) hx hb hts hin6 hown hK hP 0 rfl rfl 2 (by decide) k26 (fun _ h9 => h9) rfl dX6_image_30 ?_
        obtain ⟨z6, hz6, hf⟩ := bs_b hf
        refine bs_cVv (ws1 := [(psh, .inr (6, [.ref rowsh, .ref tapeh, .ref nowh, .ref drafth, .ref trialh, .ref psq_images, .ref actsh, .ref sackh, .ref asksh, .int ps_latestFault, .int ps_latestFinding])), (psq_images, .inl (cS, 2, .inr (.inr (.inr (.inr (fun j : Nat => if j = 0 then some im0h else some im1h)))))), (nowh, .inr (4, [.int now_told, .int now_wax, .int now_stick, .int now_givers, .int now_promises, .int now_pan, .ref nowq_keeping, .ref nowq_giverOf, .ref nowq_deedOf, .ref nowq_dayOf, .ref nowq_likelyOf, .ref nowq_kindOf, .ref nowq_settledOf])), (nowq_keeping, .inl (cI, 4, .inl now_keeping)), (nowq_giverOf, .inl (cI, 8, .inl now_giverOf)), (nowq_deedOf, .inl (cI, 8, .inl now_deedOf)), (nowq_dayOf, .inl (cI, 8, .inl now_dayOf)), (nowq_likelyOf, .inl (cI, 8, .inl now_likelyOf)), (nowq_kindOf, .inl (cI, 8, .inl now_kindOf)), (nowq_settledOf, .inl (cI, 8, .inl now_settledOf)), (im0h, .inr (4, [.int z6.1, .int z6.2.1, .int z6.2.2.1, .int z6.2.2.2.1, .int z6.2.2.2.2.1, .int z6.2.2.2.2.2.1, .ref im0q_keeping, .ref im0q_giverOf, .ref im0q_deedOf, .ref im0q_dayOf, .ref im0q_likelyOf, .ref im0q_kindOf, .ref im0q_settledOf])), (im0q_keeping, .inl (cI, 4, .inl z6.2.2.2.2.2.2.1)), (im0q_giverOf, .inl (cI, 8, .inl z6.2.2.2.2.2.2.2.1)), (im0q_deedOf, .inl (cI, 8, .inl z6.2.2.2.2.2.2.2.2.1)), (im0q_dayOf, .inl (cI, 8, .inl z6.2.2.2.2.2.2.2.2.2.1)), (im0q_likelyOf, .inl (cI, 8, .inl z6.2.2.2.2.2.2.2.2.2.2.1)), (im0q_kindOf, .inl (cI, 8, .inl z6.2.2.2.2.2.2.2.2.2.2.2.1)), (im0q_settledOf, .inl (cI, 8, .inl z6.2.2.2.2.2.2.2.2.2.2.2.2)), (im1h, .inr (4, [.int im1_told, .int im1_wax, .int im1_stick, .int im1_givers, .int im1_promises, .int im1_pan, .ref im1q_keeping, .ref im1q_giverOf, .ref im1q_deedOf, .ref im1q_dayOf, .ref im1q_likelyOf, .ref im1q_kindOf, .ref im1q_settledOf])), (im1q_keeping, .inl (cI, 4, .inl im1_keeping)), (im1q_giverOf, .inl (cI, 8, .inl im1_giverOf)), (im1q_deedOf, .inl (cI, 8, .inl im1_deedOf)), (im1q_dayOf, .inl (cI, 8, .inl im1_dayOf)), (im1q_likelyOf, .inl (cI, 8, .inl im1_likelyOf)), (im1q_kindOf, .inl (cI, 8, .inl im1_kindOf)), (im1q_settledOf, .inl (cI, 8, .inl im1_settledOf))]) ⟨hx, hb, hml, hown, hts⟩ (k_X4_become l dC dI cI cZ cS cG im0h im0q_keeping im0q_giverOf im0q_deedOf im0q_dayOf im0q_likelyOf im0q_kindOf im0q_settledOf nowh nowq_keeping nowq_giverOf nowq_deedOf nowq_dayOf nowq_likelyOf nowq_kindOf nowq_settledOf im0_told im0_wax im0_stick im0_givers im0_promises im0_pan im0_keeping im0_giverOf im0_deedOf im0_dayOf im0_likelyOf im0_kindOf im0_settledOf now_told now_wax now_stick now_givers now_promises now_pan now_keeping now_giverOf now_deedOf now_dayOf now_likelyOf now_kindOf now_settledOf z6 hz6) (cwV 1 hts gX6_image_X4_become rfl rfl rfl (by decide +kernel) ⟨Nat.le_of_ble_eq_true rfl, Nat.le_of_ble_eq_true rfl⟩) hE hP hD hA hS [10, 11, 12, 13, 14, 15, 16, 17, 2, 3, 4, 5, 6, 7, 8, 9] rfl rfl 4 0 rfl rfl rfl rfl rfl rfl rfl hl.1 (Nat.le_of_ble_eq_true rfl) dX6_image_33 (fun H locs hP hD hS => ?_)
        refine lv_iconst (v := 1) hx hb dX6_image_36 (by decide) ?_
        obtain rfl := Option.some.inj hf
        exact hret H locs _ _ hP hS rfl dX6_image_37
      · have hf := bs_f hf c5
        refine bs_topq (a := im1h) (bs_im1 c5) ?_
        refine lv_aload_n hx hb dX6_image_29 rfl (lv_at hl 0 rfl) ?_
        refine va_get (D := (dC, dI)) (ci := 6) (v := .ref nowh) (C := RX6) (T := TX6) (N := 11) hx hb hts hin6 hown hK hP 0 rfl rfl 2 (by decide) k26 (fun _ h9 => h9) rfl dX6_image_30 ?_
        obtain ⟨z7, hz7, hf⟩ := bs_b hf
        refine bs_cVv (ws1 := [(psh, .inr (6, [.ref rowsh, .ref tapeh, .ref nowh, .ref drafth, .ref trialh, .ref psq_images, .ref actsh, .ref sackh, .ref asksh, .int ps_latestFault, .int ps_latestFinding])), (psq_images, .inl (cS, 2, .inr (.inr (.inr (.inr (fun j : Nat => if j = 0 then some im0h else some im1h)))))), (nowh, .inr (4, [.int now_told, .int now_wax, .int now_stick, .int now_givers, .int now_promises, .int now_pan, .ref nowq_keeping, .ref nowq_giverOf, .ref nowq_deedOf, .ref nowq_dayOf, .ref nowq_likelyOf, .ref nowq_kindOf, .ref nowq_settledOf])), (nowq_keeping, .inl (cI, 4, .inl now_keeping)), (nowq_giverOf, .inl (cI, 8, .inl now_giverOf)), (nowq_deedOf, .inl (cI, 8, .inl now_deedOf)), (nowq_dayOf, .inl (cI, 8, .inl now_dayOf)), (nowq_likelyOf, .inl (cI, 8, .inl now_likelyOf)), (nowq_kindOf, .inl (cI, 8, .inl now_kindOf)), (nowq_settledOf, .inl (cI, 8, .inl now_settledOf)), (im0h, .inr (4, [.int im0_told, .int im0_wax, .int im0_stick, .int im0_givers, .int im0_promises, .int im0_pan, .ref im0q_keeping, .ref im0q_giverOf, .ref im0q_deedOf, .ref im0q_dayOf, .ref im0q_likelyOf, .ref im0q_kindOf, .ref im0q_settledOf])), (im0q_keeping, .inl (cI, 4, .inl im0_keeping)), (im0q_giverOf, .inl (cI, 8, .inl im0_giverOf)), (im0q_deedOf, .inl (cI, 8, .inl im0_deedOf)), (im0q_dayOf, .inl (cI, 8, .inl im0_dayOf)), (im0q_likelyOf, .inl (cI, 8, .inl im0_likelyOf)), (im0q_kindOf, .inl (cI, 8, .inl im0_kindOf)), (im0q_settledOf, .inl (cI, 8, .inl im0_settledOf)), (im1h, .inr (4, [.int z7.1, .int z7.2.1, .int z7.2.2.1, .int z7.2.2.2.1, .int z7.2.2.2.2.1, .int z7.2.2.2.2.2.1, .ref im1q_keeping, .ref im1q_giverOf, .ref im1q_deedOf, .ref im1q_dayOf, .ref im1q_likelyOf, .ref im1q_kindOf, .ref im1q_settledOf])), (im1q_keeping, .inl (cI, 4, .inl z7.2.2.2.2.2.2.1)), (im1q_giverOf, .inl (cI, 8, .inl z7.2.2.2.2.2.2.2.1)), (im1q_deedOf, .inl (cI, 8, .inl z7.2.2.2.2.2.2.2.2.1)), (im1q_dayOf, .inl (cI, 8, .inl z7.2.2.2.2.2.2.2.2.2.1)), (im1q_likelyOf, .inl (cI, 8, .inl z7.2.2.2.2.2.2.2.2.2.2.1)), (im1q_kindOf, .inl (cI, 8, .inl z7.2.2.2.2.2.2.2.2.2.2.2.1)), (im1q_settledOf, .inl (cI, 8, .inl z7.2.2.2.2.2.2.2.2.2.2.2.2))]) ⟨hx, hb, hml, hown, hts⟩ (k_X4_become l dC dI cI cZ cS cG im1h im1q_keeping im1q_giverOf im1q_deedOf im1q_dayOf im1q_likelyOf im1q_kindOf im1q_settledOf nowh nowq_keeping nowq_giverOf nowq_deedOf nowq_dayOf nowq_likelyOf nowq_kindOf nowq_settledOf im1_told im1_wax im1_stick im1_givers im1_promises im1_pan im1_keeping im1_giverOf im1_deedOf im1_dayOf im1_likelyOf im1_kindOf im1_settledOf now_told now_wax now_stick now_givers now_promises now_pan now_keeping now_giverOf now_deedOf now_dayOf now_likelyOf now_kindOf now_settledOf z7 hz7) (cwV 1 hts gX6_image_X4_become rfl rfl rfl (by decide +kernel) ⟨Nat.le_of_ble_eq_true rfl, Nat.le_of_ble_eq_true rfl⟩) hE hP hD hA hS [18, 19, 20, 21, 22, 23, 24, 25, 2, 3, 4, 5, 6, 7, 8, 9] rfl rfl 4 0 rfl rfl rfl rfl rfl rfl rfl hl.1 (Nat.le_of_ble_eq_true rfl) dX6_image_33 (fun H locs hP hD hS => ?_)
        refine lv_iconst (v := 1) hx hb dX6_image_36 (by decide) ?_
        obtain rfl := Option.some.inj hf
        exact hret H locs _ _ hP hS rfl dX6_image_37
    · have hf := bs_t hf c3
      refine lv_ldc hx hb hown (hts (.constant RX6 145 (-1000002)) (by decide +kernel)) dX6_image_20 ?_
      obtain rfl := Option.some.inj hf
      exact hret H locs _ _ hP hS rfl dX6_image_22
  · have hf := bs_t hf c2
    refine lv_ldc hx hb hown (hts (.constant RX6 69 (-1000001)) (by decide +kernel)) dX6_image_7 ?_
    obtain rfl := Option.some.inj hf
    exact hret H locs _ _ hP hS rfl dX6_image_9
set_option maxHeartbeats 4000000 in
set_option maxRecDepth 100000 in
theorem k_X6_restore (l : Launch) (dC : Nat → ClassId) (dI : Nat → Nat → Nat) (cI cZ cS cG : ClassId) (psh : Nat) (rowsh : Nat) (tapeh : Nat) (nowh : Nat) (drafth : Nat) (trialh : Nat) (psq_images : Nat) (actsh : Nat) (sackh : Nat) (asksh : Nat) (nowq_keeping : Nat) (nowq_giverOf : Nat) (nowq_deedOf : Nat) (nowq_dayOf : Nat) (nowq_likelyOf : Nat) (nowq_kindOf : Nat) (nowq_settledOf : Nat) (im0h : Nat) (im0q_keeping : Nat) (im0q_giverOf : Nat) (im0q_deedOf : Nat) (im0q_dayOf : Nat) (im0q_likelyOf : Nat) (im0q_kindOf : Nat) (im0q_settledOf : Nat) (im1h : Nat) (im1q_keeping : Nat) (im1q_giverOf : Nat) (im1q_deedOf : Nat) (im1q_dayOf : Nat) (im1q_likelyOf : Nat) (im1q_kindOf : Nat) (im1q_settledOf : Nat) (actsq_promiseOf : Nat) (actsq_waxOf : Nat) (actsq_panOf : Nat) (actsq_keepsOf : Nat) (ps_latestFault : Int32) (ps_latestFinding : Int32) (now_told : Int32) (now_wax : Int32) (now_stick : Int32) (now_givers : Int32) (now_promises : Int32) (now_pan : Int32) (now_keeping : Nat → Int32) (now_giverOf : Nat → Int32) (now_deedOf : Nat → Int32) (now_dayOf : Nat → Int32) (now_likelyOf : Nat → Int32) (now_kindOf : Nat → Int32) (now_settledOf : Nat → Int32) (im0_told : Int32) (im0_wax : Int32) (im0_stick : Int32) (im0_givers : Int32) (im0_promises : Int32) (im0_pan : Int32) (im0_keeping : Nat → Int32) (im0_giverOf : Nat → Int32) (im0_deedOf : Nat → Int32) (im0_dayOf : Nat → Int32) (im0_likelyOf : Nat → Int32) (im0_kindOf : Nat → Int32) (im0_settledOf : Nat → Int32) (im1_told : Int32) (im1_wax : Int32) (im1_stick : Int32) (im1_givers : Int32) (im1_promises : Int32) (im1_pan : Int32) (im1_keeping : Nat → Int32) (im1_giverOf : Nat → Int32) (im1_deedOf : Nat → Int32) (im1_dayOf : Nat → Int32) (im1_likelyOf : Nat → Int32) (im1_kindOf : Nat → Int32) (im1_settledOf : Nat → Int32) (acts_promiseOf : Nat → Int32) (acts_waxOf : Nat → Int32) (acts_panOf : Nat → Int32) (acts_keepsOf : Nat → Int32) (acts_oldest : Int32) (acts_kept : Int32) (p1 : Int32) (out : Int32 × Int32 × Int32 × Int32 × Int32 × Int32 × Int32 × (Nat → Int32) × (Nat → Int32) × (Nat → Int32) × (Nat → Int32) × (Nat → Int32) × (Nat → Int32) × (Nat → Int32) × Int32 × Int32) (hf : f_X6_restore now_told now_wax now_stick now_givers now_promises now_pan now_keeping now_giverOf now_deedOf now_dayOf now_likelyOf now_kindOf now_settledOf im0_told im0_wax im0_stick im0_givers im0_promises im0_pan im0_keeping im0_giverOf im0_deedOf im0_dayOf im0_likelyOf im0_kindOf im0_settledOf im1_told im1_wax im1_stick im1_givers im1_promises im1_pan im1_keeping im1_giverOf im1_deedOf im1_dayOf im1_likelyOf im1_kindOf im1_settledOf acts_oldest acts_kept p1 = some out) : bs_C l dC dI cI cZ cS cG yX6_restore wsX6_restore ({ frames := 2, cells := 0, slots := 0, locals := 42 } : Room) [.ref psh, .int p1] ([(psh, .inr (6, [.ref rowsh, .ref tapeh, .ref nowh, .ref drafth, .ref trialh, .ref psq_images, .ref actsh, .ref sackh, .ref asksh, .int ps_latestFault, .int ps_latestFinding])), (psq_images, .inl (cS, 2, .inr (.inr (.inr (.inr (fun j : Nat => if j = 0 then some im0h else some im1h)))))), (nowh, .inr (4, [.int now_told, .int now_wax, .int now_stick, .int now_givers, .int now_promises, .int now_pan, .ref nowq_keeping, .ref nowq_giverOf, .ref nowq_deedOf, .ref nowq_dayOf, .ref nowq_likelyOf, .ref nowq_kindOf, .ref nowq_settledOf])), (nowq_keeping, .inl (cI, 4, .inl now_keeping)), (nowq_giverOf, .inl (cI, 8, .inl now_giverOf)), (nowq_deedOf, .inl (cI, 8, .inl now_deedOf)), (nowq_dayOf, .inl (cI, 8, .inl now_dayOf)), (nowq_likelyOf, .inl (cI, 8, .inl now_likelyOf)), (nowq_kindOf, .inl (cI, 8, .inl now_kindOf)), (nowq_settledOf, .inl (cI, 8, .inl now_settledOf)), (im0h, .inr (4, [.int im0_told, .int im0_wax, .int im0_stick, .int im0_givers, .int im0_promises, .int im0_pan, .ref im0q_keeping, .ref im0q_giverOf, .ref im0q_deedOf, .ref im0q_dayOf, .ref im0q_likelyOf, .ref im0q_kindOf, .ref im0q_settledOf])), (im0q_keeping, .inl (cI, 4, .inl im0_keeping)), (im0q_giverOf, .inl (cI, 8, .inl im0_giverOf)), (im0q_deedOf, .inl (cI, 8, .inl im0_deedOf)), (im0q_dayOf, .inl (cI, 8, .inl im0_dayOf)), (im0q_likelyOf, .inl (cI, 8, .inl im0_likelyOf)), (im0q_kindOf, .inl (cI, 8, .inl im0_kindOf)), (im0q_settledOf, .inl (cI, 8, .inl im0_settledOf)), (im1h, .inr (4, [.int im1_told, .int im1_wax, .int im1_stick, .int im1_givers, .int im1_promises, .int im1_pan, .ref im1q_keeping, .ref im1q_giverOf, .ref im1q_deedOf, .ref im1q_dayOf, .ref im1q_likelyOf, .ref im1q_kindOf, .ref im1q_settledOf])), (im1q_keeping, .inl (cI, 4, .inl im1_keeping)), (im1q_giverOf, .inl (cI, 8, .inl im1_giverOf)), (im1q_deedOf, .inl (cI, 8, .inl im1_deedOf)), (im1q_dayOf, .inl (cI, 8, .inl im1_dayOf)), (im1q_likelyOf, .inl (cI, 8, .inl im1_likelyOf)), (im1q_kindOf, .inl (cI, 8, .inl im1_kindOf)), (im1q_settledOf, .inl (cI, 8, .inl im1_settledOf)), (actsh, .inr (0, [.ref actsq_promiseOf, .ref actsq_waxOf, .ref actsq_panOf, .ref actsq_keepsOf, .int acts_oldest, .int acts_kept])), (actsq_promiseOf, .inl (cI, 24, .inl acts_promiseOf)), (actsq_waxOf, .inl (cI, 24, .inl acts_waxOf)), (actsq_panOf, .inl (cI, 24, .inl acts_panOf)), (actsq_keepsOf, .inl (cI, 24, .inl acts_keepsOf))]) out.1 ([(psh, .inr (6, [.ref rowsh, .ref tapeh, .ref nowh, .ref drafth, .ref trialh, .ref psq_images, .ref actsh, .ref sackh, .ref asksh, .int ps_latestFault, .int ps_latestFinding])), (psq_images, .inl (cS, 2, .inr (.inr (.inr (.inr (fun j : Nat => if j = 0 then some im0h else some im1h)))))), (nowh, .inr (4, [.int out.2.1, .int out.2.2.1, .int out.2.2.2.1, .int out.2.2.2.2.1, .int out.2.2.2.2.2.1, .int out.2.2.2.2.2.2.1, .ref nowq_keeping, .ref nowq_giverOf, .ref nowq_deedOf, .ref nowq_dayOf, .ref nowq_likelyOf, .ref nowq_kindOf, .ref nowq_settledOf])), (nowq_keeping, .inl (cI, 4, .inl out.2.2.2.2.2.2.2.1)), (nowq_giverOf, .inl (cI, 8, .inl out.2.2.2.2.2.2.2.2.1)), (nowq_deedOf, .inl (cI, 8, .inl out.2.2.2.2.2.2.2.2.2.1)), (nowq_dayOf, .inl (cI, 8, .inl out.2.2.2.2.2.2.2.2.2.2.1)), (nowq_likelyOf, .inl (cI, 8, .inl out.2.2.2.2.2.2.2.2.2.2.2.1)), (nowq_kindOf, .inl (cI, 8, .inl out.2.2.2.2.2.2.2.2.2.2.2.2.1)), (nowq_settledOf, .inl (cI, 8, .inl out.2.2.2.2.2.2.2.2.2.2.2.2.2.1)), (im0h, .inr (4, [.int im0_told, .int im0_wax, .int im0_stick, .int im0_givers, .int im0_promises, .int im0_pan, .ref im0q_keeping, .ref im0q_giverOf, .ref im0q_deedOf, .ref im0q_dayOf, .ref im0q_likelyOf, .ref im0q_kindOf, .ref im0q_settledOf])), (im0q_keeping, .inl (cI, 4, .inl im0_keeping)), (im0q_giverOf, .inl (cI, 8, .inl im0_giverOf)), (im0q_deedOf, .inl (cI, 8, .inl im0_deedOf)), (im0q_dayOf, .inl (cI, 8, .inl im0_dayOf)), (im0q_likelyOf, .inl (cI, 8, .inl im0_likelyOf)), (im0q_kindOf, .inl (cI, 8, .inl im0_kindOf)), (im0q_settledOf, .inl (cI, 8, .inl im0_settledOf)), (im1h, .inr (4, [.int im1_told, .int im1_wax, .int im1_stick, .int im1_givers, .int im1_promises, .int im1_pan, .ref im1q_keeping, .ref im1q_giverOf, .ref im1q_deedOf, .ref im1q_dayOf, .ref im1q_likelyOf, .ref im1q_kindOf, .ref im1q_settledOf])), (im1q_keeping, .inl (cI, 4, .inl im1_keeping)), (im1q_giverOf, .inl (cI, 8, .inl im1_giverOf)), (im1q_deedOf, .inl (cI, 8, .inl im1_deedOf)), (im1q_dayOf, .inl (cI, 8, .inl im1_dayOf)), (im1q_likelyOf, .inl (cI, 8, .inl im1_likelyOf)), (im1q_kindOf, .inl (cI, 8, .inl im1_kindOf)), (im1q_settledOf, .inl (cI, 8, .inl im1_settledOf)), (actsh, .inr (0, [.ref actsq_promiseOf, .ref actsq_waxOf, .ref actsq_panOf, .ref actsq_keepsOf, .int out.2.2.2.2.2.2.2.2.2.2.2.2.2.2.1, .int out.2.2.2.2.2.2.2.2.2.2.2.2.2.2.2])), (actsq_promiseOf, .inl (cI, 24, .inl acts_promiseOf)), (actsq_waxOf, .inl (cI, 24, .inl acts_waxOf)), (actsq_panOf, .inl (cI, 24, .inl acts_panOf)), (actsq_keepsOf, .inl (cI, 24, .inl acts_keepsOf))]) := by
  refine bs_ofI (cc := cX6_restore) (maxL := 2) (by decide) rfl (Nat.le_of_ble_eq_true rfl) ?_
  intro p e s m below meth c A Q hx hb hown hml hts hE H locs hP hD hA hS ls hl hret
  have hK := hE.1
  have hl : lv_has ls 2 [(0, .ref psh), (1, .int p1)] := hl
  have hin4 : ∀ w ∈ u_ws RX4 TX4 13, w ∈ wsX6_restore := by decide +kernel
  have hin6 : ∀ w ∈ u_ws RX6 TX6 11, w ∈ wsX6_restore := by decide +kernel
  have k26 := hts (.fieldLink RX6 26 "PromiseScales" "now" "LPromiseScales$Scales;") (by decide +kernel)
  have k36 := hts (.fieldLink RX6 36 "PromiseScales" "images" "[LPromiseScales$Scales;") (by decide +kernel)
  have k43 := hts (.fieldLink RX6 43 "PromiseScales" "acts" "LPromiseScales$Acts;") (by decide +kernel)
  have k171 := hts (.fieldLink RX6 171 "PromiseScales$Scales" "told" "Z") (by decide +kernel)
  unfold f_X6_restore at hf
  refine lv_iload_n hx hb dX6_restore_0 rfl (lv_at hl 1 rfl) ?_
  obtain ⟨z1, hz1, hf⟩ := bs_b hf
  refine bs_cSi ⟨hx, hb, hml, hown, hts⟩ (k_X6_isImage l dC dI cI cZ cS cG p1 z1 hz1) (va_cwS 1 hts gX6_restore_X6_isImage rfl rfl rfl (by decide +kernel) ⟨Nat.le_of_ble_eq_true rfl, Nat.le_of_ble_eq_true rfl⟩) hE hP hD hA hS rfl rfl hl.1 (Nat.le_of_ble_eq_true rfl) dX6_restore_1 (fun H locs hP hS => ?_)
  refine lv_if_ne (tgt := 10) hx hb dX6_restore_4 (by decide) (fun c2 => ?_) (fun c2 => ?_)
  · have hf := bs_f hf c2
    refine lv_aload_n hx hb dX6_restore_10 rfl (lv_at hl 0 rfl) ?_
    refine va_get (D := (dC, dI)) (ci := 6) (v := .ref psq_images) (C := RX6) (T := TX6) (N := 11) hx hb hts hin6 hown hK hP 0 rfl rfl 5 (by decide) k36 (fun _ h9 => h9) rfl dX6_restore_11 ?_
    refine lv_iload_n hx hb dX6_restore_14 rfl (lv_at hl 1 rfl) ?_
    obtain ⟨g3, hf⟩ := bs_g hf
    refine va_aldq hx hb hK hP 1 2 rfl rfl (bs_inV g3) dX6_restore_15 ?_
    by_cases c4 : p1.toNatClampNeg = 0
    · have hf := bs_t hf c4
      refine bs_topq (a := im0h) (bs_im0 c4) ?_
      refine va_get (D := (dC, dI)) (ci := 4) (v := .int im0_told) (C := RX4) (T := TX4) (N := 13) hx hb hts hin4 hown hK hP 10 rfl rfl 0 (by decide) k171 (fun _ h9 => h9) rfl dX6_restore_16 ?_
      refine lv_if_ne (tgt := 25) hx hb dX6_restore_19 (by decide) (fun c5 => ?_) (fun c5 => ?_)
      · have hf := bs_f hf c5
        refine lv_aload_n hx hb dX6_restore_25 rfl (lv_at hl 0 rfl) ?_
        refine va_get (D := (dC, dI)) (ci := 6) (v := .ref nowh) (C := RX6) (T := TX6) (N := 11) hx hb hts hin6 hown hK hP 0 rfl rfl 2 (by decide) k26 (fun _ h9 => h9) rfl dX6_restore_26 ?_
        refine lv_aload_n hx hb dX6_restore_29 rfl (lv_at hl 0 rfl) ?_
        refine va_get (D := (dC, dI)) (ci := 6) (v := .ref psq_images) (C := RX6) (T := TX6) (N := 11) hx hb hts hin6 hown hK hP 0 rfl rfl 5 (by decide) k36 (fun _ h9 => h9) rfl dX6_restore_30 ?_
        refine lv_iload_n hx hb dX6_restore_33 rfl (lv_at hl 1 rfl) ?_
        obtain ⟨g6, hf⟩ := bs_g hf
        refine va_aldq hx hb hK hP 1 2 rfl rfl (bs_inV g6) dX6_restore_34 ?_
        by_cases c7 : p1.toNatClampNeg = 0
        · have hf := bs_t hf c7
          refine bs_topq (a := im0h) (bs_im0 c7) ?_
          obtain ⟨z8, hz8, hf⟩ := bs_b hf
          refine bs_cVv (ws1 := [(psh, .inr (6, [.ref rowsh, .ref tapeh, .ref nowh, .ref drafth, .ref trialh, .ref psq_images, .ref actsh, .ref sackh, .ref asksh, .int ps_latestFault, .int ps_latestFinding])), (psq_images, .inl (cS, 2, .inr (.inr (.inr (.inr (fun j : Nat => if j = 0 then some im0h else some im1h)))))), (nowh, .inr (4, [.int z8.1, .int z8.2.1, .int z8.2.2.1, .int z8.2.2.2.1, .int z8.2.2.2.2.1, .int z8.2.2.2.2.2.1, .ref nowq_keeping, .ref nowq_giverOf, .ref nowq_deedOf, .ref nowq_dayOf, .ref nowq_likelyOf, .ref nowq_kindOf, .ref nowq_settledOf])), (nowq_keeping, .inl (cI, 4, .inl z8.2.2.2.2.2.2.1)), (nowq_giverOf, .inl (cI, 8, .inl z8.2.2.2.2.2.2.2.1)), (nowq_deedOf, .inl (cI, 8, .inl z8.2.2.2.2.2.2.2.2.1)), (nowq_dayOf, .inl (cI, 8, .inl z8.2.2.2.2.2.2.2.2.2.1)), (nowq_likelyOf, .inl (cI, 8, .inl z8.2.2.2.2.2.2.2.2.2.2.1)), (nowq_kindOf, .inl (cI, 8, .inl z8.2.2.2.2.2.2.2.2.2.2.2.1)), (nowq_settledOf, .inl (cI, 8, .inl z8.2.2.2.2.2.2.2.2.2.2.2.2)), (im0h, .inr (4, [.int im0_told, .int im0_wax, .int im0_stick, .int im0_givers, .int im0_promises, .int im0_pan, .ref im0q_keeping, .ref im0q_giverOf, .ref im0q_deedOf, .ref im0q_dayOf, .ref im0q_likelyOf, .ref im0q_kindOf, .ref im0q_settledOf])), (im0q_keeping, .inl (cI, 4, .inl im0_keeping)), (im0q_giverOf, .inl (cI, 8, .inl im0_giverOf)), (im0q_deedOf, .inl (cI, 8, .inl im0_deedOf)), (im0q_dayOf, .inl (cI, 8, .inl im0_dayOf)), (im0q_likelyOf, .inl (cI, 8, .inl im0_likelyOf)), (im0q_kindOf, .inl (cI, 8, .inl im0_kindOf)), (im0q_settledOf, .inl (cI, 8, .inl im0_settledOf)), (im1h, .inr (4, [.int im1_told, .int im1_wax, .int im1_stick, .int im1_givers, .int im1_promises, .int im1_pan, .ref im1q_keeping, .ref im1q_giverOf, .ref im1q_deedOf, .ref im1q_dayOf, .ref im1q_likelyOf, .ref im1q_kindOf, .ref im1q_settledOf])), (im1q_keeping, .inl (cI, 4, .inl im1_keeping)), (im1q_giverOf, .inl (cI, 8, .inl im1_giverOf)), (im1q_deedOf, .inl (cI, 8, .inl im1_deedOf)), (im1q_dayOf, .inl (cI, 8, .inl im1_dayOf)), (im1q_likelyOf, .inl (cI, 8, .inl im1_likelyOf)), (im1q_kindOf, .inl (cI, 8, .inl im1_kindOf)), (im1q_settledOf, .inl (cI, 8, .inl im1_settledOf)), (actsh, .inr (0, [.ref actsq_promiseOf, .ref actsq_waxOf, .ref actsq_panOf, .ref actsq_keepsOf, .int acts_oldest, .int acts_kept])), (actsq_promiseOf, .inl (cI, 24, .inl acts_promiseOf)), (actsq_waxOf, .inl (cI, 24, .inl acts_waxOf)), (actsq_panOf, .inl (cI, 24, .inl acts_panOf)), (actsq_keepsOf, .inl (cI, 24, .inl acts_keepsOf))]) ⟨hx, hb, hml, hown, hts⟩ (k_X4_become l dC dI cI cZ cS cG nowh nowq_keeping nowq_giverOf nowq_deedOf nowq_dayOf nowq_likelyOf nowq_kindOf nowq_settledOf im0h im0q_keeping im0q_giverOf im0q_deedOf im0q_dayOf im0q_likelyOf im0q_kindOf im0q_settledOf now_told now_wax now_stick now_givers now_promises now_pan now_keeping now_giverOf now_deedOf now_dayOf now_likelyOf now_kindOf now_settledOf im0_told im0_wax im0_stick im0_givers im0_promises im0_pan im0_keeping im0_giverOf im0_deedOf im0_dayOf im0_likelyOf im0_kindOf im0_settledOf z8 hz8) (cwV 1 hts gX6_restore_X4_become rfl rfl rfl (by decide +kernel) ⟨Nat.le_of_ble_eq_true rfl, Nat.le_of_ble_eq_true rfl⟩) hE hP hD hA hS [2, 3, 4, 5, 6, 7, 8, 9, 10, 11, 12, 13, 14, 15, 16, 17] rfl rfl 4 0 rfl rfl rfl rfl rfl rfl rfl hl.1 (Nat.le_of_ble_eq_true rfl) dX6_restore_35 (fun H locs hP hD hS => ?_)
          refine lv_aload_n hx hb dX6_restore_38 rfl (lv_at hl 0 rfl) ?_
          refine va_get (D := (dC, dI)) (ci := 6) (v := .ref actsh) (C := RX6) (T := TX6) (N := 11) hx hb hts hin6 hown hK hP 0 rfl rfl 6 (by decide) k43 (fun _ h9 => h9) rfl dX6_restore_39 ?_
          obtain ⟨z9, hz9, hf⟩ := bs_b hf
          refine bs_cVv (ws1 := [(psh, .inr (6, [.ref rowsh, .ref tapeh, .ref nowh, .ref drafth, .ref trialh, .ref psq_images, .ref actsh, .ref sackh, .ref asksh, .int ps_latestFault, .int ps_latestFinding])), (psq_images, .inl (cS, 2, .inr (.inr (.inr (.inr (fun j : Nat => if j = 0 then some im0h else some im1h)))))), (nowh, .inr (4, [.int z8.1, .int z8.2.1, .int z8.2.2.1, .int z8.2.2.2.1, .int z8.2.2.2.2.1, .int z8.2.2.2.2.2.1, .ref nowq_keeping, .ref nowq_giverOf, .ref nowq_deedOf, .ref nowq_dayOf, .ref nowq_likelyOf, .ref nowq_kindOf, .ref nowq_settledOf])), (nowq_keeping, .inl (cI, 4, .inl z8.2.2.2.2.2.2.1)), (nowq_giverOf, .inl (cI, 8, .inl z8.2.2.2.2.2.2.2.1)), (nowq_deedOf, .inl (cI, 8, .inl z8.2.2.2.2.2.2.2.2.1)), (nowq_dayOf, .inl (cI, 8, .inl z8.2.2.2.2.2.2.2.2.2.1)), (nowq_likelyOf, .inl (cI, 8, .inl z8.2.2.2.2.2.2.2.2.2.2.1)), (nowq_kindOf, .inl (cI, 8, .inl z8.2.2.2.2.2.2.2.2.2.2.2.1)), (nowq_settledOf, .inl (cI, 8, .inl z8.2.2.2.2.2.2.2.2.2.2.2.2)), (im0h, .inr (4, [.int im0_told, .int im0_wax, .int im0_stick, .int im0_givers, .int im0_promises, .int im0_pan, .ref im0q_keeping, .ref im0q_giverOf, .ref im0q_deedOf, .ref im0q_dayOf, .ref im0q_likelyOf, .ref im0q_kindOf, .ref im0q_settledOf])), (im0q_keeping, .inl (cI, 4, .inl im0_keeping)), (im0q_giverOf, .inl (cI, 8, .inl im0_giverOf)), (im0q_deedOf, .inl (cI, 8, .inl im0_deedOf)), (im0q_dayOf, .inl (cI, 8, .inl im0_dayOf)), (im0q_likelyOf, .inl (cI, 8, .inl im0_likelyOf)), (im0q_kindOf, .inl (cI, 8, .inl im0_kindOf)), (im0q_settledOf, .inl (cI, 8, .inl im0_settledOf)), (im1h, .inr (4, [.int im1_told, .int im1_wax, .int im1_stick, .int im1_givers, .int im1_promises, .int im1_pan, .ref im1q_keeping, .ref im1q_giverOf, .ref im1q_deedOf, .ref im1q_dayOf, .ref im1q_likelyOf, .ref im1q_kindOf, .ref im1q_settledOf])), (im1q_keeping, .inl (cI, 4, .inl im1_keeping)), (im1q_giverOf, .inl (cI, 8, .inl im1_giverOf)), (im1q_deedOf, .inl (cI, 8, .inl im1_deedOf)), (im1q_dayOf, .inl (cI, 8, .inl im1_dayOf)), (im1q_likelyOf, .inl (cI, 8, .inl im1_likelyOf)), (im1q_kindOf, .inl (cI, 8, .inl im1_kindOf)), (im1q_settledOf, .inl (cI, 8, .inl im1_settledOf)), (actsh, .inr (0, [.ref actsq_promiseOf, .ref actsq_waxOf, .ref actsq_panOf, .ref actsq_keepsOf, .int z9.1, .int z9.2])), (actsq_promiseOf, .inl (cI, 24, .inl acts_promiseOf)), (actsq_waxOf, .inl (cI, 24, .inl acts_waxOf)), (actsq_panOf, .inl (cI, 24, .inl acts_panOf)), (actsq_keepsOf, .inl (cI, 24, .inl acts_keepsOf))]) ⟨hx, hb, hml, hown, hts⟩ (k_X0_forgetAll l dC dI cI cZ cS cG actsh actsq_promiseOf actsq_waxOf actsq_panOf actsq_keepsOf acts_promiseOf acts_waxOf acts_panOf acts_keepsOf acts_oldest acts_kept z9 hz9) (cwV 0 hts gX6_restore_X0_forgetAll rfl rfl rfl (by decide +kernel) ⟨Nat.le_of_ble_eq_true rfl, Nat.le_of_ble_eq_true rfl⟩) hE hP hD hA hS [26, 27, 28, 29, 30] rfl rfl 0 0 rfl rfl rfl rfl rfl rfl rfl hl.1 (Nat.le_of_ble_eq_true rfl) dX6_restore_42 (fun H locs hP hD hS => ?_)
          refine lv_iconst (v := 1) hx hb dX6_restore_45 (by decide) ?_
          obtain rfl := Option.some.inj hf
          exact hret H locs _ _ hP hS rfl dX6_restore_46
        · have hf := bs_f hf c7
          refine bs_topq (a := im1h) (bs_im1 c7) ?_
          obtain ⟨z10, hz10, hf⟩ := bs_b hf
          refine bs_cVv (ws1 := [(psh, .inr (6, [.ref rowsh, .ref tapeh, .ref nowh, .ref drafth, .ref trialh, .ref psq_images, .ref actsh, .ref sackh, .ref asksh, .int ps_latestFault, .int ps_latestFinding])), (psq_images, .inl (cS, 2, .inr (.inr (.inr (.inr (fun j : Nat => if j = 0 then some im0h else some im1h)))))), (nowh, .inr (4, [.int z10.1, .int z10.2.1, .int z10.2.2.1, .int z10.2.2.2.1, .int z10.2.2.2.2.1, .int z10.2.2.2.2.2.1, .ref nowq_keeping, .ref nowq_giverOf, .ref nowq_deedOf, .ref nowq_dayOf, .ref nowq_likelyOf, .ref nowq_kindOf, .ref nowq_settledOf])), (nowq_keeping, .inl (cI, 4, .inl z10.2.2.2.2.2.2.1)), (nowq_giverOf, .inl (cI, 8, .inl z10.2.2.2.2.2.2.2.1)), (nowq_deedOf, .inl (cI, 8, .inl z10.2.2.2.2.2.2.2.2.1)), (nowq_dayOf, .inl (cI, 8, .inl z10.2.2.2.2.2.2.2.2.2.1)), (nowq_likelyOf, .inl (cI, 8, .inl z10.2.2.2.2.2.2.2.2.2.2.1)), (nowq_kindOf, .inl (cI, 8, .inl z10.2.2.2.2.2.2.2.2.2.2.2.1)), (nowq_settledOf, .inl (cI, 8, .inl z10.2.2.2.2.2.2.2.2.2.2.2.2)), (im0h, .inr (4, [.int im0_told, .int im0_wax, .int im0_stick, .int im0_givers, .int im0_promises, .int im0_pan, .ref im0q_keeping, .ref im0q_giverOf, .ref im0q_deedOf, .ref im0q_dayOf, .ref im0q_likelyOf, .ref im0q_kindOf, .ref im0q_settledOf])), (im0q_keeping, .inl (cI, 4, .inl im0_keeping)), (im0q_giverOf, .inl (cI, 8, .inl im0_giverOf)), (im0q_deedOf, .inl (cI, 8, .inl im0_deedOf)), (im0q_dayOf, .inl (cI, 8, .inl im0_dayOf)), (im0q_likelyOf, .inl (cI, 8, .inl im0_likelyOf)), (im0q_kindOf, .inl (cI, 8, .inl im0_kindOf)), (im0q_settledOf, .inl (cI, 8, .inl im0_settledOf)), (im1h, .inr (4, [.int im1_told, .int im1_wax, .int im1_stick, .int im1_givers, .int im1_promises, .int im1_pan, .ref im1q_keeping, .ref im1q_giverOf, .ref im1q_deedOf, .ref im1q_dayOf, .ref im1q_likelyOf, .ref im1q_kindOf, .ref im1q_settledOf])), (im1q_keeping, .inl (cI, 4, .inl im1_keeping)), (im1q_giverOf, .inl (cI, 8, .inl im1_giverOf)), (im1q_deedOf, .inl (cI, 8, .inl im1_deedOf)), (im1q_dayOf, .inl (cI, 8, .inl im1_dayOf)), (im1q_likelyOf, .inl (cI, 8, .inl im1_likelyOf)), (im1q_kindOf, .inl (cI, 8, .inl im1_kindOf)), (im1q_settledOf, .inl (cI, 8, .inl im1_settledOf)), (actsh, .inr (0, [.ref actsq_promiseOf, .ref actsq_waxOf, .ref actsq_panOf, .ref actsq_keepsOf, .int acts_oldest, .int acts_kept])), (actsq_promiseOf, .inl (cI, 24, .inl acts_promiseOf)), (actsq_waxOf, .inl (cI, 24, .inl acts_waxOf)), (actsq_panOf, .inl (cI, 24, .inl acts_panOf)), (actsq_keepsOf, .inl (cI, 24, .inl acts_keepsOf))]) ⟨hx, hb, hml, hown, hts⟩ (k_X4_become l dC dI cI cZ cS cG nowh nowq_keeping nowq_giverOf nowq_deedOf nowq_dayOf nowq_likelyOf nowq_kindOf nowq_settledOf im1h im1q_keeping im1q_giverOf im1q_deedOf im1q_dayOf im1q_likelyOf im1q_kindOf im1q_settledOf now_told now_wax now_stick now_givers now_promises now_pan now_keeping now_giverOf now_deedOf now_dayOf now_likelyOf now_kindOf now_settledOf im1_told im1_wax im1_stick im1_givers im1_promises im1_pan im1_keeping im1_giverOf im1_deedOf im1_dayOf im1_likelyOf im1_kindOf im1_settledOf z10 hz10) (cwV 1 hts gX6_restore_X4_become rfl rfl rfl (by decide +kernel) ⟨Nat.le_of_ble_eq_true rfl, Nat.le_of_ble_eq_true rfl⟩) hE hP hD hA hS [2, 3, 4, 5, 6, 7, 8, 9, 18, 19, 20, 21, 22, 23, 24, 25] rfl rfl 4 0 rfl rfl rfl rfl rfl rfl rfl hl.1 (Nat.le_of_ble_eq_true rfl) dX6_restore_35 (fun H locs hP hD hS => ?_)
          refine lv_aload_n hx hb dX6_restore_38 rfl (lv_at hl 0 rfl) ?_
          refine va_get (D := (dC, dI)) (ci := 6) (v := .ref actsh) (C := RX6) (T := TX6) (N := 11) hx hb hts hin6 hown hK hP 0 rfl rfl 6 (by decide) k43 (fun _ h9 => h9) rfl dX6_restore_39 ?_
          obtain ⟨z11, hz11, hf⟩ := bs_b hf
          refine bs_cVv (ws1 := [(psh, .inr (6, [.ref rowsh, .ref tapeh, .ref nowh, .ref drafth, .ref trialh, .ref psq_images, .ref actsh, .ref sackh, .ref asksh, .int ps_latestFault, .int ps_latestFinding])), (psq_images, .inl (cS, 2, .inr (.inr (.inr (.inr (fun j : Nat => if j = 0 then some im0h else some im1h)))))), (nowh, .inr (4, [.int z10.1, .int z10.2.1, .int z10.2.2.1, .int z10.2.2.2.1, .int z10.2.2.2.2.1, .int z10.2.2.2.2.2.1, .ref nowq_keeping, .ref nowq_giverOf, .ref nowq_deedOf, .ref nowq_dayOf, .ref nowq_likelyOf, .ref nowq_kindOf, .ref nowq_settledOf])), (nowq_keeping, .inl (cI, 4, .inl z10.2.2.2.2.2.2.1)), (nowq_giverOf, .inl (cI, 8, .inl z10.2.2.2.2.2.2.2.1)), (nowq_deedOf, .inl (cI, 8, .inl z10.2.2.2.2.2.2.2.2.1)), (nowq_dayOf, .inl (cI, 8, .inl z10.2.2.2.2.2.2.2.2.2.1)), (nowq_likelyOf, .inl (cI, 8, .inl z10.2.2.2.2.2.2.2.2.2.2.1)), (nowq_kindOf, .inl (cI, 8, .inl z10.2.2.2.2.2.2.2.2.2.2.2.1)), (nowq_settledOf, .inl (cI, 8, .inl z10.2.2.2.2.2.2.2.2.2.2.2.2)), (im0h, .inr (4, [.int im0_told, .int im0_wax, .int im0_stick, .int im0_givers, .int im0_promises, .int im0_pan, .ref im0q_keeping, .ref im0q_giverOf, .ref im0q_deedOf, .ref im0q_dayOf, .ref im0q_likelyOf, .ref im0q_kindOf, .ref im0q_settledOf])), (im0q_keeping, .inl (cI, 4, .inl im0_keeping)), (im0q_giverOf, .inl (cI, 8, .inl im0_giverOf)), (im0q_deedOf, .inl (cI, 8, .inl im0_deedOf)), (im0q_dayOf, .inl (cI, 8, .inl im0_dayOf)), (im0q_likelyOf, .inl (cI, 8, .inl im0_likelyOf)), (im0q_kindOf, .inl (cI, 8, .inl im0_kindOf)), (im0q_settledOf, .inl (cI, 8, .inl im0_settledOf)), (im1h, .inr (4, [.int im1_told, .int im1_wax, .int im1_stick, .int im1_givers, .int im1_promises, .int im1_pan, .ref im1q_keeping, .ref im1q_giverOf, .ref im1q_deedOf, .ref im1q_dayOf, .ref im1q_likelyOf, .ref im1q_kindOf, .ref im1q_settledOf])), (im1q_keeping, .inl (cI, 4, .inl im1_keeping)), (im1q_giverOf, .inl (cI, 8, .inl im1_giverOf)), (im1q_deedOf, .inl (cI, 8, .inl im1_deedOf)), (im1q_dayOf, .inl (cI, 8, .inl im1_dayOf)), (im1q_likelyOf, .inl (cI, 8, .inl im1_likelyOf)), (im1q_kindOf, .inl (cI, 8, .inl im1_kindOf)), (im1q_settledOf, .inl (cI, 8, .inl im1_settledOf)), (actsh, .inr (0, [.ref actsq_promiseOf, .ref actsq_waxOf, .ref actsq_panOf, .ref actsq_keepsOf, .int z11.1, .int z11.2])), (actsq_promiseOf, .inl (cI, 24, .inl acts_promiseOf)), (actsq_waxOf, .inl (cI, 24, .inl acts_waxOf)), (actsq_panOf, .inl (cI, 24, .inl acts_panOf)), (actsq_keepsOf, .inl (cI, 24, .inl acts_keepsOf))]) ⟨hx, hb, hml, hown, hts⟩ (k_X0_forgetAll l dC dI cI cZ cS cG actsh actsq_promiseOf actsq_waxOf actsq_panOf actsq_keepsOf acts_promiseOf acts_waxOf acts_panOf acts_keepsOf acts_oldest acts_kept z11 hz11) (cwV 0 hts gX6_restore_X0_forgetAll rfl rfl rfl (by decide +kernel) ⟨Nat.le_of_ble_eq_true rfl, Nat.le_of_ble_eq_true rfl⟩) hE hP hD hA hS [26, 27, 28, 29, 30] rfl rfl 0 0 rfl rfl rfl rfl rfl rfl rfl hl.1 (Nat.le_of_ble_eq_true rfl) dX6_restore_42 (fun H locs hP hD hS => ?_)
          refine lv_iconst (v := 1) hx hb dX6_restore_45 (by decide) ?_
          obtain rfl := Option.some.inj hf
          exact hret H locs _ _ hP hS rfl dX6_restore_46
      · have hf := bs_t hf c5
        refine lv_ldc hx hb hown (hts (.constant RX6 145 (-1000002)) (by decide +kernel)) dX6_restore_22 ?_
        obtain rfl := Option.some.inj hf
        exact hret H locs _ _ hP hS rfl dX6_restore_24
    · have hf := bs_f hf c4
      refine bs_topq (a := im1h) (bs_im1 c4) ?_
      refine va_get (D := (dC, dI)) (ci := 4) (v := .int im1_told) (C := RX4) (T := TX4) (N := 13) hx hb hts hin4 hown hK hP 18 rfl rfl 0 (by decide) k171 (fun _ h9 => h9) rfl dX6_restore_16 ?_
      refine lv_if_ne (tgt := 25) hx hb dX6_restore_19 (by decide) (fun c12 => ?_) (fun c12 => ?_)
      · have hf := bs_f hf c12
        refine lv_aload_n hx hb dX6_restore_25 rfl (lv_at hl 0 rfl) ?_
        refine va_get (D := (dC, dI)) (ci := 6) (v := .ref nowh) (C := RX6) (T := TX6) (N := 11) hx hb hts hin6 hown hK hP 0 rfl rfl 2 (by decide) k26 (fun _ h9 => h9) rfl dX6_restore_26 ?_
        refine lv_aload_n hx hb dX6_restore_29 rfl (lv_at hl 0 rfl) ?_
        refine va_get (D := (dC, dI)) (ci := 6) (v := .ref psq_images) (C := RX6) (T := TX6) (N := 11) hx hb hts hin6 hown hK hP 0 rfl rfl 5 (by decide) k36 (fun _ h9 => h9) rfl dX6_restore_30 ?_
        refine lv_iload_n hx hb dX6_restore_33 rfl (lv_at hl 1 rfl) ?_
        obtain ⟨g13, hf⟩ := bs_g hf
        refine va_aldq hx hb hK hP 1 2 rfl rfl (bs_inV g13) dX6_restore_34 ?_
        by_cases c14 : p1.toNatClampNeg = 0
        · have hf := bs_t hf c14
          refine bs_topq (a := im0h) (bs_im0 c14) ?_
          obtain ⟨z15, hz15, hf⟩ := bs_b hf
          refine bs_cVv (ws1 := [(psh, .inr (6, [.ref rowsh, .ref tapeh, .ref nowh, .ref drafth, .ref trialh, .ref psq_images, .ref actsh, .ref sackh, .ref asksh, .int ps_latestFault, .int ps_latestFinding])), (psq_images, .inl (cS, 2, .inr (.inr (.inr (.inr (fun j : Nat => if j = 0 then some im0h else some im1h)))))), (nowh, .inr (4, [.int z15.1, .int z15.2.1, .int z15.2.2.1, .int z15.2.2.2.1, .int z15.2.2.2.2.1, .int z15.2.2.2.2.2.1, .ref nowq_keeping, .ref nowq_giverOf, .ref nowq_deedOf, .ref nowq_dayOf, .ref nowq_likelyOf, .ref nowq_kindOf, .ref nowq_settledOf])), (nowq_keeping, .inl (cI, 4, .inl z15.2.2.2.2.2.2.1)), (nowq_giverOf, .inl (cI, 8, .inl z15.2.2.2.2.2.2.2.1)), (nowq_deedOf, .inl (cI, 8, .inl z15.2.2.2.2.2.2.2.2.1)), (nowq_dayOf, .inl (cI, 8, .inl z15.2.2.2.2.2.2.2.2.2.1)), (nowq_likelyOf, .inl (cI, 8, .inl z15.2.2.2.2.2.2.2.2.2.2.1)), (nowq_kindOf, .inl (cI, 8, .inl z15.2.2.2.2.2.2.2.2.2.2.2.1)), (nowq_settledOf, .inl (cI, 8, .inl z15.2.2.2.2.2.2.2.2.2.2.2.2)), (im0h, .inr (4, [.int im0_told, .int im0_wax, .int im0_stick, .int im0_givers, .int im0_promises, .int im0_pan, .ref im0q_keeping, .ref im0q_giverOf, .ref im0q_deedOf, .ref im0q_dayOf, .ref im0q_likelyOf, .ref im0q_kindOf, .ref im0q_settledOf])), (im0q_keeping, .inl (cI, 4, .inl im0_keeping)), (im0q_giverOf, .inl (cI, 8, .inl im0_giverOf)), (im0q_deedOf, .inl (cI, 8, .inl im0_deedOf)), (im0q_dayOf, .inl (cI, 8, .inl im0_dayOf)), (im0q_likelyOf, .inl (cI, 8, .inl im0_likelyOf)), (im0q_kindOf, .inl (cI, 8, .inl im0_kindOf)), (im0q_settledOf, .inl (cI, 8, .inl im0_settledOf)), (im1h, .inr (4, [.int im1_told, .int im1_wax, .int im1_stick, .int im1_givers, .int im1_promises, .int im1_pan, .ref im1q_keeping, .ref im1q_giverOf, .ref im1q_deedOf, .ref im1q_dayOf, .ref im1q_likelyOf, .ref im1q_kindOf, .ref im1q_settledOf])), (im1q_keeping, .inl (cI, 4, .inl im1_keeping)), (im1q_giverOf, .inl (cI, 8, .inl im1_giverOf)), (im1q_deedOf, .inl (cI, 8, .inl im1_deedOf)), (im1q_dayOf, .inl (cI, 8, .inl im1_dayOf)), (im1q_likelyOf, .inl (cI, 8, .inl im1_likelyOf)), (im1q_kindOf, .inl (cI, 8, .inl im1_kindOf)), (im1q_settledOf, .inl (cI, 8, .inl im1_settledOf)), (actsh, .inr (0, [.ref actsq_promiseOf, .ref actsq_waxOf, .ref actsq_panOf, .ref actsq_keepsOf, .int acts_oldest, .int acts_kept])), (actsq_promiseOf, .inl (cI, 24, .inl acts_promiseOf)), (actsq_waxOf, .inl (cI, 24, .inl acts_waxOf)), (actsq_panOf, .inl (cI, 24, .inl acts_panOf)), (actsq_keepsOf, .inl (cI, 24, .inl acts_keepsOf))]) ⟨hx, hb, hml, hown, hts⟩ (k_X4_become l dC dI cI cZ cS cG nowh nowq_keeping nowq_giverOf nowq_deedOf nowq_dayOf nowq_likelyOf nowq_kindOf nowq_settledOf im0h im0q_keeping im0q_giverOf im0q_deedOf im0q_dayOf im0q_likelyOf im0q_kindOf im0q_settledOf now_told now_wax now_stick now_givers now_promises now_pan now_keeping now_giverOf now_deedOf now_dayOf now_likelyOf now_kindOf now_settledOf im0_told im0_wax im0_stick im0_givers im0_promises im0_pan im0_keeping im0_giverOf im0_deedOf im0_dayOf im0_likelyOf im0_kindOf im0_settledOf z15 hz15) (cwV 1 hts gX6_restore_X4_become rfl rfl rfl (by decide +kernel) ⟨Nat.le_of_ble_eq_true rfl, Nat.le_of_ble_eq_true rfl⟩) hE hP hD hA hS [2, 3, 4, 5, 6, 7, 8, 9, 10, 11, 12, 13, 14, 15, 16, 17] rfl rfl 4 0 rfl rfl rfl rfl rfl rfl rfl hl.1 (Nat.le_of_ble_eq_true rfl) dX6_restore_35 (fun H locs hP hD hS => ?_)
          refine lv_aload_n hx hb dX6_restore_38 rfl (lv_at hl 0 rfl) ?_
          refine va_get (D := (dC, dI)) (ci := 6) (v := .ref actsh) (C := RX6) (T := TX6) (N := 11) hx hb hts hin6 hown hK hP 0 rfl rfl 6 (by decide) k43 (fun _ h9 => h9) rfl dX6_restore_39 ?_
          obtain ⟨z16, hz16, hf⟩ := bs_b hf
          refine bs_cVv (ws1 := [(psh, .inr (6, [.ref rowsh, .ref tapeh, .ref nowh, .ref drafth, .ref trialh, .ref psq_images, .ref actsh, .ref sackh, .ref asksh, .int ps_latestFault, .int ps_latestFinding])), (psq_images, .inl (cS, 2, .inr (.inr (.inr (.inr (fun j : Nat => if j = 0 then some im0h else some im1h)))))), (nowh, .inr (4, [.int z15.1, .int z15.2.1, .int z15.2.2.1, .int z15.2.2.2.1, .int z15.2.2.2.2.1, .int z15.2.2.2.2.2.1, .ref nowq_keeping, .ref nowq_giverOf, .ref nowq_deedOf, .ref nowq_dayOf, .ref nowq_likelyOf, .ref nowq_kindOf, .ref nowq_settledOf])), (nowq_keeping, .inl (cI, 4, .inl z15.2.2.2.2.2.2.1)), (nowq_giverOf, .inl (cI, 8, .inl z15.2.2.2.2.2.2.2.1)), (nowq_deedOf, .inl (cI, 8, .inl z15.2.2.2.2.2.2.2.2.1)), (nowq_dayOf, .inl (cI, 8, .inl z15.2.2.2.2.2.2.2.2.2.1)), (nowq_likelyOf, .inl (cI, 8, .inl z15.2.2.2.2.2.2.2.2.2.2.1)), (nowq_kindOf, .inl (cI, 8, .inl z15.2.2.2.2.2.2.2.2.2.2.2.1)), (nowq_settledOf, .inl (cI, 8, .inl z15.2.2.2.2.2.2.2.2.2.2.2.2)), (im0h, .inr (4, [.int im0_told, .int im0_wax, .int im0_stick, .int im0_givers, .int im0_promises, .int im0_pan, .ref im0q_keeping, .ref im0q_giverOf, .ref im0q_deedOf, .ref im0q_dayOf, .ref im0q_likelyOf, .ref im0q_kindOf, .ref im0q_settledOf])), (im0q_keeping, .inl (cI, 4, .inl im0_keeping)), (im0q_giverOf, .inl (cI, 8, .inl im0_giverOf)), (im0q_deedOf, .inl (cI, 8, .inl im0_deedOf)), (im0q_dayOf, .inl (cI, 8, .inl im0_dayOf)), (im0q_likelyOf, .inl (cI, 8, .inl im0_likelyOf)), (im0q_kindOf, .inl (cI, 8, .inl im0_kindOf)), (im0q_settledOf, .inl (cI, 8, .inl im0_settledOf)), (im1h, .inr (4, [.int im1_told, .int im1_wax, .int im1_stick, .int im1_givers, .int im1_promises, .int im1_pan, .ref im1q_keeping, .ref im1q_giverOf, .ref im1q_deedOf, .ref im1q_dayOf, .ref im1q_likelyOf, .ref im1q_kindOf, .ref im1q_settledOf])), (im1q_keeping, .inl (cI, 4, .inl im1_keeping)), (im1q_giverOf, .inl (cI, 8, .inl im1_giverOf)), (im1q_deedOf, .inl (cI, 8, .inl im1_deedOf)), (im1q_dayOf, .inl (cI, 8, .inl im1_dayOf)), (im1q_likelyOf, .inl (cI, 8, .inl im1_likelyOf)), (im1q_kindOf, .inl (cI, 8, .inl im1_kindOf)), (im1q_settledOf, .inl (cI, 8, .inl im1_settledOf)), (actsh, .inr (0, [.ref actsq_promiseOf, .ref actsq_waxOf, .ref actsq_panOf, .ref actsq_keepsOf, .int z16.1, .int z16.2])), (actsq_promiseOf, .inl (cI, 24, .inl acts_promiseOf)), (actsq_waxOf, .inl (cI, 24, .inl acts_waxOf)), (actsq_panOf, .inl (cI, 24, .inl acts_panOf)), (actsq_keepsOf, .inl (cI, 24, .inl acts_keepsOf))]) ⟨hx, hb, hml, hown, hts⟩ (k_X0_forgetAll l dC dI cI cZ cS cG actsh actsq_promiseOf actsq_waxOf actsq_panOf actsq_keepsOf acts_promiseOf acts_waxOf acts_panOf acts_keepsOf acts_oldest acts_kept z16 hz16) (cwV 0 hts gX6_restore_X0_forgetAll rfl rfl rfl (by decide +kernel) ⟨Nat.le_of_ble_eq_true rfl, Nat.le_of_ble_eq_true rfl⟩) hE hP hD hA hS [26, 27, 28, 29, 30] rfl rfl 0 0 rfl rfl rfl rfl rfl rfl rfl hl.1 (Nat.le_of_ble_eq_true rfl) dX6_restore_42 (fun H locs hP hD hS => ?_)
          refine lv_iconst (v := 1) hx hb dX6_restore_45 (by decide) ?_
          obtain rfl := Option.some.inj hf
          exact hret H locs _ _ hP hS rfl dX6_restore_46
        · have hf := bs_f hf c14
          refine bs_topq (a := im1h) (bs_im1 c14) ?_
          obtain ⟨z17, hz17, hf⟩ := bs_b hf
          refine bs_cVv (ws1 := [(psh, .inr (6, [.ref rowsh, .ref tapeh, .ref nowh, .ref drafth, .ref trialh, .ref psq_images, .ref actsh, .ref sackh, .ref asksh, .int ps_latestFault, .int ps_latestFinding])), (psq_images, .inl (cS, 2, .inr (.inr (.inr (.inr (fun j : Nat => if j = 0 then some im0h else some im1h)))))), (nowh, .inr (4, [.int z17.1, .int z17.2.1, .int z17.2.2.1, .int z17.2.2.2.1, .int z17.2.2.2.2.1, .int z17.2.2.2.2.2.1, .ref nowq_keeping, .ref nowq_giverOf, .ref nowq_deedOf, .ref nowq_dayOf, .ref nowq_likelyOf, .ref nowq_kindOf, .ref nowq_settledOf])), (nowq_keeping, .inl (cI, 4, .inl z17.2.2.2.2.2.2.1)), (nowq_giverOf, .inl (cI, 8, .inl z17.2.2.2.2.2.2.2.1)), (nowq_deedOf, .inl (cI, 8, .inl z17.2.2.2.2.2.2.2.2.1)), (nowq_dayOf, .inl (cI, 8, .inl z17.2.2.2.2.2.2.2.2.2.1)), (nowq_likelyOf, .inl (cI, 8, .inl z17.2.2.2.2.2.2.2.2.2.2.1)), (nowq_kindOf, .inl (cI, 8, .inl z17.2.2.2.2.2.2.2.2.2.2.2.1)), (nowq_settledOf, .inl (cI, 8, .inl z17.2.2.2.2.2.2.2.2.2.2.2.2)), (im0h, .inr (4, [.int im0_told, .int im0_wax, .int im0_stick, .int im0_givers, .int im0_promises, .int im0_pan, .ref im0q_keeping, .ref im0q_giverOf, .ref im0q_deedOf, .ref im0q_dayOf, .ref im0q_likelyOf, .ref im0q_kindOf, .ref im0q_settledOf])), (im0q_keeping, .inl (cI, 4, .inl im0_keeping)), (im0q_giverOf, .inl (cI, 8, .inl im0_giverOf)), (im0q_deedOf, .inl (cI, 8, .inl im0_deedOf)), (im0q_dayOf, .inl (cI, 8, .inl im0_dayOf)), (im0q_likelyOf, .inl (cI, 8, .inl im0_likelyOf)), (im0q_kindOf, .inl (cI, 8, .inl im0_kindOf)), (im0q_settledOf, .inl (cI, 8, .inl im0_settledOf)), (im1h, .inr (4, [.int im1_told, .int im1_wax, .int im1_stick, .int im1_givers, .int im1_promises, .int im1_pan, .ref im1q_keeping, .ref im1q_giverOf, .ref im1q_deedOf, .ref im1q_dayOf, .ref im1q_likelyOf, .ref im1q_kindOf, .ref im1q_settledOf])), (im1q_keeping, .inl (cI, 4, .inl im1_keeping)), (im1q_giverOf, .inl (cI, 8, .inl im1_giverOf)), (im1q_deedOf, .inl (cI, 8, .inl im1_deedOf)), (im1q_dayOf, .inl (cI, 8, .inl im1_dayOf)), (im1q_likelyOf, .inl (cI, 8, .inl im1_likelyOf)), (im1q_kindOf, .inl (cI, 8, .inl im1_kindOf)), (im1q_settledOf, .inl (cI, 8, .inl im1_settledOf)), (actsh, .inr (0, [.ref actsq_promiseOf, .ref actsq_waxOf, .ref actsq_panOf, .ref actsq_keepsOf, .int acts_oldest, .int acts_kept])), (actsq_promiseOf, .inl (cI, 24, .inl acts_promiseOf)), (actsq_waxOf, .inl (cI, 24, .inl acts_waxOf)), (actsq_panOf, .inl (cI, 24, .inl acts_panOf)), (actsq_keepsOf, .inl (cI, 24, .inl acts_keepsOf))]) ⟨hx, hb, hml, hown, hts⟩ (k_X4_become l dC dI cI cZ cS cG nowh nowq_keeping nowq_giverOf nowq_deedOf nowq_dayOf nowq_likelyOf nowq_kindOf nowq_settledOf im1h im1q_keeping im1q_giverOf im1q_deedOf im1q_dayOf im1q_likelyOf im1q_kindOf im1q_settledOf now_told now_wax now_stick now_givers now_promises now_pan now_keeping now_giverOf now_deedOf now_dayOf now_likelyOf now_kindOf now_settledOf im1_told im1_wax im1_stick im1_givers im1_promises im1_pan im1_keeping im1_giverOf im1_deedOf im1_dayOf im1_likelyOf im1_kindOf im1_settledOf z17 hz17) (cwV 1 hts gX6_restore_X4_become rfl rfl rfl (by decide +kernel) ⟨Nat.le_of_ble_eq_true rfl, Nat.le_of_ble_eq_true rfl⟩) hE hP hD hA hS [2, 3, 4, 5, 6, 7, 8, 9, 18, 19, 20, 21, 22, 23, 24, 25] rfl rfl 4 0 rfl rfl rfl rfl rfl rfl rfl hl.1 (Nat.le_of_ble_eq_true rfl) dX6_restore_35 (fun H locs hP hD hS => ?_)
          refine lv_aload_n hx hb dX6_restore_38 rfl (lv_at hl 0 rfl) ?_
          refine va_get (D := (dC, dI)) (ci := 6) (v := .ref actsh) (C := RX6) (T := TX6) (N := 11) hx hb hts hin6 hown hK hP 0 rfl rfl 6 (by decide) k43 (fun _ h9 => h9) rfl dX6_restore_39 ?_
          obtain ⟨z18, hz18, hf⟩ := bs_b hf
          refine bs_cVv (ws1 := [(psh, .inr (6, [.ref rowsh, .ref tapeh, .ref nowh, .ref drafth, .ref trialh, .ref psq_images, .ref actsh, .ref sackh, .ref asksh, .int ps_latestFault, .int ps_latestFinding])), (psq_images, .inl (cS, 2, .inr (.inr (.inr (.inr (fun j : Nat => if j = 0 then some im0h else some im1h)))))), (nowh, .inr (4, [.int z17.1, .int z17.2.1, .int z17.2.2.1, .int z17.2.2.2.1, .int z17.2.2.2.2.1, .int z17.2.2.2.2.2.1, .ref nowq_keeping, .ref nowq_giverOf, .ref nowq_deedOf, .ref nowq_dayOf, .ref nowq_likelyOf, .ref nowq_kindOf, .ref nowq_settledOf])), (nowq_keeping, .inl (cI, 4, .inl z17.2.2.2.2.2.2.1)), (nowq_giverOf, .inl (cI, 8, .inl z17.2.2.2.2.2.2.2.1)), (nowq_deedOf, .inl (cI, 8, .inl z17.2.2.2.2.2.2.2.2.1)), (nowq_dayOf, .inl (cI, 8, .inl z17.2.2.2.2.2.2.2.2.2.1)), (nowq_likelyOf, .inl (cI, 8, .inl z17.2.2.2.2.2.2.2.2.2.2.1)), (nowq_kindOf, .inl (cI, 8, .inl z17.2.2.2.2.2.2.2.2.2.2.2.1)), (nowq_settledOf, .inl (cI, 8, .inl z17.2.2.2.2.2.2.2.2.2.2.2.2)), (im0h, .inr (4, [.int im0_told, .int im0_wax, .int im0_stick, .int im0_givers, .int im0_promises, .int im0_pan, .ref im0q_keeping, .ref im0q_giverOf, .ref im0q_deedOf, .ref im0q_dayOf, .ref im0q_likelyOf, .ref im0q_kindOf, .ref im0q_settledOf])), (im0q_keeping, .inl (cI, 4, .inl im0_keeping)), (im0q_giverOf, .inl (cI, 8, .inl im0_giverOf)), (im0q_deedOf, .inl (cI, 8, .inl im0_deedOf)), (im0q_dayOf, .inl (cI, 8, .inl im0_dayOf)), (im0q_likelyOf, .inl (cI, 8, .inl im0_likelyOf)), (im0q_kindOf, .inl (cI, 8, .inl im0_kindOf)), (im0q_settledOf, .inl (cI, 8, .inl im0_settledOf)), (im1h, .inr (4, [.int im1_told, .int im1_wax, .int im1_stick, .int im1_givers, .int im1_promises, .int im1_pan, .ref im1q_keeping, .ref im1q_giverOf, .ref im1q_deedOf, .ref im1q_dayOf, .ref im1q_likelyOf, .ref im1q_kindOf, .ref im1q_settledOf])), (im1q_keeping, .inl (cI, 4, .inl im1_keeping)), (im1q_giverOf, .inl (cI, 8, .inl im1_giverOf)), (im1q_deedOf, .inl (cI, 8, .inl im1_deedOf)), (im1q_dayOf, .inl (cI, 8, .inl im1_dayOf)), (im1q_likelyOf, .inl (cI, 8, .inl im1_likelyOf)), (im1q_kindOf, .inl (cI, 8, .inl im1_kindOf)), (im1q_settledOf, .inl (cI, 8, .inl im1_settledOf)), (actsh, .inr (0, [.ref actsq_promiseOf, .ref actsq_waxOf, .ref actsq_panOf, .ref actsq_keepsOf, .int z18.1, .int z18.2])), (actsq_promiseOf, .inl (cI, 24, .inl acts_promiseOf)), (actsq_waxOf, .inl (cI, 24, .inl acts_waxOf)), (actsq_panOf, .inl (cI, 24, .inl acts_panOf)), (actsq_keepsOf, .inl (cI, 24, .inl acts_keepsOf))]) ⟨hx, hb, hml, hown, hts⟩ (k_X0_forgetAll l dC dI cI cZ cS cG actsh actsq_promiseOf actsq_waxOf actsq_panOf actsq_keepsOf acts_promiseOf acts_waxOf acts_panOf acts_keepsOf acts_oldest acts_kept z18 hz18) (cwV 0 hts gX6_restore_X0_forgetAll rfl rfl rfl (by decide +kernel) ⟨Nat.le_of_ble_eq_true rfl, Nat.le_of_ble_eq_true rfl⟩) hE hP hD hA hS [26, 27, 28, 29, 30] rfl rfl 0 0 rfl rfl rfl rfl rfl rfl rfl hl.1 (Nat.le_of_ble_eq_true rfl) dX6_restore_42 (fun H locs hP hD hS => ?_)
          refine lv_iconst (v := 1) hx hb dX6_restore_45 (by decide) ?_
          obtain rfl := Option.some.inj hf
          exact hret H locs _ _ hP hS rfl dX6_restore_46
      · have hf := bs_t hf c12
        refine lv_ldc hx hb hown (hts (.constant RX6 145 (-1000002)) (by decide +kernel)) dX6_restore_22 ?_
        obtain rfl := Option.some.inj hf
        exact hret H locs _ _ hP hS rfl dX6_restore_24
  · have hf := bs_t hf c2
    refine lv_ldc hx hb hown (hts (.constant RX6 69 (-1000001)) (by decide +kernel)) dX6_restore_7 ?_
    obtain rfl := Option.some.inj hf
    exact hret H locs _ _ hP hS rfl dX6_restore_9
set_option maxHeartbeats 4000000 in
set_option maxRecDepth 100000 in
theorem k_X6_kind (l : Launch) (dC : Nat → ClassId) (dI : Nat → Nat → Nat) (cI cZ cS cG : ClassId) (psh : Nat) (rowsh : Nat) (tapeh : Nat) (nowh : Nat) (drafth : Nat) (trialh : Nat) (psq_images : Nat) (actsh : Nat) (sackh : Nat) (asksh : Nat) (nowq_keeping : Nat) (nowq_giverOf : Nat) (nowq_deedOf : Nat) (nowq_dayOf : Nat) (nowq_likelyOf : Nat) (nowq_kindOf : Nat) (nowq_settledOf : Nat) (ps_latestFault : Int32) (ps_latestFinding : Int32) (now_told : Int32) (now_wax : Int32) (now_stick : Int32) (now_givers : Int32) (now_promises : Int32) (now_pan : Int32) (now_keeping : Nat → Int32) (now_giverOf : Nat → Int32) (now_deedOf : Nat → Int32) (now_dayOf : Nat → Int32) (now_likelyOf : Nat → Int32) (now_kindOf : Nat → Int32) (now_settledOf : Nat → Int32) (p1 : Int32) (out : Int32) (hf : f_X6_kind now_promises now_kindOf p1 = some out) : bs_C l dC dI cI cZ cS cG yX6_kind wsX6_kind ({ frames := 1, cells := 0, slots := 0, locals := 21 } : Room) [.ref psh, .int p1] ([(psh, .inr (6, [.ref rowsh, .ref tapeh, .ref nowh, .ref drafth, .ref trialh, .ref psq_images, .ref actsh, .ref sackh, .ref asksh, .int ps_latestFault, .int ps_latestFinding])), (nowh, .inr (4, [.int now_told, .int now_wax, .int now_stick, .int now_givers, .int now_promises, .int now_pan, .ref nowq_keeping, .ref nowq_giverOf, .ref nowq_deedOf, .ref nowq_dayOf, .ref nowq_likelyOf, .ref nowq_kindOf, .ref nowq_settledOf])), (nowq_keeping, .inl (cI, 4, .inl now_keeping)), (nowq_giverOf, .inl (cI, 8, .inl now_giverOf)), (nowq_deedOf, .inl (cI, 8, .inl now_deedOf)), (nowq_dayOf, .inl (cI, 8, .inl now_dayOf)), (nowq_likelyOf, .inl (cI, 8, .inl now_likelyOf)), (nowq_kindOf, .inl (cI, 8, .inl now_kindOf)), (nowq_settledOf, .inl (cI, 8, .inl now_settledOf))]) out ([(psh, .inr (6, [.ref rowsh, .ref tapeh, .ref nowh, .ref drafth, .ref trialh, .ref psq_images, .ref actsh, .ref sackh, .ref asksh, .int ps_latestFault, .int ps_latestFinding])), (nowh, .inr (4, [.int now_told, .int now_wax, .int now_stick, .int now_givers, .int now_promises, .int now_pan, .ref nowq_keeping, .ref nowq_giverOf, .ref nowq_deedOf, .ref nowq_dayOf, .ref nowq_likelyOf, .ref nowq_kindOf, .ref nowq_settledOf])), (nowq_keeping, .inl (cI, 4, .inl now_keeping)), (nowq_giverOf, .inl (cI, 8, .inl now_giverOf)), (nowq_deedOf, .inl (cI, 8, .inl now_deedOf)), (nowq_dayOf, .inl (cI, 8, .inl now_dayOf)), (nowq_likelyOf, .inl (cI, 8, .inl now_likelyOf)), (nowq_kindOf, .inl (cI, 8, .inl now_kindOf)), (nowq_settledOf, .inl (cI, 8, .inl now_settledOf))]) := by
  refine bs_ofI (cc := cX6_kind) (maxL := 2) (by decide) rfl (Nat.le_of_ble_eq_true rfl) ?_
  intro p e s m below meth c A Q hx hb hown hml hts hE H locs hP hD hA hS ls hl hret
  have hK := hE.1
  have hl : lv_has ls 2 [(0, .ref psh), (1, .int p1)] := hl
  have hin4 : ∀ w ∈ u_ws RX4 TX4 13, w ∈ wsX6_kind := by decide +kernel
  have hin6 : ∀ w ∈ u_ws RX6 TX6 11, w ∈ wsX6_kind := by decide +kernel
  have k26 := hts (.fieldLink RX6 26 "PromiseScales" "now" "LPromiseScales$Scales;") (by decide +kernel)
  have k265 := hts (.fieldLink RX6 265 "PromiseScales$Scales" "kindOf" "[I") (by decide +kernel)
  unfold f_X6_kind at hf
  refine lv_aload_n hx hb dX6_kind_0 rfl (lv_at hl 0 rfl) ?_
  refine lv_iload_n hx hb dX6_kind_1 rfl (lv_at hl 1 rfl) ?_
  obtain ⟨z1, hz1, hf⟩ := bs_b hf
  refine bs_cViR ⟨hx, hb, hml, hown, hts⟩ (k_X6_isPromise l dC dI cI cZ cS cG psh rowsh tapeh nowh drafth trialh psq_images actsh sackh asksh nowq_keeping nowq_giverOf nowq_deedOf nowq_dayOf nowq_likelyOf nowq_kindOf nowq_settledOf ps_latestFault ps_latestFinding now_told now_wax now_stick now_givers now_promises now_pan now_keeping now_giverOf now_deedOf now_dayOf now_likelyOf now_kindOf now_settledOf p1 z1 hz1) (cwV 1 hts gX6_kind_X6_isPromise rfl rfl rfl (by decide +kernel) ⟨Nat.le_of_ble_eq_true rfl, Nat.le_of_ble_eq_true rfl⟩) hE hP hD hA hS [0, 1, 2, 3, 4, 5, 6, 7, 8] rfl rfl 6 0 rfl rfl rfl rfl hl.1 (Nat.le_of_ble_eq_true rfl) dX6_kind_2 (fun H locs hP hS => ?_)
  refine lv_if_eq (tgt := 20) hx hb dX6_kind_5 (by decide) (fun c2 => ?_) (fun c2 => ?_)
  · have hf := bs_t hf c2
    refine lv_ldc hx hb hown (hts (.constant RX6 69 (-1000001)) (by decide +kernel)) dX6_kind_20 ?_
    obtain rfl := Option.some.inj hf
    exact hret H locs _ _ hP hS rfl dX6_kind_22
  · have hf := bs_f hf c2
    refine lv_aload_n hx hb dX6_kind_8 rfl (lv_at hl 0 rfl) ?_
    refine va_get (D := (dC, dI)) (ci := 6) (v := .ref nowh) (C := RX6) (T := TX6) (N := 11) hx hb hts hin6 hown hK hP 0 rfl rfl 2 (by decide) k26 (fun _ h9 => h9) rfl dX6_kind_9 ?_
    refine va_get (D := (dC, dI)) (ci := 4) (v := .ref nowq_kindOf) (C := RX4) (T := TX4) (N := 13) hx hb hts hin4 hown hK hP 1 rfl rfl 11 (by decide) k265 (fun _ h9 => h9) rfl dX6_kind_12 ?_
    refine lv_iload_n hx hb dX6_kind_15 rfl (lv_at hl 1 rfl) ?_
    obtain ⟨g3, hf⟩ := bs_g hf
    refine va_iald hx hb hK hP 7 0 rfl rfl (bs_inV g3) dX6_kind_16 ?_
    refine lv_goto (tgt := 22) hx hb dX6_kind_17 (by decide) ?_
    obtain rfl := Option.some.inj hf
    exact hret H locs _ _ hP hS rfl dX6_kind_22
set_option maxHeartbeats 4000000 in
set_option maxRecDepth 100000 in
theorem k_X6_as (l : Launch) (dC : Nat → ClassId) (dI : Nat → Nat → Nat) (cI cZ cS cG : ClassId) (psh : Nat) (rowsh : Nat) (tapeh : Nat) (nowh : Nat) (drafth : Nat) (trialh : Nat) (psq_images : Nat) (actsh : Nat) (sackh : Nat) (asksh : Nat) (nowq_keeping : Nat) (nowq_giverOf : Nat) (nowq_deedOf : Nat) (nowq_dayOf : Nat) (nowq_likelyOf : Nat) (nowq_kindOf : Nat) (nowq_settledOf : Nat) (ps_latestFault : Int32) (ps_latestFinding : Int32) (now_told : Int32) (now_wax : Int32) (now_stick : Int32) (now_givers : Int32) (now_promises : Int32) (now_pan : Int32) (now_keeping : Nat → Int32) (now_giverOf : Nat → Int32) (now_deedOf : Nat → Int32) (now_dayOf : Nat → Int32) (now_likelyOf : Nat → Int32) (now_kindOf : Nat → Int32) (now_settledOf : Nat → Int32) (p1 : Int32) (p2 : Int32) (out : Int32 × Int32) (hf : f_X6_as ps_latestFinding now_promises now_kindOf p1 p2 = some out) : bs_C l dC dI cI cZ cS cG yX6_as wsX6_as ({ frames := 2, cells := 0, slots := 0, locals := 43 } : Room) [.ref psh, .int p1, .int p2] ([(psh, .inr (6, [.ref rowsh, .ref tapeh, .ref nowh, .ref drafth, .ref trialh, .ref psq_images, .ref actsh, .ref sackh, .ref asksh, .int ps_latestFault, .int ps_latestFinding])), (nowh, .inr (4, [.int now_told, .int now_wax, .int now_stick, .int now_givers, .int now_promises, .int now_pan, .ref nowq_keeping, .ref nowq_giverOf, .ref nowq_deedOf, .ref nowq_dayOf, .ref nowq_likelyOf, .ref nowq_kindOf, .ref nowq_settledOf])), (nowq_keeping, .inl (cI, 4, .inl now_keeping)), (nowq_giverOf, .inl (cI, 8, .inl now_giverOf)), (nowq_deedOf, .inl (cI, 8, .inl now_deedOf)), (nowq_dayOf, .inl (cI, 8, .inl now_dayOf)), (nowq_likelyOf, .inl (cI, 8, .inl now_likelyOf)), (nowq_kindOf, .inl (cI, 8, .inl now_kindOf)), (nowq_settledOf, .inl (cI, 8, .inl now_settledOf))]) out.1 ([(psh, .inr (6, [.ref rowsh, .ref tapeh, .ref nowh, .ref drafth, .ref trialh, .ref psq_images, .ref actsh, .ref sackh, .ref asksh, .int ps_latestFault, .int out.2])), (nowh, .inr (4, [.int now_told, .int now_wax, .int now_stick, .int now_givers, .int now_promises, .int now_pan, .ref nowq_keeping, .ref nowq_giverOf, .ref nowq_deedOf, .ref nowq_dayOf, .ref nowq_likelyOf, .ref nowq_kindOf, .ref nowq_settledOf])), (nowq_keeping, .inl (cI, 4, .inl now_keeping)), (nowq_giverOf, .inl (cI, 8, .inl now_giverOf)), (nowq_deedOf, .inl (cI, 8, .inl now_deedOf)), (nowq_dayOf, .inl (cI, 8, .inl now_dayOf)), (nowq_likelyOf, .inl (cI, 8, .inl now_likelyOf)), (nowq_kindOf, .inl (cI, 8, .inl now_kindOf)), (nowq_settledOf, .inl (cI, 8, .inl now_settledOf))]) := by
  refine bs_ofI (cc := cX6_as) (maxL := 3) (by decide) rfl (Nat.le_of_ble_eq_true rfl) ?_
  intro p e s m below meth c A Q hx hb hown hml hts hE H locs hP hD hA hS ls hl hret
  have hK := hE.1
  have hl : lv_has ls 3 [(0, .ref psh), (1, .int p1), (2, .int p2)] := hl
  have hin4 : ∀ w ∈ u_ws RX4 TX4 13, w ∈ wsX6_as := by decide +kernel
  have hin6 : ∀ w ∈ u_ws RX6 TX6 11, w ∈ wsX6_as := by decide +kernel
  have k26 := hts (.fieldLink RX6 26 "PromiseScales" "now" "LPromiseScales$Scales;") (by decide +kernel)
  have k265 := hts (.fieldLink RX6 265 "PromiseScales$Scales" "kindOf" "[I") (by decide +kernel)
  unfold f_X6_as at hf
  refine lv_aload_n hx hb dX6_as_0 rfl (lv_at hl 0 rfl) ?_
  refine lv_iload_n hx hb dX6_as_1 rfl (lv_at hl 1 rfl) ?_
  obtain ⟨z1, hz1, hf⟩ := bs_b hf
  refine bs_cViR ⟨hx, hb, hml, hown, hts⟩ (k_X6_isPromise l dC dI cI cZ cS cG psh rowsh tapeh nowh drafth trialh psq_images actsh sackh asksh nowq_keeping nowq_giverOf nowq_deedOf nowq_dayOf nowq_likelyOf nowq_kindOf nowq_settledOf ps_latestFault ps_latestFinding now_told now_wax now_stick now_givers now_promises now_pan now_keeping now_giverOf now_deedOf now_dayOf now_likelyOf now_kindOf now_settledOf p1 z1 hz1) (cwV 1 hts gX6_as_X6_isPromise rfl rfl rfl (by decide +kernel) ⟨Nat.le_of_ble_eq_true rfl, Nat.le_of_ble_eq_true rfl⟩) hE hP hD hA hS [0, 1, 2, 3, 4, 5, 6, 7, 8] rfl rfl 6 0 rfl rfl rfl rfl hl.1 (Nat.le_of_ble_eq_true rfl) dX6_as_2 (fun H locs hP hS => ?_)
  refine lv_if_eq (tgt := 17) hx hb dX6_as_5 (by decide) (fun c2 => ?_) (fun c2 => ?_)
  · have hf := bs_t hf c2
    refine lv_ldc hx hb hown (hts (.constant RX6 69 (-1000001)) (by decide +kernel)) dX6_as_17 ?_
    obtain rfl := Option.some.inj hf
    exact hret H locs _ _ hP hS rfl dX6_as_19
  · have hf := bs_f hf c2
    refine lv_iload_n hx hb dX6_as_8 rfl (lv_at hl 2 rfl) ?_
    refine lv_iconst (v := 0) hx hb dX6_as_9 (by decide) ?_
    refine lv_iconst (v := 5) hx hb dX6_as_10 (by decide) ?_
    obtain ⟨z3, hz3, hf⟩ := bs_b hf
    refine bs_cSi ⟨hx, hb, hml, hown, hts⟩ (k_X6_isWithin l dC dI cI cZ cS cG p2 (0 : Int32) (5 : Int32) z3 hz3) (va_cwS 3 hts gX6_as_X6_isWithin rfl rfl rfl (by decide +kernel) ⟨Nat.le_of_ble_eq_true rfl, Nat.le_of_ble_eq_true rfl⟩) hE hP hD hA hS rfl rfl hl.1 (Nat.le_of_ble_eq_true rfl) dX6_as_11 (fun H locs hP hS => ?_)
    refine lv_if_ne (tgt := 20) hx hb dX6_as_14 (by decide) (fun c4 => ?_) (fun c4 => ?_)
    · have hf := bs_f hf c4
      refine lv_aload_n hx hb dX6_as_20 rfl (lv_at hl 0 rfl) ?_
      refine va_get (D := (dC, dI)) (ci := 6) (v := .ref nowh) (C := RX6) (T := TX6) (N := 11) hx hb hts hin6 hown hK hP 0 rfl rfl 2 (by decide) k26 (fun _ h9 => h9) rfl dX6_as_21 ?_
      refine va_get (D := (dC, dI)) (ci := 4) (v := .ref nowq_kindOf) (C := RX4) (T := TX4) (N := 13) hx hb hts hin4 hown hK hP 1 rfl rfl 11 (by decide) k265 (fun _ h9 => h9) rfl dX6_as_24 ?_
      refine lv_iload_n hx hb dX6_as_27 rfl (lv_at hl 1 rfl) ?_
      obtain ⟨g5, hf⟩ := bs_g hf
      refine va_iald hx hb hK hP 7 0 rfl rfl (bs_inV g5) dX6_as_28 ?_
      refine lv_iload_n hx hb dX6_as_29 rfl (lv_at hl 2 rfl) ?_
      obtain ⟨z6, hz6, hf⟩ := bs_b hf
      refine bs_cSi ⟨hx, hb, hml, hown, hts⟩ (k_X6_isOfKind l dC dI cI cZ cS cG (now_kindOf p1.toNatClampNeg) p2 z6 hz6) (va_cwS 2 hts gX6_as_X6_isOfKind rfl rfl rfl (by decide +kernel) ⟨Nat.le_of_ble_eq_true rfl, Nat.le_of_ble_eq_true rfl⟩) hE hP hD hA hS rfl rfl hl.1 (Nat.le_of_ble_eq_true rfl) dX6_as_30 (fun H locs hP hS => ?_)
      refine lv_if_eq (tgt := 44) hx hb dX6_as_33 (by decide) (fun c7 => ?_) (fun c7 => ?_)
      · have hf := bs_t hf c7
        refine lv_aload_n hx hb dX6_as_44 rfl (lv_at hl 0 rfl) ?_
        refine lv_iconst (v := 3) hx hb dX6_as_45 (by decide) ?_
        obtain ⟨z8, hz8, hf⟩ := bs_b hf
        refine bs_cVi (ws1 := [(psh, .inr (6, [.ref rowsh, .ref tapeh, .ref nowh, .ref drafth, .ref trialh, .ref psq_images, .ref actsh, .ref sackh, .ref asksh, .int ps_latestFault, .int z8.2])), (nowh, .inr (4, [.int now_told, .int now_wax, .int now_stick, .int now_givers, .int now_promises, .int now_pan, .ref nowq_keeping, .ref nowq_giverOf, .ref nowq_deedOf, .ref nowq_dayOf, .ref nowq_likelyOf, .ref nowq_kindOf, .ref nowq_settledOf])), (nowq_keeping, .inl (cI, 4, .inl now_keeping)), (nowq_giverOf, .inl (cI, 8, .inl now_giverOf)), (nowq_deedOf, .inl (cI, 8, .inl now_deedOf)), (nowq_dayOf, .inl (cI, 8, .inl now_dayOf)), (nowq_likelyOf, .inl (cI, 8, .inl now_likelyOf)), (nowq_kindOf, .inl (cI, 8, .inl now_kindOf)), (nowq_settledOf, .inl (cI, 8, .inl now_settledOf))]) ⟨hx, hb, hml, hown, hts⟩ (k_X6_finding l dC dI cI cZ cS cG psh rowsh tapeh nowh drafth trialh psq_images actsh sackh asksh ps_latestFault ps_latestFinding (3 : Int32) z8 hz8) (cwV 1 hts gX6_as_X6_finding rfl rfl rfl (by decide +kernel) ⟨Nat.le_of_ble_eq_true rfl, Nat.le_of_ble_eq_true rfl⟩) hE hP hD hA hS [0] rfl rfl 6 0 rfl rfl rfl rfl rfl rfl rfl hl.1 (Nat.le_of_ble_eq_true rfl) dX6_as_46 (fun H locs hP hD hS => ?_)
        obtain rfl := Option.some.inj hf
        exact hret H locs _ _ hP hS rfl dX6_as_49
      · have hf := bs_f hf c7
        refine lv_aload_n hx hb dX6_as_36 rfl (lv_at hl 0 rfl) ?_
        refine lv_iload_n hx hb dX6_as_37 rfl (lv_at hl 1 rfl) ?_
        obtain ⟨z9, hz9, hf⟩ := bs_b hf
        refine bs_cVi (ws1 := [(psh, .inr (6, [.ref rowsh, .ref tapeh, .ref nowh, .ref drafth, .ref trialh, .ref psq_images, .ref actsh, .ref sackh, .ref asksh, .int ps_latestFault, .int z9.2])), (nowh, .inr (4, [.int now_told, .int now_wax, .int now_stick, .int now_givers, .int now_promises, .int now_pan, .ref nowq_keeping, .ref nowq_giverOf, .ref nowq_deedOf, .ref nowq_dayOf, .ref nowq_likelyOf, .ref nowq_kindOf, .ref nowq_settledOf])), (nowq_keeping, .inl (cI, 4, .inl now_keeping)), (nowq_giverOf, .inl (cI, 8, .inl now_giverOf)), (nowq_deedOf, .inl (cI, 8, .inl now_deedOf)), (nowq_dayOf, .inl (cI, 8, .inl now_dayOf)), (nowq_likelyOf, .inl (cI, 8, .inl now_likelyOf)), (nowq_kindOf, .inl (cI, 8, .inl now_kindOf)), (nowq_settledOf, .inl (cI, 8, .inl now_settledOf))]) ⟨hx, hb, hml, hown, hts⟩ (k_X6_answered l dC dI cI cZ cS cG psh rowsh tapeh nowh drafth trialh psq_images actsh sackh asksh ps_latestFault ps_latestFinding p1 z9 hz9) (cwV 1 hts gX6_as_X6_answered rfl rfl rfl (by decide +kernel) ⟨Nat.le_of_ble_eq_true rfl, Nat.le_of_ble_eq_true rfl⟩) hE hP hD hA hS [0] rfl rfl 6 0 rfl rfl rfl rfl rfl rfl rfl hl.1 (Nat.le_of_ble_eq_true rfl) dX6_as_38 (fun H locs hP hD hS => ?_)
        refine lv_goto (tgt := 49) hx hb dX6_as_41 (by decide) ?_
        obtain rfl := Option.some.inj hf
        exact hret H locs _ _ hP hS rfl dX6_as_49
    · have hf := bs_t hf c4
      refine lv_ldc hx hb hown (hts (.constant RX6 69 (-1000001)) (by decide +kernel)) dX6_as_17 ?_
      obtain rfl := Option.some.inj hf
      exact hret H locs _ _ hP hS rfl dX6_as_19
set_option maxHeartbeats 4000000 in
set_option maxRecDepth 100000 in
theorem k_X6_ask (l : Launch) (dC : Nat → ClassId) (dI : Nat → Nat → Nat) (cI cZ cS cG : ClassId) (psh : Nat) (rowsh : Nat) (tapeh : Nat) (nowh : Nat) (drafth : Nat) (trialh : Nat) (psq_images : Nat) (actsh : Nat) (sackh : Nat) (asksh : Nat) (nowq_keeping : Nat) (nowq_giverOf : Nat) (nowq_deedOf : Nat) (nowq_dayOf : Nat) (nowq_likelyOf : Nat) (nowq_kindOf : Nat) (nowq_settledOf : Nat) (asksq_bodies : Nat) (ps_latestFault : Int32) (ps_latestFinding : Int32) (now_told : Int32) (now_wax : Int32) (now_stick : Int32) (now_givers : Int32) (now_promises : Int32) (now_pan : Int32) (now_keeping : Nat → Int32) (now_giverOf : Nat → Int32) (now_deedOf : Nat → Int32) (now_dayOf : Nat → Int32) (now_likelyOf : Nat → Int32) (now_kindOf : Nat → Int32) (now_settledOf : Nat → Int32) (asks_bodies : Nat → Int32) (asks_begun : Int32) (asks_kind : Int32) (asks_number : Int32) (asks_likely : Int32) (asks_weight : Int32) (p1 : Int32) (p2 : Int32) (out : Int32 × (Nat → Int32) × Int32 × Int32 × Int32 × Int32 × Int32) (hf : f_X6_ask now_promises now_keeping now_giverOf now_likelyOf now_kindOf now_settledOf asks_bodies asks_begun asks_kind asks_number asks_likely asks_weight p1 p2 = some out) : bs_C l dC dI cI cZ cS cG yX6_ask wsX6_ask ({ frames := 5, cells := 0, slots := 0, locals := 113 } : Room) [.ref psh, .int p1, .int p2] ([(psh, .inr (6, [.ref rowsh, .ref tapeh, .ref nowh, .ref drafth, .ref trialh, .ref psq_images, .ref actsh, .ref sackh, .ref asksh, .int ps_latestFault, .int ps_latestFinding])), (nowh, .inr (4, [.int now_told, .int now_wax, .int now_stick, .int now_givers, .int now_promises, .int now_pan, .ref nowq_keeping, .ref nowq_giverOf, .ref nowq_deedOf, .ref nowq_dayOf, .ref nowq_likelyOf, .ref nowq_kindOf, .ref nowq_settledOf])), (nowq_keeping, .inl (cI, 4, .inl now_keeping)), (nowq_giverOf, .inl (cI, 8, .inl now_giverOf)), (nowq_deedOf, .inl (cI, 8, .inl now_deedOf)), (nowq_dayOf, .inl (cI, 8, .inl now_dayOf)), (nowq_likelyOf, .inl (cI, 8, .inl now_likelyOf)), (nowq_kindOf, .inl (cI, 8, .inl now_kindOf)), (nowq_settledOf, .inl (cI, 8, .inl now_settledOf)), (asksh, .inr (1, [.ref asksq_bodies, .int asks_begun, .int asks_kind, .int asks_number, .int asks_likely, .int asks_weight])), (asksq_bodies, .inl (cI, 16, .inl asks_bodies))]) out.1 ([(psh, .inr (6, [.ref rowsh, .ref tapeh, .ref nowh, .ref drafth, .ref trialh, .ref psq_images, .ref actsh, .ref sackh, .ref asksh, .int ps_latestFault, .int ps_latestFinding])), (nowh, .inr (4, [.int now_told, .int now_wax, .int now_stick, .int now_givers, .int now_promises, .int now_pan, .ref nowq_keeping, .ref nowq_giverOf, .ref nowq_deedOf, .ref nowq_dayOf, .ref nowq_likelyOf, .ref nowq_kindOf, .ref nowq_settledOf])), (nowq_keeping, .inl (cI, 4, .inl now_keeping)), (nowq_giverOf, .inl (cI, 8, .inl now_giverOf)), (nowq_deedOf, .inl (cI, 8, .inl now_deedOf)), (nowq_dayOf, .inl (cI, 8, .inl now_dayOf)), (nowq_likelyOf, .inl (cI, 8, .inl now_likelyOf)), (nowq_kindOf, .inl (cI, 8, .inl now_kindOf)), (nowq_settledOf, .inl (cI, 8, .inl now_settledOf)), (asksh, .inr (1, [.ref asksq_bodies, .int out.2.2.1, .int out.2.2.2.1, .int out.2.2.2.2.1, .int out.2.2.2.2.2.1, .int out.2.2.2.2.2.2])), (asksq_bodies, .inl (cI, 16, .inl out.2.1))]) := by
  refine bs_ofI (cc := cX6_ask) (maxL := 3) (by decide) rfl (Nat.le_of_ble_eq_true rfl) ?_
  intro p e s m below meth c A Q hx hb hown hml hts hE H locs hP hD hA hS ls hl hret
  have hK := hE.1
  have hl : lv_has ls 3 [(0, .ref psh), (1, .int p1), (2, .int p2)] := hl
  have hin6 : ∀ w ∈ u_ws RX6 TX6 11, w ∈ wsX6_ask := by decide +kernel
  have k26 := hts (.fieldLink RX6 26 "PromiseScales" "now" "LPromiseScales$Scales;") (by decide +kernel)
  have k57 := hts (.fieldLink RX6 57 "PromiseScales" "asks" "LPromiseScales$Asks;") (by decide +kernel)
  unfold f_X6_ask at hf
  refine lv_aload_n hx hb dX6_ask_0 rfl (lv_at hl 0 rfl) ?_
  refine lv_iload_n hx hb dX6_ask_1 rfl (lv_at hl 1 rfl) ?_
  obtain ⟨z1, hz1, hf⟩ := bs_b hf
  refine bs_cViR ⟨hx, hb, hml, hown, hts⟩ (k_X6_isPromise l dC dI cI cZ cS cG psh rowsh tapeh nowh drafth trialh psq_images actsh sackh asksh nowq_keeping nowq_giverOf nowq_deedOf nowq_dayOf nowq_likelyOf nowq_kindOf nowq_settledOf ps_latestFault ps_latestFinding now_told now_wax now_stick now_givers now_promises now_pan now_keeping now_giverOf now_deedOf now_dayOf now_likelyOf now_kindOf now_settledOf p1 z1 hz1) (cwV 1 hts gX6_ask_X6_isPromise rfl rfl rfl (by decide +kernel) ⟨Nat.le_of_ble_eq_true rfl, Nat.le_of_ble_eq_true rfl⟩) hE hP hD hA hS [0, 1, 2, 3, 4, 5, 6, 7, 8] rfl rfl 6 0 rfl rfl rfl rfl hl.1 (Nat.le_of_ble_eq_true rfl) dX6_ask_2 (fun H locs hP hS => ?_)
  refine lv_if_eq (tgt := 15) hx hb dX6_ask_5 (by decide) (fun c2 => ?_) (fun c2 => ?_)
  · have hf := bs_t hf c2
    refine lv_ldc hx hb hown (hts (.constant RX6 69 (-1000001)) (by decide +kernel)) dX6_ask_15 ?_
    obtain rfl := Option.some.inj hf
    exact hret H locs _ _ hP hS rfl dX6_ask_17
  · have hf := bs_f hf c2
    refine lv_iload_n hx hb dX6_ask_8 rfl (lv_at hl 2 rfl) ?_
    obtain ⟨z3, hz3, hf⟩ := bs_b hf
    refine bs_cSi ⟨hx, hb, hml, hown, hts⟩ (k_X6_isEither l dC dI cI cZ cS cG p2 z3 hz3) (va_cwS 1 hts gX6_ask_X6_isEither rfl rfl rfl (by decide +kernel) ⟨Nat.le_of_ble_eq_true rfl, Nat.le_of_ble_eq_true rfl⟩) hE hP hD hA hS rfl rfl hl.1 (Nat.le_of_ble_eq_true rfl) dX6_ask_9 (fun H locs hP hS => ?_)
    refine lv_if_ne (tgt := 18) hx hb dX6_ask_12 (by decide) (fun c4 => ?_) (fun c4 => ?_)
    · have hf := bs_f hf c4
      refine lv_aload_n hx hb dX6_ask_18 rfl (lv_at hl 0 rfl) ?_
      refine va_get (D := (dC, dI)) (ci := 6) (v := .ref asksh) (C := RX6) (T := TX6) (N := 11) hx hb hts hin6 hown hK hP 0 rfl rfl 8 (by decide) k57 (fun _ h9 => h9) rfl dX6_ask_19 ?_
      refine lv_aload_n hx hb dX6_ask_22 rfl (lv_at hl 0 rfl) ?_
      refine va_get (D := (dC, dI)) (ci := 6) (v := .ref nowh) (C := RX6) (T := TX6) (N := 11) hx hb hts hin6 hown hK hP 0 rfl rfl 2 (by decide) k26 (fun _ h9 => h9) rfl dX6_ask_23 ?_
      refine lv_iload_n hx hb dX6_ask_26 rfl (lv_at hl 1 rfl) ?_
      obtain ⟨z5, hz5, hf⟩ := bs_b hf
      refine bs_cVv (ws1 := [(psh, .inr (6, [.ref rowsh, .ref tapeh, .ref nowh, .ref drafth, .ref trialh, .ref psq_images, .ref actsh, .ref sackh, .ref asksh, .int ps_latestFault, .int ps_latestFinding])), (nowh, .inr (4, [.int now_told, .int now_wax, .int now_stick, .int now_givers, .int now_promises, .int now_pan, .ref nowq_keeping, .ref nowq_giverOf, .ref nowq_deedOf, .ref nowq_dayOf, .ref nowq_likelyOf, .ref nowq_kindOf, .ref nowq_settledOf])), (nowq_keeping, .inl (cI, 4, .inl now_keeping)), (nowq_giverOf, .inl (cI, 8, .inl now_giverOf)), (nowq_deedOf, .inl (cI, 8, .inl now_deedOf)), (nowq_dayOf, .inl (cI, 8, .inl now_dayOf)), (nowq_likelyOf, .inl (cI, 8, .inl now_likelyOf)), (nowq_kindOf, .inl (cI, 8, .inl now_kindOf)), (nowq_settledOf, .inl (cI, 8, .inl now_settledOf)), (asksh, .inr (1, [.ref asksq_bodies, .int z5.1, .int z5.2.1, .int z5.2.2.1, .int z5.2.2.2.1, .int z5.2.2.2.2])), (asksq_bodies, .inl (cI, 16, .inl asks_bodies))]) ⟨hx, hb, hml, hown, hts⟩ (k_X1_turnTo l dC dI cI cZ cS cG asksh asksq_bodies nowh nowq_keeping nowq_giverOf nowq_deedOf nowq_dayOf nowq_likelyOf nowq_kindOf nowq_settledOf asks_bodies asks_begun asks_kind asks_number asks_likely asks_weight now_told now_wax now_stick now_givers now_promises now_pan now_keeping now_giverOf now_deedOf now_dayOf now_likelyOf now_kindOf now_settledOf p1 z5 hz5) (cwV 2 hts gX6_ask_X1_turnTo rfl rfl rfl (by decide +kernel) ⟨Nat.le_of_ble_eq_true rfl, Nat.le_of_ble_eq_true rfl⟩) hE hP hD hA hS [9, 10, 1, 2, 3, 4, 5, 6, 7, 8] rfl rfl 1 0 rfl rfl rfl rfl rfl rfl rfl hl.1 (Nat.le_of_ble_eq_true rfl) dX6_ask_27 (fun H locs hP hD hS => ?_)
      refine lv_iload_n hx hb dX6_ask_30 rfl (lv_at hl 2 rfl) ?_
      refine lv_if_ne (tgt := 44) hx hb dX6_ask_31 (by decide) (fun c6 => ?_) (fun c6 => ?_)
      · have hf := bs_f hf c6
        refine lv_aload_n hx hb dX6_ask_44 rfl (lv_at hl 0 rfl) ?_
        refine va_get (D := (dC, dI)) (ci := 6) (v := .ref asksh) (C := RX6) (T := TX6) (N := 11) hx hb hts hin6 hown hK hP 0 rfl rfl 8 (by decide) k57 (fun _ h9 => h9) rfl dX6_ask_45 ?_
        obtain ⟨z7, hz7, hf⟩ := bs_b hf
        refine bs_cVi (ws1 := [(psh, .inr (6, [.ref rowsh, .ref tapeh, .ref nowh, .ref drafth, .ref trialh, .ref psq_images, .ref actsh, .ref sackh, .ref asksh, .int ps_latestFault, .int ps_latestFinding])), (nowh, .inr (4, [.int now_told, .int now_wax, .int now_stick, .int now_givers, .int now_promises, .int now_pan, .ref nowq_keeping, .ref nowq_giverOf, .ref nowq_deedOf, .ref nowq_dayOf, .ref nowq_likelyOf, .ref nowq_kindOf, .ref nowq_settledOf])), (nowq_keeping, .inl (cI, 4, .inl now_keeping)), (nowq_giverOf, .inl (cI, 8, .inl now_giverOf)), (nowq_deedOf, .inl (cI, 8, .inl now_deedOf)), (nowq_dayOf, .inl (cI, 8, .inl now_dayOf)), (nowq_likelyOf, .inl (cI, 8, .inl now_likelyOf)), (nowq_kindOf, .inl (cI, 8, .inl now_kindOf)), (nowq_settledOf, .inl (cI, 8, .inl now_settledOf)), (asksh, .inr (1, [.ref asksq_bodies, .int z7.2.2, .int z5.2.1, .int z5.2.2.1, .int z5.2.2.2.1, .int z5.2.2.2.2])), (asksq_bodies, .inl (cI, 16, .inl z7.2.1))]) ⟨hx, hb, hml, hown, hts⟩ (k_X1_mark l dC dI cI cZ cS cG asksh asksq_bodies asks_bodies z5.1 z5.2.1 z5.2.2.1 z5.2.2.2.1 z5.2.2.2.2 z7 hz7) (cwV 0 hts gX6_ask_X1_mark rfl rfl rfl (by decide +kernel) ⟨Nat.le_of_ble_eq_true rfl, Nat.le_of_ble_eq_true rfl⟩) hE hP hD hA hS [9, 10] rfl rfl 1 0 rfl rfl rfl rfl rfl rfl rfl hl.1 (Nat.le_of_ble_eq_true rfl) dX6_ask_48 (fun H locs hP hD hS => ?_)
        obtain rfl := Option.some.inj hf
        exact hret H locs _ _ hP hS rfl dX6_ask_51
      · have hf := bs_t hf c6
        refine lv_aload_n hx hb dX6_ask_34 rfl (lv_at hl 0 rfl) ?_
        refine va_get (D := (dC, dI)) (ci := 6) (v := .ref asksh) (C := RX6) (T := TX6) (N := 11) hx hb hts hin6 hown hK hP 0 rfl rfl 8 (by decide) k57 (fun _ h9 => h9) rfl dX6_ask_35 ?_
        obtain ⟨z8, hz8, hf⟩ := bs_b hf
        refine bs_cVi (ws1 := [(psh, .inr (6, [.ref rowsh, .ref tapeh, .ref nowh, .ref drafth, .ref trialh, .ref psq_images, .ref actsh, .ref sackh, .ref asksh, .int ps_latestFault, .int ps_latestFinding])), (nowh, .inr (4, [.int now_told, .int now_wax, .int now_stick, .int now_givers, .int now_promises, .int now_pan, .ref nowq_keeping, .ref nowq_giverOf, .ref nowq_deedOf, .ref nowq_dayOf, .ref nowq_likelyOf, .ref nowq_kindOf, .ref nowq_settledOf])), (nowq_keeping, .inl (cI, 4, .inl now_keeping)), (nowq_giverOf, .inl (cI, 8, .inl now_giverOf)), (nowq_deedOf, .inl (cI, 8, .inl now_deedOf)), (nowq_dayOf, .inl (cI, 8, .inl now_dayOf)), (nowq_likelyOf, .inl (cI, 8, .inl now_likelyOf)), (nowq_kindOf, .inl (cI, 8, .inl now_kindOf)), (nowq_settledOf, .inl (cI, 8, .inl now_settledOf)), (asksh, .inr (1, [.ref asksq_bodies, .int z8.2.2, .int z5.2.1, .int z5.2.2.1, .int z5.2.2.2.1, .int z5.2.2.2.2])), (asksq_bodies, .inl (cI, 16, .inl z8.2.1))]) ⟨hx, hb, hml, hown, hts⟩ (k_X1_size l dC dI cI cZ cS cG asksh asksq_bodies asks_bodies z5.1 z5.2.1 z5.2.2.1 z5.2.2.2.1 z5.2.2.2.2 z8 hz8) (cwV 0 hts gX6_ask_X1_size rfl rfl rfl (by decide +kernel) ⟨Nat.le_of_ble_eq_true rfl, Nat.le_of_ble_eq_true rfl⟩) hE hP hD hA hS [9, 10] rfl rfl 1 0 rfl rfl rfl rfl rfl rfl rfl hl.1 (Nat.le_of_ble_eq_true rfl) dX6_ask_38 (fun H locs hP hD hS => ?_)
        refine lv_goto (tgt := 51) hx hb dX6_ask_41 (by decide) ?_
        obtain rfl := Option.some.inj hf
        exact hret H locs _ _ hP hS rfl dX6_ask_51
    · have hf := bs_t hf c4
      refine lv_ldc hx hb hown (hts (.constant RX6 69 (-1000001)) (by decide +kernel)) dX6_ask_15 ?_
      obtain rfl := Option.some.inj hf
      exact hret H locs _ _ hP hS rfl dX6_ask_17
set_option maxHeartbeats 4000000 in
set_option maxRecDepth 100000 in
theorem k_X6_trace (l : Launch) (dC : Nat → ClassId) (dI : Nat → Nat → Nat) (cI cZ cS cG : ClassId) (psh : Nat) (rowsh : Nat) (tapeh : Nat) (nowh : Nat) (drafth : Nat) (trialh : Nat) (psq_images : Nat) (actsh : Nat) (sackh : Nat) (asksh : Nat) (asksq_bodies : Nat) (ps_latestFault : Int32) (ps_latestFinding : Int32) (asks_bodies : Nat → Int32) (asks_begun : Int32) (asks_kind : Int32) (asks_number : Int32) (asks_likely : Int32) (asks_weight : Int32) (p1 : Int32) (out : Int32) (hf : f_X6_trace asks_bodies asks_begun p1 = some out) : bs_C l dC dI cI cZ cS cG yX6_trace wsX6_trace ({ frames := 1, cells := 0, slots := 0, locals := 21 } : Room) [.ref psh, .int p1] ([(psh, .inr (6, [.ref rowsh, .ref tapeh, .ref nowh, .ref drafth, .ref trialh, .ref psq_images, .ref actsh, .ref sackh, .ref asksh, .int ps_latestFault, .int ps_latestFinding])), (asksh, .inr (1, [.ref asksq_bodies, .int asks_begun, .int asks_kind, .int asks_number, .int asks_likely, .int asks_weight])), (asksq_bodies, .inl (cI, 16, .inl asks_bodies))]) out ([(psh, .inr (6, [.ref rowsh, .ref tapeh, .ref nowh, .ref drafth, .ref trialh, .ref psq_images, .ref actsh, .ref sackh, .ref asksh, .int ps_latestFault, .int ps_latestFinding])), (asksh, .inr (1, [.ref asksq_bodies, .int asks_begun, .int asks_kind, .int asks_number, .int asks_likely, .int asks_weight])), (asksq_bodies, .inl (cI, 16, .inl asks_bodies))]) := by
  refine bs_ofI (cc := cX6_trace) (maxL := 2) (by decide) rfl (Nat.le_of_ble_eq_true rfl) ?_
  intro p e s m below meth c A Q hx hb hown hml hts hE H locs hP hD hA hS ls hl hret
  have hK := hE.1
  have hl : lv_has ls 2 [(0, .ref psh), (1, .int p1)] := hl
  have hin6 : ∀ w ∈ u_ws RX6 TX6 11, w ∈ wsX6_trace := by decide +kernel
  have k57 := hts (.fieldLink RX6 57 "PromiseScales" "asks" "LPromiseScales$Asks;") (by decide +kernel)
  unfold f_X6_trace at hf
  refine lv_aload_n hx hb dX6_trace_0 rfl (lv_at hl 0 rfl) ?_
  refine va_get (D := (dC, dI)) (ci := 6) (v := .ref asksh) (C := RX6) (T := TX6) (N := 11) hx hb hts hin6 hown hK hP 0 rfl rfl 8 (by decide) k57 (fun _ h9 => h9) rfl dX6_trace_1 ?_
  refine lv_iload_n hx hb dX6_trace_4 rfl (lv_at hl 1 rfl) ?_
  obtain ⟨z1, hz1, hf⟩ := bs_b hf
  refine bs_cViR ⟨hx, hb, hml, hown, hts⟩ (k_X1_bodyAt l dC dI cI cZ cS cG asksh asksq_bodies asks_bodies asks_begun asks_kind asks_number asks_likely asks_weight p1 z1 hz1) (cwV 1 hts gX6_trace_X1_bodyAt rfl rfl rfl (by decide +kernel) ⟨Nat.le_of_ble_eq_true rfl, Nat.le_of_ble_eq_true rfl⟩) hE hP hD hA hS [1, 2] rfl rfl 1 0 rfl rfl rfl rfl hl.1 (Nat.le_of_ble_eq_true rfl) dX6_trace_5 (fun H locs hP hS => ?_)
  obtain rfl := Option.some.inj hf
  exact hret H locs _ _ hP hS rfl dX6_trace_8
set_option maxHeartbeats 4000000 in
set_option maxRecDepth 100000 in
theorem k_X6_count (l : Launch) (dC : Nat → ClassId) (dI : Nat → Nat → Nat) (cI cZ cS cG : ClassId) (psh : Nat) (rowsh : Nat) (tapeh : Nat) (nowh : Nat) (drafth : Nat) (trialh : Nat) (psq_images : Nat) (actsh : Nat) (sackh : Nat) (asksh : Nat) (tapeq_letters : Nat) (nowq_keeping : Nat) (nowq_giverOf : Nat) (nowq_deedOf : Nat) (nowq_dayOf : Nat) (nowq_likelyOf : Nat) (nowq_kindOf : Nat) (nowq_settledOf : Nat) (actsq_promiseOf : Nat) (actsq_waxOf : Nat) (actsq_panOf : Nat) (actsq_keepsOf : Nat) (rowsq_items : Nat) (rowsg : Nat → Nat) (rowsq_laneOf : Nat) (rowsq_lengthOf : Nat) (ps_latestFault : Int32) (ps_latestFinding : Int32) (tape_letters : Nat → Int32) (tape_bytes : Int32) (tape_at : Int32) (tape_faultMet : Int32) (now_told : Int32) (now_wax : Int32) (now_stick : Int32) (now_givers : Int32) (now_promises : Int32) (now_pan : Int32) (now_keeping : Nat → Int32) (now_giverOf : Nat → Int32) (now_deedOf : Nat → Int32) (now_dayOf : Nat → Int32) (now_likelyOf : Nat → Int32) (now_kindOf : Nat → Int32) (now_settledOf : Nat → Int32) (acts_promiseOf : Nat → Int32) (acts_waxOf : Nat → Int32) (acts_panOf : Nat → Int32) (acts_keepsOf : Nat → Int32) (acts_oldest : Int32) (acts_kept : Int32) (rows_items : Nat → Nat → Int32) (rows_laneOf : Nat → Int32) (rows_lengthOf : Nat → Int32) (p1 : Int32) (out : Int32) (hf : f_X6_count tape_bytes now_told now_wax now_stick now_givers now_promises now_pan now_keeping now_giverOf now_likelyOf now_kindOf now_settledOf acts_kept rows_lengthOf p1 = some out) : bs_C l dC dI cI cZ cS cG yX6_count wsX6_count ({ frames := 4, cells := 0, slots := 0, locals := 92 } : Room) [.ref psh, .int p1] ([(psh, .inr (6, [.ref rowsh, .ref tapeh, .ref nowh, .ref drafth, .ref trialh, .ref psq_images, .ref actsh, .ref sackh, .ref asksh, .int ps_latestFault, .int ps_latestFinding])), (tapeh, .inr (5, [.ref tapeq_letters, .int tape_bytes, .int tape_at, .int tape_faultMet])), (tapeq_letters, .inl (cI, 120, .inl tape_letters)), (nowh, .inr (4, [.int now_told, .int now_wax, .int now_stick, .int now_givers, .int now_promises, .int now_pan, .ref nowq_keeping, .ref nowq_giverOf, .ref nowq_deedOf, .ref nowq_dayOf, .ref nowq_likelyOf, .ref nowq_kindOf, .ref nowq_settledOf])), (nowq_keeping, .inl (cI, 4, .inl now_keeping)), (nowq_giverOf, .inl (cI, 8, .inl now_giverOf)), (nowq_deedOf, .inl (cI, 8, .inl now_deedOf)), (nowq_dayOf, .inl (cI, 8, .inl now_dayOf)), (nowq_likelyOf, .inl (cI, 8, .inl now_likelyOf)), (nowq_kindOf, .inl (cI, 8, .inl now_kindOf)), (nowq_settledOf, .inl (cI, 8, .inl now_settledOf)), (actsh, .inr (0, [.ref actsq_promiseOf, .ref actsq_waxOf, .ref actsq_panOf, .ref actsq_keepsOf, .int acts_oldest, .int acts_kept])), (actsq_promiseOf, .inl (cI, 24, .inl acts_promiseOf)), (actsq_waxOf, .inl (cI, 24, .inl acts_waxOf)), (actsq_panOf, .inl (cI, 24, .inl acts_panOf)), (actsq_keepsOf, .inl (cI, 24, .inl acts_keepsOf)), (rowsh, .inr (3, [.ref rowsq_items, .ref rowsq_laneOf, .ref rowsq_lengthOf])), (rowsq_items, .inl (cG, 8, .inr (.inr (.inr (.inr (fun j : Nat => if j < 8 then some (rowsg j) else none)))))), (rowsq_laneOf, .inl (cI, 8, .inl rows_laneOf)), (rowsq_lengthOf, .inl (cI, 8, .inl rows_lengthOf))] ++ bs_rw cI rowsg rows_items) out ([(psh, .inr (6, [.ref rowsh, .ref tapeh, .ref nowh, .ref drafth, .ref trialh, .ref psq_images, .ref actsh, .ref sackh, .ref asksh, .int ps_latestFault, .int ps_latestFinding])), (tapeh, .inr (5, [.ref tapeq_letters, .int tape_bytes, .int tape_at, .int tape_faultMet])), (tapeq_letters, .inl (cI, 120, .inl tape_letters)), (nowh, .inr (4, [.int now_told, .int now_wax, .int now_stick, .int now_givers, .int now_promises, .int now_pan, .ref nowq_keeping, .ref nowq_giverOf, .ref nowq_deedOf, .ref nowq_dayOf, .ref nowq_likelyOf, .ref nowq_kindOf, .ref nowq_settledOf])), (nowq_keeping, .inl (cI, 4, .inl now_keeping)), (nowq_giverOf, .inl (cI, 8, .inl now_giverOf)), (nowq_deedOf, .inl (cI, 8, .inl now_deedOf)), (nowq_dayOf, .inl (cI, 8, .inl now_dayOf)), (nowq_likelyOf, .inl (cI, 8, .inl now_likelyOf)), (nowq_kindOf, .inl (cI, 8, .inl now_kindOf)), (nowq_settledOf, .inl (cI, 8, .inl now_settledOf)), (actsh, .inr (0, [.ref actsq_promiseOf, .ref actsq_waxOf, .ref actsq_panOf, .ref actsq_keepsOf, .int acts_oldest, .int acts_kept])), (actsq_promiseOf, .inl (cI, 24, .inl acts_promiseOf)), (actsq_waxOf, .inl (cI, 24, .inl acts_waxOf)), (actsq_panOf, .inl (cI, 24, .inl acts_panOf)), (actsq_keepsOf, .inl (cI, 24, .inl acts_keepsOf)), (rowsh, .inr (3, [.ref rowsq_items, .ref rowsq_laneOf, .ref rowsq_lengthOf])), (rowsq_items, .inl (cG, 8, .inr (.inr (.inr (.inr (fun j : Nat => if j < 8 then some (rowsg j) else none)))))), (rowsq_laneOf, .inl (cI, 8, .inl rows_laneOf)), (rowsq_lengthOf, .inl (cI, 8, .inl rows_lengthOf))] ++ bs_rw cI rowsg rows_items) := by
  refine bs_ofI (cc := cX6_count) (maxL := 2) (by decide) rfl (Nat.le_of_ble_eq_true rfl) ?_
  intro p e s m below meth c A Q hx hb hown hml hts hE H locs hP hD hA hS ls hl hret
  have hK := hE.1
  have hl : lv_has ls 2 [(0, .ref psh), (1, .int p1)] := hl
  have hin0 : ∀ w ∈ u_ws RX0 TX0 6, w ∈ wsX6_count := by decide +kernel
  have hin4 : ∀ w ∈ u_ws RX4 TX4 13, w ∈ wsX6_count := by decide +kernel
  have hin5 : ∀ w ∈ u_ws RX5 TX5 4, w ∈ wsX6_count := by decide +kernel
  have hin6 : ∀ w ∈ u_ws RX6 TX6 11, w ∈ wsX6_count := by decide +kernel
  have k10 := hts (.fieldLink RX6 10 "PromiseScales" "rows" "LPromiseScales$Rows;") (by decide +kernel)
  have k19 := hts (.fieldLink RX6 19 "PromiseScales" "tape" "LPromiseScales$Tape;") (by decide +kernel)
  have k26 := hts (.fieldLink RX6 26 "PromiseScales" "now" "LPromiseScales$Scales;") (by decide +kernel)
  have k43 := hts (.fieldLink RX6 43 "PromiseScales" "acts" "LPromiseScales$Acts;") (by decide +kernel)
  have k130 := hts (.fieldLink RX6 130 "PromiseScales$Scales" "promises" "I") (by decide +kernel)
  have k154 := hts (.fieldLink RX6 154 "PromiseScales$Scales" "pan" "I") (by decide +kernel)
  have k171 := hts (.fieldLink RX6 171 "PromiseScales$Scales" "told" "Z") (by decide +kernel)
  have k175 := hts (.fieldLink RX6 175 "PromiseScales$Scales" "wax" "I") (by decide +kernel)
  have k178 := hts (.fieldLink RX6 178 "PromiseScales$Acts" "kept" "I") (by decide +kernel)
  have k287 := hts (.fieldLink RX6 287 "PromiseScales$Scales" "givers" "I") (by decide +kernel)
  have k290 := hts (.fieldLink RX6 290 "PromiseScales$Scales" "stick" "I") (by decide +kernel)
  have k293 := hts (.fieldLink RX6 293 "PromiseScales$Tape" "bytes" "I") (by decide +kernel)
  unfold f_X6_count at hf
  refine lv_iload_n hx hb dX6_count_0 rfl (lv_at hl 1 rfl) ?_
  by_cases c1 : p1 = 0
  · have hf := bs_t hf c1
    refine lv_tableIn (tgt := 52) hx hb dX6_count_1 (by rw [c1]; decide) (by rw [c1]; decide) (by rw [c1]; rfl) (by decide) ?_
    refine lv_aload_n hx hb dX6_count_52 rfl (lv_at hl 0 rfl) ?_
    refine va_get (D := (dC, dI)) (ci := 6) (v := .ref rowsh) (C := RX6) (T := TX6) (N := 11) hx hb hts hin6 hown hK hP 0 rfl rfl 0 (by decide) k10 (fun _ h9 => h9) rfl dX6_count_53 ?_
    obtain ⟨z2, hz2, hf⟩ := bs_b hf
    refine bs_cViR ⟨hx, hb, hml, hown, hts⟩ (k_X3_howMany l dC dI cI cZ cS cG rowsh rowsq_items rowsg rowsq_laneOf rowsq_lengthOf rows_items rows_laneOf rows_lengthOf z2 hz2) (cwV 0 hts gX6_count_X3_howMany rfl rfl rfl (by decide +kernel) ⟨Nat.le_of_ble_eq_true rfl, Nat.le_of_ble_eq_true rfl⟩) hE hP hD hA hS [16, 17, 18, 19, 20, 21, 22, 23, 24, 25, 26, 27] rfl rfl 3 0 rfl rfl rfl rfl hl.1 (Nat.le_of_ble_eq_true rfl) dX6_count_56 (fun H locs hP hS => ?_)
    obtain rfl := Option.some.inj hf
    exact hret H locs _ _ hP hS rfl dX6_count_59
  · have hf := bs_f hf c1
    by_cases c3 : p1 = 1
    · have hf := bs_t hf c3
      refine lv_tableIn (tgt := 60) hx hb dX6_count_1 (by rw [c3]; decide) (by rw [c3]; decide) (by rw [c3]; rfl) (by decide) ?_
      refine lv_aload_n hx hb dX6_count_60 rfl (lv_at hl 0 rfl) ?_
      refine va_get (D := (dC, dI)) (ci := 6) (v := .ref nowh) (C := RX6) (T := TX6) (N := 11) hx hb hts hin6 hown hK hP 0 rfl rfl 2 (by decide) k26 (fun _ h9 => h9) rfl dX6_count_61 ?_
      refine va_get (D := (dC, dI)) (ci := 4) (v := .int now_promises) (C := RX4) (T := TX4) (N := 13) hx hb hts hin4 hown hK hP 3 rfl rfl 4 (by decide) k130 (fun _ h9 => h9) rfl dX6_count_64 ?_
      obtain rfl := Option.some.inj hf
      exact hret H locs _ _ hP hS rfl dX6_count_67
    · have hf := bs_f hf c3
      by_cases c4 : p1 = 2
      · have hf := bs_t hf c4
        refine lv_tableIn (tgt := 68) hx hb dX6_count_1 (by rw [c4]; decide) (by rw [c4]; decide) (by rw [c4]; rfl) (by decide) ?_
        refine lv_aload_n hx hb dX6_count_68 rfl (lv_at hl 0 rfl) ?_
        refine va_get (D := (dC, dI)) (ci := 6) (v := .ref nowh) (C := RX6) (T := TX6) (N := 11) hx hb hts hin6 hown hK hP 0 rfl rfl 2 (by decide) k26 (fun _ h9 => h9) rfl dX6_count_69 ?_
        refine va_get (D := (dC, dI)) (ci := 4) (v := .int now_givers) (C := RX4) (T := TX4) (N := 13) hx hb hts hin4 hown hK hP 3 rfl rfl 3 (by decide) k287 (fun _ h9 => h9) rfl dX6_count_72 ?_
        obtain rfl := Option.some.inj hf
        exact hret H locs _ _ hP hS rfl dX6_count_75
      · have hf := bs_f hf c4
        by_cases c5 : p1 = 3
        · have hf := bs_t hf c5
          refine lv_tableIn (tgt := 76) hx hb dX6_count_1 (by rw [c5]; decide) (by rw [c5]; decide) (by rw [c5]; rfl) (by decide) ?_
          refine lv_aload_n hx hb dX6_count_76 rfl (lv_at hl 0 rfl) ?_
          refine va_get (D := (dC, dI)) (ci := 6) (v := .ref nowh) (C := RX6) (T := TX6) (N := 11) hx hb hts hin6 hown hK hP 0 rfl rfl 2 (by decide) k26 (fun _ h9 => h9) rfl dX6_count_77 ?_
          refine va_get (D := (dC, dI)) (ci := 4) (v := .int now_pan) (C := RX4) (T := TX4) (N := 13) hx hb hts hin4 hown hK hP 3 rfl rfl 5 (by decide) k154 (fun _ h9 => h9) rfl dX6_count_80 ?_
          obtain rfl := Option.some.inj hf
          exact hret H locs _ _ hP hS rfl dX6_count_83
        · have hf := bs_f hf c5
          by_cases c6 : p1 = 4
          · have hf := bs_t hf c6
            refine lv_tableIn (tgt := 84) hx hb dX6_count_1 (by rw [c6]; decide) (by rw [c6]; decide) (by rw [c6]; rfl) (by decide) ?_
            refine lv_aload_n hx hb dX6_count_84 rfl (lv_at hl 0 rfl) ?_
            refine va_get (D := (dC, dI)) (ci := 6) (v := .ref nowh) (C := RX6) (T := TX6) (N := 11) hx hb hts hin6 hown hK hP 0 rfl rfl 2 (by decide) k26 (fun _ h9 => h9) rfl dX6_count_85 ?_
            refine va_get (D := (dC, dI)) (ci := 4) (v := .int now_told) (C := RX4) (T := TX4) (N := 13) hx hb hts hin4 hown hK hP 3 rfl rfl 0 (by decide) k171 (fun _ h9 => h9) rfl dX6_count_88 ?_
            refine lv_if_eq (tgt := 111) hx hb dX6_count_91 (by decide) (fun c7 => ?_) (fun c7 => ?_)
            · have hf := bs_t hf c7
              refine lv_iconst (v := 0) hx hb dX6_count_111 (by decide) ?_
              obtain rfl := Option.some.inj hf
              exact hret H locs _ _ hP hS rfl dX6_count_112
            · have hf := bs_f hf c7
              refine lv_aload_n hx hb dX6_count_94 rfl (lv_at hl 0 rfl) ?_
              refine va_get (D := (dC, dI)) (ci := 6) (v := .ref nowh) (C := RX6) (T := TX6) (N := 11) hx hb hts hin6 hown hK hP 0 rfl rfl 2 (by decide) k26 (fun _ h9 => h9) rfl dX6_count_95 ?_
              refine lv_aload_n hx hb dX6_count_98 rfl (lv_at hl 0 rfl) ?_
              refine va_get (D := (dC, dI)) (ci := 6) (v := .ref nowh) (C := RX6) (T := TX6) (N := 11) hx hb hts hin6 hown hK hP 0 rfl rfl 2 (by decide) k26 (fun _ h9 => h9) rfl dX6_count_99 ?_
              refine va_get (D := (dC, dI)) (ci := 4) (v := .int now_pan) (C := RX4) (T := TX4) (N := 13) hx hb hts hin4 hown hK hP 3 rfl rfl 5 (by decide) k154 (fun _ h9 => h9) rfl dX6_count_102 ?_
              obtain ⟨z8, hz8, hf⟩ := bs_b hf
              refine bs_cViR ⟨hx, hb, hml, hown, hts⟩ (k_X4_readingOf l dC dI cI cZ cS cG nowh nowq_keeping nowq_giverOf nowq_deedOf nowq_dayOf nowq_likelyOf nowq_kindOf nowq_settledOf now_told now_wax now_stick now_givers now_promises now_pan now_keeping now_giverOf now_deedOf now_dayOf now_likelyOf now_kindOf now_settledOf now_pan z8 hz8) (cwV 1 hts gX6_count_X4_readingOf rfl rfl rfl (by decide +kernel) ⟨Nat.le_of_ble_eq_true rfl, Nat.le_of_ble_eq_true rfl⟩) hE hP hD hA hS [3, 4, 5, 6, 7, 8, 9, 10] rfl rfl 4 0 rfl rfl rfl rfl hl.1 (Nat.le_of_ble_eq_true rfl) dX6_count_105 (fun H locs hP hS => ?_)
              refine lv_goto (tgt := 112) hx hb dX6_count_108 (by decide) ?_
              obtain rfl := Option.some.inj hf
              exact hret H locs _ _ hP hS rfl dX6_count_112
          · have hf := bs_f hf c6
            by_cases c9 : p1 = 5
            · have hf := bs_t hf c9
              refine lv_tableIn (tgt := 113) hx hb dX6_count_1 (by rw [c9]; decide) (by rw [c9]; decide) (by rw [c9]; rfl) (by decide) ?_
              refine lv_aload_n hx hb dX6_count_113 rfl (lv_at hl 0 rfl) ?_
              refine va_get (D := (dC, dI)) (ci := 6) (v := .ref nowh) (C := RX6) (T := TX6) (N := 11) hx hb hts hin6 hown hK hP 0 rfl rfl 2 (by decide) k26 (fun _ h9 => h9) rfl dX6_count_114 ?_
              refine va_get (D := (dC, dI)) (ci := 4) (v := .int now_wax) (C := RX4) (T := TX4) (N := 13) hx hb hts hin4 hown hK hP 3 rfl rfl 1 (by decide) k175 (fun _ h9 => h9) rfl dX6_count_117 ?_
              obtain rfl := Option.some.inj hf
              exact hret H locs _ _ hP hS rfl dX6_count_120
            · have hf := bs_f hf c9
              by_cases c10 : p1 = 6
              · have hf := bs_t hf c10
                refine lv_tableIn (tgt := 121) hx hb dX6_count_1 (by rw [c10]; decide) (by rw [c10]; decide) (by rw [c10]; rfl) (by decide) ?_
                refine lv_aload_n hx hb dX6_count_121 rfl (lv_at hl 0 rfl) ?_
                refine va_get (D := (dC, dI)) (ci := 6) (v := .ref nowh) (C := RX6) (T := TX6) (N := 11) hx hb hts hin6 hown hK hP 0 rfl rfl 2 (by decide) k26 (fun _ h9 => h9) rfl dX6_count_122 ?_
                refine va_get (D := (dC, dI)) (ci := 4) (v := .int now_stick) (C := RX4) (T := TX4) (N := 13) hx hb hts hin4 hown hK hP 3 rfl rfl 2 (by decide) k290 (fun _ h9 => h9) rfl dX6_count_125 ?_
                obtain rfl := Option.some.inj hf
                exact hret H locs _ _ hP hS rfl dX6_count_128
              · have hf := bs_f hf c10
                by_cases c11 : p1 = 7
                · have hf := bs_t hf c11
                  refine lv_tableIn (tgt := 129) hx hb dX6_count_1 (by rw [c11]; decide) (by rw [c11]; decide) (by rw [c11]; rfl) (by decide) ?_
                  refine lv_aload_n hx hb dX6_count_129 rfl (lv_at hl 0 rfl) ?_
                  refine va_get (D := (dC, dI)) (ci := 6) (v := .ref actsh) (C := RX6) (T := TX6) (N := 11) hx hb hts hin6 hown hK hP 0 rfl rfl 6 (by decide) k43 (fun _ h9 => h9) rfl dX6_count_130 ?_
                  refine va_get (D := (dC, dI)) (ci := 0) (v := .int acts_kept) (C := RX0) (T := TX0) (N := 6) hx hb hts hin0 hown hK hP 11 rfl rfl 5 (by decide) k178 (fun _ h9 => h9) rfl dX6_count_133 ?_
                  obtain rfl := Option.some.inj hf
                  exact hret H locs _ _ hP hS rfl dX6_count_136
                · have hf := bs_f hf c11
                  by_cases c12 : p1 = 8
                  · have hf := bs_t hf c12
                    refine lv_tableIn (tgt := 137) hx hb dX6_count_1 (by rw [c12]; decide) (by rw [c12]; decide) (by rw [c12]; rfl) (by decide) ?_
                    refine lv_aload_n hx hb dX6_count_137 rfl (lv_at hl 0 rfl) ?_
                    refine va_get (D := (dC, dI)) (ci := 6) (v := .ref tapeh) (C := RX6) (T := TX6) (N := 11) hx hb hts hin6 hown hK hP 0 rfl rfl 1 (by decide) k19 (fun _ h9 => h9) rfl dX6_count_138 ?_
                    refine va_get (D := (dC, dI)) (ci := 5) (v := .int tape_bytes) (C := RX5) (T := TX5) (N := 4) hx hb hts hin5 hown hK hP 1 rfl rfl 1 (by decide) k293 (fun _ h9 => h9) rfl dX6_count_141 ?_
                    obtain rfl := Option.some.inj hf
                    exact hret H locs _ _ hP hS rfl dX6_count_144
                  · have hf := bs_f hf c12
                    refine lv_tableOut (tgt := 145) hx hb dX6_count_1 (bs_sw (fun v h1 h2 => ?_)) (by decide) ?_
                    · rcases (by omega : v = 0 ∨ v = 1 ∨ v = 2 ∨ v = 3 ∨ v = 4 ∨ v = 5 ∨ v = 6 ∨ v = 7 ∨ v = 8) with rfl | rfl | rfl | rfl | rfl | rfl | rfl | rfl | rfl
                      · exact bs_ne 0 (by decide) c1
                      · exact bs_ne 1 (by decide) c3
                      · exact bs_ne 2 (by decide) c4
                      · exact bs_ne 3 (by decide) c5
                      · exact bs_ne 4 (by decide) c6
                      · exact bs_ne 5 (by decide) c9
                      · exact bs_ne 6 (by decide) c10
                      · exact bs_ne 7 (by decide) c11
                      · exact bs_ne 8 (by decide) c12
                    · refine lv_ldc hx hb hown (hts (.constant RX6 69 (-1000001)) (by decide +kernel)) dX6_count_145 ?_
                      obtain rfl := Option.some.inj hf
                      exact hret H locs _ _ hP hS rfl dX6_count_147
set_option maxHeartbeats 4000000 in
set_option maxRecDepth 100000 in
theorem k_X6_status (l : Launch) (dC : Nat → ClassId) (dI : Nat → Nat → Nat) (cI cZ cS cG : ClassId) (psh : Nat) (rowsh : Nat) (tapeh : Nat) (nowh : Nat) (drafth : Nat) (trialh : Nat) (psq_images : Nat) (actsh : Nat) (sackh : Nat) (asksh : Nat) (ps_latestFault : Int32) (ps_latestFinding : Int32) (out : Int32) (hf : f_X6_status ps_latestFinding = some out) : bs_C l dC dI cI cZ cS cG yX6_status wsX6_status ({ frames := 0, cells := 0, slots := 0, locals := 0 } : Room) [.ref psh] ([(psh, .inr (6, [.ref rowsh, .ref tapeh, .ref nowh, .ref drafth, .ref trialh, .ref psq_images, .ref actsh, .ref sackh, .ref asksh, .int ps_latestFault, .int ps_latestFinding]))]) out ([(psh, .inr (6, [.ref rowsh, .ref tapeh, .ref nowh, .ref drafth, .ref trialh, .ref psq_images, .ref actsh, .ref sackh, .ref asksh, .int ps_latestFault, .int ps_latestFinding]))]) := by
  refine bs_ofI (cc := cX6_status) (maxL := 1) (by decide) rfl (Nat.le_of_ble_eq_true rfl) ?_
  intro p e s m below meth c A Q hx hb hown hml hts hE H locs hP hD hA hS ls hl hret
  have hK := hE.1
  have hl : lv_has ls 1 [(0, .ref psh)] := hl
  have hin6 : ∀ w ∈ u_ws RX6 TX6 11, w ∈ wsX6_status := by decide +kernel
  have k296 := hts (.fieldLink RX6 296 "PromiseScales" "latestFinding" "I") (by decide +kernel)
  unfold f_X6_status at hf
  refine lv_aload_n hx hb dX6_status_0 rfl (lv_at hl 0 rfl) ?_
  refine va_get (D := (dC, dI)) (ci := 6) (v := .int ps_latestFinding) (C := RX6) (T := TX6) (N := 11) hx hb hts hin6 hown hK hP 0 rfl rfl 10 (by decide) k296 (fun _ h9 => h9) rfl dX6_status_1 ?_
  obtain rfl := Option.some.inj hf
  exact hret H locs _ _ hP hS rfl dX6_status_4
