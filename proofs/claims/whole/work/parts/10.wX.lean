set_option maxHeartbeats 4000000 in
set_option maxRecDepth 100000 in
theorem k_X0_forgetAll (l : Launch) (dC : Nat → ClassId) (dI : Nat → Nat → Nat) (cI cZ cS cG : ClassId) (oh : Nat) (oq_promiseOf : Nat) (oq_waxOf : Nat) (oq_panOf : Nat) (oq_keepsOf : Nat) (o_promiseOf : Nat → Int32) (o_waxOf : Nat → Int32) (o_panOf : Nat → Int32) (o_keepsOf : Nat → Int32) (o_oldest : Int32) (o_kept : Int32) (out : Int32 × Int32) (hf : f_X0_forgetAll o_oldest o_kept = some out) : bs_CV l dC dI cI cZ cS cG yX0_forgetAll wsX0_forgetAll ({ frames := 0, cells := 0, slots := 0, locals := 0 } : Room) [.ref oh] ([(oh, .inr (0, [.ref oq_promiseOf, .ref oq_waxOf, .ref oq_panOf, .ref oq_keepsOf, .int o_oldest, .int o_kept])), (oq_promiseOf, .inl (cI, 24, .inl o_promiseOf)), (oq_waxOf, .inl (cI, 24, .inl o_waxOf)), (oq_panOf, .inl (cI, 24, .inl o_panOf)), (oq_keepsOf, .inl (cI, 24, .inl o_keepsOf))]) ([(oh, .inr (0, [.ref oq_promiseOf, .ref oq_waxOf, .ref oq_panOf, .ref oq_keepsOf, .int out.1, .int out.2])), (oq_promiseOf, .inl (cI, 24, .inl o_promiseOf)), (oq_waxOf, .inl (cI, 24, .inl o_waxOf)), (oq_panOf, .inl (cI, 24, .inl o_panOf)), (oq_keepsOf, .inl (cI, 24, .inl o_keepsOf))]) := by
  refine bs_ofV (cc := cX0_forgetAll) (maxL := 1) (by decide) rfl (Nat.le_of_ble_eq_true rfl) ?_
  intro p e s m below meth c A Q hx hb hown hml hts hE H locs hP hD hA hS ls hl hret
  have hK := hE.1
  have hl : lv_has ls 1 [(0, .ref oh)] := hl
  have hin0 : ∀ w ∈ u_ws RX0 TX0 6, w ∈ wsX0_forgetAll := by decide +kernel
  have k24 := hts (.fieldLink RX0 24 "PromiseScales$Acts" "oldest" "I") (by decide +kernel)
  have k28 := hts (.fieldLink RX0 28 "PromiseScales$Acts" "kept" "I") (by decide +kernel)
  unfold f_X0_forgetAll at hf
  refine lv_aload_n hx hb dX0_forgetAll_0 rfl (lv_at hl 0 rfl) ?_
  refine lv_iconst (v := 0) hx hb dX0_forgetAll_1 (by decide) ?_
  refine va_put (D := (dC, dI)) (ci := 0) (v := .int 0) (ty := .int) (C := RX0) (T := TX0) (N := 6) hx hb hts hin0 tyX0 tyX0_ok nmX0 hown hK hP hD hS 0 rfl rfl 4 (by decide) k24 (fun _ h9 => h9) rfl (by decide +kernel) rfl rfl (Nat.le_of_ble_eq_true rfl) dX0_forgetAll_2 (fun H locs hP hD hS => ?_)
  have hP : va_P (dC, dI) vwCl ([(oh, .inr (0, [.ref oq_promiseOf, .ref oq_waxOf, .ref oq_panOf, .ref oq_keepsOf, .int 0, .int o_kept])), (oq_promiseOf, .inl (cI, 24, .inl o_promiseOf)), (oq_waxOf, .inl (cI, 24, .inl o_waxOf)), (oq_panOf, .inl (cI, 24, .inl o_panOf)), (oq_keepsOf, .inl (cI, 24, .inl o_keepsOf))]) H := hP
  have hD : va_D A ([(oh, .inr (0, [.ref oq_promiseOf, .ref oq_waxOf, .ref oq_panOf, .ref oq_keepsOf, .int 0, .int o_kept])), (oq_promiseOf, .inl (cI, 24, .inl o_promiseOf)), (oq_waxOf, .inl (cI, 24, .inl o_waxOf)), (oq_panOf, .inl (cI, 24, .inl o_panOf)), (oq_keepsOf, .inl (cI, 24, .inl o_keepsOf))]) := hD
  refine lv_aload_n hx hb dX0_forgetAll_5 rfl (lv_at hl 0 rfl) ?_
  refine lv_iconst (v := 0) hx hb dX0_forgetAll_6 (by decide) ?_
  refine va_put (D := (dC, dI)) (ci := 0) (v := .int 0) (ty := .int) (C := RX0) (T := TX0) (N := 6) hx hb hts hin0 tyX0 tyX0_ok nmX0 hown hK hP hD hS 0 rfl rfl 5 (by decide) k28 (fun _ h9 => h9) rfl (by decide +kernel) rfl rfl (Nat.le_of_ble_eq_true rfl) dX0_forgetAll_7 (fun H locs hP hD hS => ?_)
  have hP : va_P (dC, dI) vwCl ([(oh, .inr (0, [.ref oq_promiseOf, .ref oq_waxOf, .ref oq_panOf, .ref oq_keepsOf, .int 0, .int 0])), (oq_promiseOf, .inl (cI, 24, .inl o_promiseOf)), (oq_waxOf, .inl (cI, 24, .inl o_waxOf)), (oq_panOf, .inl (cI, 24, .inl o_panOf)), (oq_keepsOf, .inl (cI, 24, .inl o_keepsOf))]) H := hP
  have hD : va_D A ([(oh, .inr (0, [.ref oq_promiseOf, .ref oq_waxOf, .ref oq_panOf, .ref oq_keepsOf, .int 0, .int 0])), (oq_promiseOf, .inl (cI, 24, .inl o_promiseOf)), (oq_waxOf, .inl (cI, 24, .inl o_waxOf)), (oq_panOf, .inl (cI, 24, .inl o_panOf)), (oq_keepsOf, .inl (cI, 24, .inl o_keepsOf))]) := hD
  obtain rfl := Option.some.inj hf
  exact hret H locs _ _ hP hS dX0_forgetAll_10
set_option maxHeartbeats 4000000 in
set_option maxRecDepth 100000 in
theorem k_X0_remember (l : Launch) (dC : Nat → ClassId) (dI : Nat → Nat → Nat) (cI cZ cS cG : ClassId) (oh : Nat) (oq_promiseOf : Nat) (oq_waxOf : Nat) (oq_panOf : Nat) (oq_keepsOf : Nat) (bh : Nat) (bq_keeping : Nat) (bq_giverOf : Nat) (bq_deedOf : Nat) (bq_dayOf : Nat) (bq_likelyOf : Nat) (bq_kindOf : Nat) (bq_settledOf : Nat) (o_promiseOf : Nat → Int32) (o_waxOf : Nat → Int32) (o_panOf : Nat → Int32) (o_keepsOf : Nat → Int32) (o_oldest : Int32) (o_kept : Int32) (b_told : Int32) (b_wax : Int32) (b_stick : Int32) (b_givers : Int32) (b_promises : Int32) (b_pan : Int32) (b_keeping : Nat → Int32) (b_giverOf : Nat → Int32) (b_deedOf : Nat → Int32) (b_dayOf : Nat → Int32) (b_likelyOf : Nat → Int32) (b_kindOf : Nat → Int32) (b_settledOf : Nat → Int32) (p2 : Int32) (out : (Nat → Int32) × (Nat → Int32) × (Nat → Int32) × (Nat → Int32) × Int32 × Int32) (hf : f_X0_remember o_promiseOf o_waxOf o_panOf o_keepsOf o_oldest o_kept b_wax b_pan b_keeping b_giverOf p2 = some out) : bs_CV l dC dI cI cZ cS cG yX0_remember wsX0_remember ({ frames := 0, cells := 0, slots := 0, locals := 0 } : Room) [.ref oh, .ref bh, .int p2] ([(oh, .inr (0, [.ref oq_promiseOf, .ref oq_waxOf, .ref oq_panOf, .ref oq_keepsOf, .int o_oldest, .int o_kept])), (oq_promiseOf, .inl (cI, 24, .inl o_promiseOf)), (oq_waxOf, .inl (cI, 24, .inl o_waxOf)), (oq_panOf, .inl (cI, 24, .inl o_panOf)), (oq_keepsOf, .inl (cI, 24, .inl o_keepsOf)), (bh, .inr (4, [.int b_told, .int b_wax, .int b_stick, .int b_givers, .int b_promises, .int b_pan, .ref bq_keeping, .ref bq_giverOf, .ref bq_deedOf, .ref bq_dayOf, .ref bq_likelyOf, .ref bq_kindOf, .ref bq_settledOf])), (bq_keeping, .inl (cI, 4, .inl b_keeping)), (bq_giverOf, .inl (cI, 8, .inl b_giverOf)), (bq_deedOf, .inl (cI, 8, .inl b_deedOf)), (bq_dayOf, .inl (cI, 8, .inl b_dayOf)), (bq_likelyOf, .inl (cI, 8, .inl b_likelyOf)), (bq_kindOf, .inl (cI, 8, .inl b_kindOf)), (bq_settledOf, .inl (cI, 8, .inl b_settledOf))]) ([(oh, .inr (0, [.ref oq_promiseOf, .ref oq_waxOf, .ref oq_panOf, .ref oq_keepsOf, .int out.2.2.2.2.1, .int out.2.2.2.2.2])), (oq_promiseOf, .inl (cI, 24, .inl out.1)), (oq_waxOf, .inl (cI, 24, .inl out.2.1)), (oq_panOf, .inl (cI, 24, .inl out.2.2.1)), (oq_keepsOf, .inl (cI, 24, .inl out.2.2.2.1)), (bh, .inr (4, [.int b_told, .int b_wax, .int b_stick, .int b_givers, .int b_promises, .int b_pan, .ref bq_keeping, .ref bq_giverOf, .ref bq_deedOf, .ref bq_dayOf, .ref bq_likelyOf, .ref bq_kindOf, .ref bq_settledOf])), (bq_keeping, .inl (cI, 4, .inl b_keeping)), (bq_giverOf, .inl (cI, 8, .inl b_giverOf)), (bq_deedOf, .inl (cI, 8, .inl b_deedOf)), (bq_dayOf, .inl (cI, 8, .inl b_dayOf)), (bq_likelyOf, .inl (cI, 8, .inl b_likelyOf)), (bq_kindOf, .inl (cI, 8, .inl b_kindOf)), (bq_settledOf, .inl (cI, 8, .inl b_settledOf))]) := by
  refine bs_ofV (cc := cX0_remember) (maxL := 4) (by decide) rfl (Nat.le_of_ble_eq_true rfl) ?_
  intro p e s m below meth c A Q hx hb hown hml hts hE H locs hP hD hA hS ls hl hret
  have hK := hE.1
  have hl : lv_has ls 4 [(0, .ref oh), (1, .ref bh), (2, .int p2)] := hl
  have hin0 : ∀ w ∈ u_ws RX0 TX0 6, w ∈ wsX0_remember := by decide +kernel
  have hin4 : ∀ w ∈ u_ws RX4 TX4 13, w ∈ wsX0_remember := by decide +kernel
  have k11 := hts (.fieldLink RX0 11 "PromiseScales$Acts" "promiseOf" "[I") (by decide +kernel)
  have k15 := hts (.fieldLink RX0 15 "PromiseScales$Acts" "waxOf" "[I") (by decide +kernel)
  have k18 := hts (.fieldLink RX0 18 "PromiseScales$Acts" "panOf" "[I") (by decide +kernel)
  have k21 := hts (.fieldLink RX0 21 "PromiseScales$Acts" "keepsOf" "[I") (by decide +kernel)
  have k24 := hts (.fieldLink RX0 24 "PromiseScales$Acts" "oldest" "I") (by decide +kernel)
  have k28 := hts (.fieldLink RX0 28 "PromiseScales$Acts" "kept" "I") (by decide +kernel)
  have k31 := hts (.fieldLink RX0 31 "PromiseScales$Scales" "wax" "I") (by decide +kernel)
  have k36 := hts (.fieldLink RX0 36 "PromiseScales$Scales" "pan" "I") (by decide +kernel)
  have k39 := hts (.fieldLink RX0 39 "PromiseScales$Scales" "keeping" "[I") (by decide +kernel)
  have k42 := hts (.fieldLink RX0 42 "PromiseScales$Scales" "giverOf" "[I") (by decide +kernel)
  unfold f_X0_remember at hf
  refine lv_aload_n hx hb dX0_remember_0 rfl (lv_at hl 0 rfl) ?_
  refine va_get (D := (dC, dI)) (ci := 0) (v := .int o_kept) (C := RX0) (T := TX0) (N := 6) hx hb hts hin0 hown hK hP 0 rfl rfl 5 (by decide) k28 (fun _ h9 => h9) rfl dX0_remember_1 ?_
  refine lv_bipush (v := 24) hx hb dX0_remember_4 (by decide) ?_
  refine lv_icmp_ne (tgt := 32) hx hb dX0_remember_6 (by decide) (fun c1 => ?_) (fun c1 => ?_)
  · have hf := bs_f hf c1
    refine lv_aload_n hx hb dX0_remember_32 rfl (lv_at hl 0 rfl) ?_
    refine va_get (D := (dC, dI)) (ci := 0) (v := .int o_oldest) (C := RX0) (T := TX0) (N := 6) hx hb hts hin0 hown hK hP 0 rfl rfl 4 (by decide) k24 (fun _ h9 => h9) rfl dX0_remember_33 ?_
    refine lv_aload_n hx hb dX0_remember_36 rfl (lv_at hl 0 rfl) ?_
    refine va_get (D := (dC, dI)) (ci := 0) (v := .int o_kept) (C := RX0) (T := TX0) (N := 6) hx hb hts hin0 hown hK hP 0 rfl rfl 5 (by decide) k28 (fun _ h9 => h9) rfl dX0_remember_37 ?_
    refine lv_iadd hx hb dX0_remember_40 ?_
    refine lv_bipush (v := 24) hx hb dX0_remember_41 (by decide) ?_
    refine lv_irem hx hb dX0_remember_43 (by decide) ?_
    refine lv_istore_n (lv' := [(3, .int ((o_oldest + o_kept) - (o_oldest + o_kept) / 24 * 24)), (0, .ref oh), (1, .ref bh), (2, .int p2)]) hx hb dX0_remember_44 rfl hl (by decide) rfl (fun ls hl => ?_)
    refine lv_aload_n hx hb dX0_remember_45 rfl (lv_at hl 1 rfl) ?_
    refine va_get (D := (dC, dI)) (ci := 0) (v := .ref oq_promiseOf) (C := RX0) (T := TX0) (N := 6) hx hb hts hin0 hown hK hP 0 rfl rfl 0 (by decide) k11 (fun _ h9 => h9) rfl dX0_remember_46 ?_
    refine lv_iload_n hx hb dX0_remember_49 rfl (lv_at hl 0 rfl) ?_
    refine lv_iload_n hx hb dX0_remember_50 rfl (lv_at hl 3 rfl) ?_
    obtain ⟨g2, hf⟩ := bs_g hf
    refine va_iast hx hb hK hP hD hS 1 0 rfl rfl (bs_inV g2) dX0_remember_51 (fun H locs hP hD hS => ?_)
    have hP : va_P (dC, dI) vwCl ([(oh, .inr (0, [.ref oq_promiseOf, .ref oq_waxOf, .ref oq_panOf, .ref oq_keepsOf, .int o_oldest, .int o_kept])), (oq_promiseOf, .inl (cI, 24, .inl (upd o_promiseOf ((o_oldest + o_kept) - (o_oldest + o_kept) / 24 * 24).toNatClampNeg p2))), (oq_waxOf, .inl (cI, 24, .inl o_waxOf)), (oq_panOf, .inl (cI, 24, .inl o_panOf)), (oq_keepsOf, .inl (cI, 24, .inl o_keepsOf)), (bh, .inr (4, [.int b_told, .int b_wax, .int b_stick, .int b_givers, .int b_promises, .int b_pan, .ref bq_keeping, .ref bq_giverOf, .ref bq_deedOf, .ref bq_dayOf, .ref bq_likelyOf, .ref bq_kindOf, .ref bq_settledOf])), (bq_keeping, .inl (cI, 4, .inl b_keeping)), (bq_giverOf, .inl (cI, 8, .inl b_giverOf)), (bq_deedOf, .inl (cI, 8, .inl b_deedOf)), (bq_dayOf, .inl (cI, 8, .inl b_dayOf)), (bq_likelyOf, .inl (cI, 8, .inl b_likelyOf)), (bq_kindOf, .inl (cI, 8, .inl b_kindOf)), (bq_settledOf, .inl (cI, 8, .inl b_settledOf))]) H := hP
    have hD : va_D A ([(oh, .inr (0, [.ref oq_promiseOf, .ref oq_waxOf, .ref oq_panOf, .ref oq_keepsOf, .int o_oldest, .int o_kept])), (oq_promiseOf, .inl (cI, 24, .inl (upd o_promiseOf ((o_oldest + o_kept) - (o_oldest + o_kept) / 24 * 24).toNatClampNeg p2))), (oq_waxOf, .inl (cI, 24, .inl o_waxOf)), (oq_panOf, .inl (cI, 24, .inl o_panOf)), (oq_keepsOf, .inl (cI, 24, .inl o_keepsOf)), (bh, .inr (4, [.int b_told, .int b_wax, .int b_stick, .int b_givers, .int b_promises, .int b_pan, .ref bq_keeping, .ref bq_giverOf, .ref bq_deedOf, .ref bq_dayOf, .ref bq_likelyOf, .ref bq_kindOf, .ref bq_settledOf])), (bq_keeping, .inl (cI, 4, .inl b_keeping)), (bq_giverOf, .inl (cI, 8, .inl b_giverOf)), (bq_deedOf, .inl (cI, 8, .inl b_deedOf)), (bq_dayOf, .inl (cI, 8, .inl b_dayOf)), (bq_likelyOf, .inl (cI, 8, .inl b_likelyOf)), (bq_kindOf, .inl (cI, 8, .inl b_kindOf)), (bq_settledOf, .inl (cI, 8, .inl b_settledOf))]) := hD
    refine lv_aload_n hx hb dX0_remember_52 rfl (lv_at hl 1 rfl) ?_
    refine va_get (D := (dC, dI)) (ci := 0) (v := .ref oq_waxOf) (C := RX0) (T := TX0) (N := 6) hx hb hts hin0 hown hK hP 0 rfl rfl 1 (by decide) k15 (fun _ h9 => h9) rfl dX0_remember_53 ?_
    refine lv_iload_n hx hb dX0_remember_56 rfl (lv_at hl 0 rfl) ?_
    refine lv_aload_n hx hb dX0_remember_57 rfl (lv_at hl 2 rfl) ?_
    refine va_get (D := (dC, dI)) (ci := 4) (v := .int b_wax) (C := RX4) (T := TX4) (N := 13) hx hb hts hin4 hown hK hP 5 rfl rfl 1 (by decide) k31 (fun _ h9 => h9) rfl dX0_remember_58 ?_
    obtain ⟨g3, hf⟩ := bs_g hf
    refine va_iast hx hb hK hP hD hS 2 0 rfl rfl (bs_inV g3) dX0_remember_61 (fun H locs hP hD hS => ?_)
    have hP : va_P (dC, dI) vwCl ([(oh, .inr (0, [.ref oq_promiseOf, .ref oq_waxOf, .ref oq_panOf, .ref oq_keepsOf, .int o_oldest, .int o_kept])), (oq_promiseOf, .inl (cI, 24, .inl (upd o_promiseOf ((o_oldest + o_kept) - (o_oldest + o_kept) / 24 * 24).toNatClampNeg p2))), (oq_waxOf, .inl (cI, 24, .inl (upd o_waxOf ((o_oldest + o_kept) - (o_oldest + o_kept) / 24 * 24).toNatClampNeg b_wax))), (oq_panOf, .inl (cI, 24, .inl o_panOf)), (oq_keepsOf, .inl (cI, 24, .inl o_keepsOf)), (bh, .inr (4, [.int b_told, .int b_wax, .int b_stick, .int b_givers, .int b_promises, .int b_pan, .ref bq_keeping, .ref bq_giverOf, .ref bq_deedOf, .ref bq_dayOf, .ref bq_likelyOf, .ref bq_kindOf, .ref bq_settledOf])), (bq_keeping, .inl (cI, 4, .inl b_keeping)), (bq_giverOf, .inl (cI, 8, .inl b_giverOf)), (bq_deedOf, .inl (cI, 8, .inl b_deedOf)), (bq_dayOf, .inl (cI, 8, .inl b_dayOf)), (bq_likelyOf, .inl (cI, 8, .inl b_likelyOf)), (bq_kindOf, .inl (cI, 8, .inl b_kindOf)), (bq_settledOf, .inl (cI, 8, .inl b_settledOf))]) H := hP
    have hD : va_D A ([(oh, .inr (0, [.ref oq_promiseOf, .ref oq_waxOf, .ref oq_panOf, .ref oq_keepsOf, .int o_oldest, .int o_kept])), (oq_promiseOf, .inl (cI, 24, .inl (upd o_promiseOf ((o_oldest + o_kept) - (o_oldest + o_kept) / 24 * 24).toNatClampNeg p2))), (oq_waxOf, .inl (cI, 24, .inl (upd o_waxOf ((o_oldest + o_kept) - (o_oldest + o_kept) / 24 * 24).toNatClampNeg b_wax))), (oq_panOf, .inl (cI, 24, .inl o_panOf)), (oq_keepsOf, .inl (cI, 24, .inl o_keepsOf)), (bh, .inr (4, [.int b_told, .int b_wax, .int b_stick, .int b_givers, .int b_promises, .int b_pan, .ref bq_keeping, .ref bq_giverOf, .ref bq_deedOf, .ref bq_dayOf, .ref bq_likelyOf, .ref bq_kindOf, .ref bq_settledOf])), (bq_keeping, .inl (cI, 4, .inl b_keeping)), (bq_giverOf, .inl (cI, 8, .inl b_giverOf)), (bq_deedOf, .inl (cI, 8, .inl b_deedOf)), (bq_dayOf, .inl (cI, 8, .inl b_dayOf)), (bq_likelyOf, .inl (cI, 8, .inl b_likelyOf)), (bq_kindOf, .inl (cI, 8, .inl b_kindOf)), (bq_settledOf, .inl (cI, 8, .inl b_settledOf))]) := hD
    refine lv_aload_n hx hb dX0_remember_62 rfl (lv_at hl 1 rfl) ?_
    refine va_get (D := (dC, dI)) (ci := 0) (v := .ref oq_panOf) (C := RX0) (T := TX0) (N := 6) hx hb hts hin0 hown hK hP 0 rfl rfl 2 (by decide) k18 (fun _ h9 => h9) rfl dX0_remember_63 ?_
    refine lv_iload_n hx hb dX0_remember_66 rfl (lv_at hl 0 rfl) ?_
    refine lv_aload_n hx hb dX0_remember_67 rfl (lv_at hl 2 rfl) ?_
    refine va_get (D := (dC, dI)) (ci := 4) (v := .int b_pan) (C := RX4) (T := TX4) (N := 13) hx hb hts hin4 hown hK hP 5 rfl rfl 5 (by decide) k36 (fun _ h9 => h9) rfl dX0_remember_68 ?_
    obtain ⟨g4, hf⟩ := bs_g hf
    refine va_iast hx hb hK hP hD hS 3 0 rfl rfl (bs_inV g4) dX0_remember_71 (fun H locs hP hD hS => ?_)
    have hP : va_P (dC, dI) vwCl ([(oh, .inr (0, [.ref oq_promiseOf, .ref oq_waxOf, .ref oq_panOf, .ref oq_keepsOf, .int o_oldest, .int o_kept])), (oq_promiseOf, .inl (cI, 24, .inl (upd o_promiseOf ((o_oldest + o_kept) - (o_oldest + o_kept) / 24 * 24).toNatClampNeg p2))), (oq_waxOf, .inl (cI, 24, .inl (upd o_waxOf ((o_oldest + o_kept) - (o_oldest + o_kept) / 24 * 24).toNatClampNeg b_wax))), (oq_panOf, .inl (cI, 24, .inl (upd o_panOf ((o_oldest + o_kept) - (o_oldest + o_kept) / 24 * 24).toNatClampNeg b_pan))), (oq_keepsOf, .inl (cI, 24, .inl o_keepsOf)), (bh, .inr (4, [.int b_told, .int b_wax, .int b_stick, .int b_givers, .int b_promises, .int b_pan, .ref bq_keeping, .ref bq_giverOf, .ref bq_deedOf, .ref bq_dayOf, .ref bq_likelyOf, .ref bq_kindOf, .ref bq_settledOf])), (bq_keeping, .inl (cI, 4, .inl b_keeping)), (bq_giverOf, .inl (cI, 8, .inl b_giverOf)), (bq_deedOf, .inl (cI, 8, .inl b_deedOf)), (bq_dayOf, .inl (cI, 8, .inl b_dayOf)), (bq_likelyOf, .inl (cI, 8, .inl b_likelyOf)), (bq_kindOf, .inl (cI, 8, .inl b_kindOf)), (bq_settledOf, .inl (cI, 8, .inl b_settledOf))]) H := hP
    have hD : va_D A ([(oh, .inr (0, [.ref oq_promiseOf, .ref oq_waxOf, .ref oq_panOf, .ref oq_keepsOf, .int o_oldest, .int o_kept])), (oq_promiseOf, .inl (cI, 24, .inl (upd o_promiseOf ((o_oldest + o_kept) - (o_oldest + o_kept) / 24 * 24).toNatClampNeg p2))), (oq_waxOf, .inl (cI, 24, .inl (upd o_waxOf ((o_oldest + o_kept) - (o_oldest + o_kept) / 24 * 24).toNatClampNeg b_wax))), (oq_panOf, .inl (cI, 24, .inl (upd o_panOf ((o_oldest + o_kept) - (o_oldest + o_kept) / 24 * 24).toNatClampNeg b_pan))), (oq_keepsOf, .inl (cI, 24, .inl o_keepsOf)), (bh, .inr (4, [.int b_told, .int b_wax, .int b_stick, .int b_givers, .int b_promises, .int b_pan, .ref bq_keeping, .ref bq_giverOf, .ref bq_deedOf, .ref bq_dayOf, .ref bq_likelyOf, .ref bq_kindOf, .ref bq_settledOf])), (bq_keeping, .inl (cI, 4, .inl b_keeping)), (bq_giverOf, .inl (cI, 8, .inl b_giverOf)), (bq_deedOf, .inl (cI, 8, .inl b_deedOf)), (bq_dayOf, .inl (cI, 8, .inl b_dayOf)), (bq_likelyOf, .inl (cI, 8, .inl b_likelyOf)), (bq_kindOf, .inl (cI, 8, .inl b_kindOf)), (bq_settledOf, .inl (cI, 8, .inl b_settledOf))]) := hD
    refine lv_iload_n hx hb dX0_remember_72 rfl (lv_at hl 3 rfl) ?_
    refine lv_iconst (v := (-1)) hx hb dX0_remember_73 (by decide) ?_
    refine lv_icmp_eq (tgt := 94) hx hb dX0_remember_74 (by decide) (fun c5 => ?_) (fun c5 => ?_)
    · have hf := bs_t hf c5
      refine lv_aload_n hx hb dX0_remember_94 rfl (lv_at hl 1 rfl) ?_
      refine lv_dup hx hb dX0_remember_95 rfl ?_
      refine va_get (D := (dC, dI)) (ci := 0) (v := .int o_kept) (C := RX0) (T := TX0) (N := 6) hx hb hts hin0 hown hK hP 0 rfl rfl 5 (by decide) k28 (fun _ h9 => h9) rfl dX0_remember_96 ?_
      refine lv_iconst (v := 1) hx hb dX0_remember_99 (by decide) ?_
      refine lv_iadd hx hb dX0_remember_100 ?_
      refine va_put (D := (dC, dI)) (ci := 0) (v := .int (o_kept + 1)) (ty := .int) (C := RX0) (T := TX0) (N := 6) hx hb hts hin0 tyX0 tyX0_ok nmX0 hown hK hP hD hS 0 rfl rfl 5 (by decide) k28 (fun _ h9 => h9) rfl (by decide +kernel) rfl rfl (Nat.le_of_ble_eq_true rfl) dX0_remember_101 (fun H locs hP hD hS => ?_)
      have hP : va_P (dC, dI) vwCl ([(oh, .inr (0, [.ref oq_promiseOf, .ref oq_waxOf, .ref oq_panOf, .ref oq_keepsOf, .int o_oldest, .int (o_kept + 1)])), (oq_promiseOf, .inl (cI, 24, .inl (upd o_promiseOf ((o_oldest + o_kept) - (o_oldest + o_kept) / 24 * 24).toNatClampNeg p2))), (oq_waxOf, .inl (cI, 24, .inl (upd o_waxOf ((o_oldest + o_kept) - (o_oldest + o_kept) / 24 * 24).toNatClampNeg b_wax))), (oq_panOf, .inl (cI, 24, .inl (upd o_panOf ((o_oldest + o_kept) - (o_oldest + o_kept) / 24 * 24).toNatClampNeg b_pan))), (oq_keepsOf, .inl (cI, 24, .inl o_keepsOf)), (bh, .inr (4, [.int b_told, .int b_wax, .int b_stick, .int b_givers, .int b_promises, .int b_pan, .ref bq_keeping, .ref bq_giverOf, .ref bq_deedOf, .ref bq_dayOf, .ref bq_likelyOf, .ref bq_kindOf, .ref bq_settledOf])), (bq_keeping, .inl (cI, 4, .inl b_keeping)), (bq_giverOf, .inl (cI, 8, .inl b_giverOf)), (bq_deedOf, .inl (cI, 8, .inl b_deedOf)), (bq_dayOf, .inl (cI, 8, .inl b_dayOf)), (bq_likelyOf, .inl (cI, 8, .inl b_likelyOf)), (bq_kindOf, .inl (cI, 8, .inl b_kindOf)), (bq_settledOf, .inl (cI, 8, .inl b_settledOf))]) H := hP
      have hD : va_D A ([(oh, .inr (0, [.ref oq_promiseOf, .ref oq_waxOf, .ref oq_panOf, .ref oq_keepsOf, .int o_oldest, .int (o_kept + 1)])), (oq_promiseOf, .inl (cI, 24, .inl (upd o_promiseOf ((o_oldest + o_kept) - (o_oldest + o_kept) / 24 * 24).toNatClampNeg p2))), (oq_waxOf, .inl (cI, 24, .inl (upd o_waxOf ((o_oldest + o_kept) - (o_oldest + o_kept) / 24 * 24).toNatClampNeg b_wax))), (oq_panOf, .inl (cI, 24, .inl (upd o_panOf ((o_oldest + o_kept) - (o_oldest + o_kept) / 24 * 24).toNatClampNeg b_pan))), (oq_keepsOf, .inl (cI, 24, .inl o_keepsOf)), (bh, .inr (4, [.int b_told, .int b_wax, .int b_stick, .int b_givers, .int b_promises, .int b_pan, .ref bq_keeping, .ref bq_giverOf, .ref bq_deedOf, .ref bq_dayOf, .ref bq_likelyOf, .ref bq_kindOf, .ref bq_settledOf])), (bq_keeping, .inl (cI, 4, .inl b_keeping)), (bq_giverOf, .inl (cI, 8, .inl b_giverOf)), (bq_deedOf, .inl (cI, 8, .inl b_deedOf)), (bq_dayOf, .inl (cI, 8, .inl b_dayOf)), (bq_likelyOf, .inl (cI, 8, .inl b_likelyOf)), (bq_kindOf, .inl (cI, 8, .inl b_kindOf)), (bq_settledOf, .inl (cI, 8, .inl b_settledOf))]) := hD
      obtain rfl := Option.some.inj hf
      exact hret H locs _ _ hP hS dX0_remember_104
    · have hf := bs_f hf c5
      refine lv_aload_n hx hb dX0_remember_77 rfl (lv_at hl 1 rfl) ?_
      refine va_get (D := (dC, dI)) (ci := 0) (v := .ref oq_keepsOf) (C := RX0) (T := TX0) (N := 6) hx hb hts hin0 hown hK hP 0 rfl rfl 3 (by decide) k21 (fun _ h9 => h9) rfl dX0_remember_78 ?_
      refine lv_iload_n hx hb dX0_remember_81 rfl (lv_at hl 0 rfl) ?_
      refine lv_aload_n hx hb dX0_remember_82 rfl (lv_at hl 2 rfl) ?_
      refine va_get (D := (dC, dI)) (ci := 4) (v := .ref bq_keeping) (C := RX4) (T := TX4) (N := 13) hx hb hts hin4 hown hK hP 5 rfl rfl 6 (by decide) k39 (fun _ h9 => h9) rfl dX0_remember_83 ?_
      refine lv_aload_n hx hb dX0_remember_86 rfl (lv_at hl 2 rfl) ?_
      refine va_get (D := (dC, dI)) (ci := 4) (v := .ref bq_giverOf) (C := RX4) (T := TX4) (N := 13) hx hb hts hin4 hown hK hP 5 rfl rfl 7 (by decide) k42 (fun _ h9 => h9) rfl dX0_remember_87 ?_
      refine lv_iload_n hx hb dX0_remember_90 rfl (lv_at hl 3 rfl) ?_
      obtain ⟨g6, hf⟩ := bs_g hf
      refine va_iald hx hb hK hP 7 0 rfl rfl (bs_inV g6) dX0_remember_91 ?_
      obtain ⟨g7, hf⟩ := bs_g hf
      refine va_iald hx hb hK hP 6 0 rfl rfl (bs_inV g7) dX0_remember_92 ?_
      obtain ⟨g8, hf⟩ := bs_g hf
      refine va_iast hx hb hK hP hD hS 4 0 rfl rfl (bs_inV g8) dX0_remember_93 (fun H locs hP hD hS => ?_)
      have hP : va_P (dC, dI) vwCl ([(oh, .inr (0, [.ref oq_promiseOf, .ref oq_waxOf, .ref oq_panOf, .ref oq_keepsOf, .int o_oldest, .int o_kept])), (oq_promiseOf, .inl (cI, 24, .inl (upd o_promiseOf ((o_oldest + o_kept) - (o_oldest + o_kept) / 24 * 24).toNatClampNeg p2))), (oq_waxOf, .inl (cI, 24, .inl (upd o_waxOf ((o_oldest + o_kept) - (o_oldest + o_kept) / 24 * 24).toNatClampNeg b_wax))), (oq_panOf, .inl (cI, 24, .inl (upd o_panOf ((o_oldest + o_kept) - (o_oldest + o_kept) / 24 * 24).toNatClampNeg b_pan))), (oq_keepsOf, .inl (cI, 24, .inl (upd o_keepsOf ((o_oldest + o_kept) - (o_oldest + o_kept) / 24 * 24).toNatClampNeg (b_keeping (b_giverOf p2.toNatClampNeg).toNatClampNeg)))), (bh, .inr (4, [.int b_told, .int b_wax, .int b_stick, .int b_givers, .int b_promises, .int b_pan, .ref bq_keeping, .ref bq_giverOf, .ref bq_deedOf, .ref bq_dayOf, .ref bq_likelyOf, .ref bq_kindOf, .ref bq_settledOf])), (bq_keeping, .inl (cI, 4, .inl b_keeping)), (bq_giverOf, .inl (cI, 8, .inl b_giverOf)), (bq_deedOf, .inl (cI, 8, .inl b_deedOf)), (bq_dayOf, .inl (cI, 8, .inl b_dayOf)), (bq_likelyOf, .inl (cI, 8, .inl b_likelyOf)), (bq_kindOf, .inl (cI, 8, .inl b_kindOf)), (bq_settledOf, .inl (cI, 8, .inl b_settledOf))]) H := hP
      have hD : va_D A ([(oh, .inr (0, [.ref oq_promiseOf, .ref oq_waxOf, .ref oq_panOf, .ref oq_keepsOf, .int o_oldest, .int o_kept])), (oq_promiseOf, .inl (cI, 24, .inl (upd o_promiseOf ((o_oldest + o_kept) - (o_oldest + o_kept) / 24 * 24).toNatClampNeg p2))), (oq_waxOf, .inl (cI, 24, .inl (upd o_waxOf ((o_oldest + o_kept) - (o_oldest + o_kept) / 24 * 24).toNatClampNeg b_wax))), (oq_panOf, .inl (cI, 24, .inl (upd o_panOf ((o_oldest + o_kept) - (o_oldest + o_kept) / 24 * 24).toNatClampNeg b_pan))), (oq_keepsOf, .inl (cI, 24, .inl (upd o_keepsOf ((o_oldest + o_kept) - (o_oldest + o_kept) / 24 * 24).toNatClampNeg (b_keeping (b_giverOf p2.toNatClampNeg).toNatClampNeg)))), (bh, .inr (4, [.int b_told, .int b_wax, .int b_stick, .int b_givers, .int b_promises, .int b_pan, .ref bq_keeping, .ref bq_giverOf, .ref bq_deedOf, .ref bq_dayOf, .ref bq_likelyOf, .ref bq_kindOf, .ref bq_settledOf])), (bq_keeping, .inl (cI, 4, .inl b_keeping)), (bq_giverOf, .inl (cI, 8, .inl b_giverOf)), (bq_deedOf, .inl (cI, 8, .inl b_deedOf)), (bq_dayOf, .inl (cI, 8, .inl b_dayOf)), (bq_likelyOf, .inl (cI, 8, .inl b_likelyOf)), (bq_kindOf, .inl (cI, 8, .inl b_kindOf)), (bq_settledOf, .inl (cI, 8, .inl b_settledOf))]) := hD
      refine lv_aload_n hx hb dX0_remember_94 rfl (lv_at hl 1 rfl) ?_
      refine lv_dup hx hb dX0_remember_95 rfl ?_
      refine va_get (D := (dC, dI)) (ci := 0) (v := .int o_kept) (C := RX0) (T := TX0) (N := 6) hx hb hts hin0 hown hK hP 0 rfl rfl 5 (by decide) k28 (fun _ h9 => h9) rfl dX0_remember_96 ?_
      refine lv_iconst (v := 1) hx hb dX0_remember_99 (by decide) ?_
      refine lv_iadd hx hb dX0_remember_100 ?_
      refine va_put (D := (dC, dI)) (ci := 0) (v := .int (o_kept + 1)) (ty := .int) (C := RX0) (T := TX0) (N := 6) hx hb hts hin0 tyX0 tyX0_ok nmX0 hown hK hP hD hS 0 rfl rfl 5 (by decide) k28 (fun _ h9 => h9) rfl (by decide +kernel) rfl rfl (Nat.le_of_ble_eq_true rfl) dX0_remember_101 (fun H locs hP hD hS => ?_)
      have hP : va_P (dC, dI) vwCl ([(oh, .inr (0, [.ref oq_promiseOf, .ref oq_waxOf, .ref oq_panOf, .ref oq_keepsOf, .int o_oldest, .int (o_kept + 1)])), (oq_promiseOf, .inl (cI, 24, .inl (upd o_promiseOf ((o_oldest + o_kept) - (o_oldest + o_kept) / 24 * 24).toNatClampNeg p2))), (oq_waxOf, .inl (cI, 24, .inl (upd o_waxOf ((o_oldest + o_kept) - (o_oldest + o_kept) / 24 * 24).toNatClampNeg b_wax))), (oq_panOf, .inl (cI, 24, .inl (upd o_panOf ((o_oldest + o_kept) - (o_oldest + o_kept) / 24 * 24).toNatClampNeg b_pan))), (oq_keepsOf, .inl (cI, 24, .inl (upd o_keepsOf ((o_oldest + o_kept) - (o_oldest + o_kept) / 24 * 24).toNatClampNeg (b_keeping (b_giverOf p2.toNatClampNeg).toNatClampNeg)))), (bh, .inr (4, [.int b_told, .int b_wax, .int b_stick, .int b_givers, .int b_promises, .int b_pan, .ref bq_keeping, .ref bq_giverOf, .ref bq_deedOf, .ref bq_dayOf, .ref bq_likelyOf, .ref bq_kindOf, .ref bq_settledOf])), (bq_keeping, .inl (cI, 4, .inl b_keeping)), (bq_giverOf, .inl (cI, 8, .inl b_giverOf)), (bq_deedOf, .inl (cI, 8, .inl b_deedOf)), (bq_dayOf, .inl (cI, 8, .inl b_dayOf)), (bq_likelyOf, .inl (cI, 8, .inl b_likelyOf)), (bq_kindOf, .inl (cI, 8, .inl b_kindOf)), (bq_settledOf, .inl (cI, 8, .inl b_settledOf))]) H := hP
      have hD : va_D A ([(oh, .inr (0, [.ref oq_promiseOf, .ref oq_waxOf, .ref oq_panOf, .ref oq_keepsOf, .int o_oldest, .int (o_kept + 1)])), (oq_promiseOf, .inl (cI, 24, .inl (upd o_promiseOf ((o_oldest + o_kept) - (o_oldest + o_kept) / 24 * 24).toNatClampNeg p2))), (oq_waxOf, .inl (cI, 24, .inl (upd o_waxOf ((o_oldest + o_kept) - (o_oldest + o_kept) / 24 * 24).toNatClampNeg b_wax))), (oq_panOf, .inl (cI, 24, .inl (upd o_panOf ((o_oldest + o_kept) - (o_oldest + o_kept) / 24 * 24).toNatClampNeg b_pan))), (oq_keepsOf, .inl (cI, 24, .inl (upd o_keepsOf ((o_oldest + o_kept) - (o_oldest + o_kept) / 24 * 24).toNatClampNeg (b_keeping (b_giverOf p2.toNatClampNeg).toNatClampNeg)))), (bh, .inr (4, [.int b_told, .int b_wax, .int b_stick, .int b_givers, .int b_promises, .int b_pan, .ref bq_keeping, .ref bq_giverOf, .ref bq_deedOf, .ref bq_dayOf, .ref bq_likelyOf, .ref bq_kindOf, .ref bq_settledOf])), (bq_keeping, .inl (cI, 4, .inl b_keeping)), (bq_giverOf, .inl (cI, 8, .inl b_giverOf)), (bq_deedOf, .inl (cI, 8, .inl b_deedOf)), (bq_dayOf, .inl (cI, 8, .inl b_dayOf)), (bq_likelyOf, .inl (cI, 8, .inl b_likelyOf)), (bq_kindOf, .inl (cI, 8, .inl b_kindOf)), (bq_settledOf, .inl (cI, 8, .inl b_settledOf))]) := hD
      obtain rfl := Option.some.inj hf
      exact hret H locs _ _ hP hS dX0_remember_104
  · have hf := bs_t hf c1
    refine lv_aload_n hx hb dX0_remember_9 rfl (lv_at hl 0 rfl) ?_
    refine lv_aload_n hx hb dX0_remember_10 rfl (lv_at hl 0 rfl) ?_
    refine va_get (D := (dC, dI)) (ci := 0) (v := .int o_oldest) (C := RX0) (T := TX0) (N := 6) hx hb hts hin0 hown hK hP 0 rfl rfl 4 (by decide) k24 (fun _ h9 => h9) rfl dX0_remember_11 ?_
    refine lv_iconst (v := 1) hx hb dX0_remember_14 (by decide) ?_
    refine lv_iadd hx hb dX0_remember_15 ?_
    refine lv_bipush (v := 24) hx hb dX0_remember_16 (by decide) ?_
    refine lv_irem hx hb dX0_remember_18 (by decide) ?_
    refine va_put (D := (dC, dI)) (ci := 0) (v := .int ((o_oldest + 1) - (o_oldest + 1) / 24 * 24)) (ty := .int) (C := RX0) (T := TX0) (N := 6) hx hb hts hin0 tyX0 tyX0_ok nmX0 hown hK hP hD hS 0 rfl rfl 4 (by decide) k24 (fun _ h9 => h9) rfl (by decide +kernel) rfl rfl (Nat.le_of_ble_eq_true rfl) dX0_remember_19 (fun H locs hP hD hS => ?_)
    have hP : va_P (dC, dI) vwCl ([(oh, .inr (0, [.ref oq_promiseOf, .ref oq_waxOf, .ref oq_panOf, .ref oq_keepsOf, .int ((o_oldest + 1) - (o_oldest + 1) / 24 * 24), .int o_kept])), (oq_promiseOf, .inl (cI, 24, .inl o_promiseOf)), (oq_waxOf, .inl (cI, 24, .inl o_waxOf)), (oq_panOf, .inl (cI, 24, .inl o_panOf)), (oq_keepsOf, .inl (cI, 24, .inl o_keepsOf)), (bh, .inr (4, [.int b_told, .int b_wax, .int b_stick, .int b_givers, .int b_promises, .int b_pan, .ref bq_keeping, .ref bq_giverOf, .ref bq_deedOf, .ref bq_dayOf, .ref bq_likelyOf, .ref bq_kindOf, .ref bq_settledOf])), (bq_keeping, .inl (cI, 4, .inl b_keeping)), (bq_giverOf, .inl (cI, 8, .inl b_giverOf)), (bq_deedOf, .inl (cI, 8, .inl b_deedOf)), (bq_dayOf, .inl (cI, 8, .inl b_dayOf)), (bq_likelyOf, .inl (cI, 8, .inl b_likelyOf)), (bq_kindOf, .inl (cI, 8, .inl b_kindOf)), (bq_settledOf, .inl (cI, 8, .inl b_settledOf))]) H := hP
    have hD : va_D A ([(oh, .inr (0, [.ref oq_promiseOf, .ref oq_waxOf, .ref oq_panOf, .ref oq_keepsOf, .int ((o_oldest + 1) - (o_oldest + 1) / 24 * 24), .int o_kept])), (oq_promiseOf, .inl (cI, 24, .inl o_promiseOf)), (oq_waxOf, .inl (cI, 24, .inl o_waxOf)), (oq_panOf, .inl (cI, 24, .inl o_panOf)), (oq_keepsOf, .inl (cI, 24, .inl o_keepsOf)), (bh, .inr (4, [.int b_told, .int b_wax, .int b_stick, .int b_givers, .int b_promises, .int b_pan, .ref bq_keeping, .ref bq_giverOf, .ref bq_deedOf, .ref bq_dayOf, .ref bq_likelyOf, .ref bq_kindOf, .ref bq_settledOf])), (bq_keeping, .inl (cI, 4, .inl b_keeping)), (bq_giverOf, .inl (cI, 8, .inl b_giverOf)), (bq_deedOf, .inl (cI, 8, .inl b_deedOf)), (bq_dayOf, .inl (cI, 8, .inl b_dayOf)), (bq_likelyOf, .inl (cI, 8, .inl b_likelyOf)), (bq_kindOf, .inl (cI, 8, .inl b_kindOf)), (bq_settledOf, .inl (cI, 8, .inl b_settledOf))]) := hD
    refine lv_aload_n hx hb dX0_remember_22 rfl (lv_at hl 0 rfl) ?_
    refine lv_dup hx hb dX0_remember_23 rfl ?_
    refine va_get (D := (dC, dI)) (ci := 0) (v := .int o_kept) (C := RX0) (T := TX0) (N := 6) hx hb hts hin0 hown hK hP 0 rfl rfl 5 (by decide) k28 (fun _ h9 => h9) rfl dX0_remember_24 ?_
    refine lv_iconst (v := 1) hx hb dX0_remember_27 (by decide) ?_
    refine lv_isub hx hb dX0_remember_28 ?_
    refine va_put (D := (dC, dI)) (ci := 0) (v := .int (o_kept - 1)) (ty := .int) (C := RX0) (T := TX0) (N := 6) hx hb hts hin0 tyX0 tyX0_ok nmX0 hown hK hP hD hS 0 rfl rfl 5 (by decide) k28 (fun _ h9 => h9) rfl (by decide +kernel) rfl rfl (Nat.le_of_ble_eq_true rfl) dX0_remember_29 (fun H locs hP hD hS => ?_)
    have hP : va_P (dC, dI) vwCl ([(oh, .inr (0, [.ref oq_promiseOf, .ref oq_waxOf, .ref oq_panOf, .ref oq_keepsOf, .int ((o_oldest + 1) - (o_oldest + 1) / 24 * 24), .int (o_kept - 1)])), (oq_promiseOf, .inl (cI, 24, .inl o_promiseOf)), (oq_waxOf, .inl (cI, 24, .inl o_waxOf)), (oq_panOf, .inl (cI, 24, .inl o_panOf)), (oq_keepsOf, .inl (cI, 24, .inl o_keepsOf)), (bh, .inr (4, [.int b_told, .int b_wax, .int b_stick, .int b_givers, .int b_promises, .int b_pan, .ref bq_keeping, .ref bq_giverOf, .ref bq_deedOf, .ref bq_dayOf, .ref bq_likelyOf, .ref bq_kindOf, .ref bq_settledOf])), (bq_keeping, .inl (cI, 4, .inl b_keeping)), (bq_giverOf, .inl (cI, 8, .inl b_giverOf)), (bq_deedOf, .inl (cI, 8, .inl b_deedOf)), (bq_dayOf, .inl (cI, 8, .inl b_dayOf)), (bq_likelyOf, .inl (cI, 8, .inl b_likelyOf)), (bq_kindOf, .inl (cI, 8, .inl b_kindOf)), (bq_settledOf, .inl (cI, 8, .inl b_settledOf))]) H := hP
    have hD : va_D A ([(oh, .inr (0, [.ref oq_promiseOf, .ref oq_waxOf, .ref oq_panOf, .ref oq_keepsOf, .int ((o_oldest + 1) - (o_oldest + 1) / 24 * 24), .int (o_kept - 1)])), (oq_promiseOf, .inl (cI, 24, .inl o_promiseOf)), (oq_waxOf, .inl (cI, 24, .inl o_waxOf)), (oq_panOf, .inl (cI, 24, .inl o_panOf)), (oq_keepsOf, .inl (cI, 24, .inl o_keepsOf)), (bh, .inr (4, [.int b_told, .int b_wax, .int b_stick, .int b_givers, .int b_promises, .int b_pan, .ref bq_keeping, .ref bq_giverOf, .ref bq_deedOf, .ref bq_dayOf, .ref bq_likelyOf, .ref bq_kindOf, .ref bq_settledOf])), (bq_keeping, .inl (cI, 4, .inl b_keeping)), (bq_giverOf, .inl (cI, 8, .inl b_giverOf)), (bq_deedOf, .inl (cI, 8, .inl b_deedOf)), (bq_dayOf, .inl (cI, 8, .inl b_dayOf)), (bq_likelyOf, .inl (cI, 8, .inl b_likelyOf)), (bq_kindOf, .inl (cI, 8, .inl b_kindOf)), (bq_settledOf, .inl (cI, 8, .inl b_settledOf))]) := hD
    refine lv_aload_n hx hb dX0_remember_32 rfl (lv_at hl 0 rfl) ?_
    refine va_get (D := (dC, dI)) (ci := 0) (v := .int ((o_oldest + 1) - (o_oldest + 1) / 24 * 24)) (C := RX0) (T := TX0) (N := 6) hx hb hts hin0 hown hK hP 0 rfl rfl 4 (by decide) k24 (fun _ h9 => h9) rfl dX0_remember_33 ?_
    refine lv_aload_n hx hb dX0_remember_36 rfl (lv_at hl 0 rfl) ?_
    refine va_get (D := (dC, dI)) (ci := 0) (v := .int (o_kept - 1)) (C := RX0) (T := TX0) (N := 6) hx hb hts hin0 hown hK hP 0 rfl rfl 5 (by decide) k28 (fun _ h9 => h9) rfl dX0_remember_37 ?_
    refine lv_iadd hx hb dX0_remember_40 ?_
    refine lv_bipush (v := 24) hx hb dX0_remember_41 (by decide) ?_
    refine lv_irem hx hb dX0_remember_43 (by decide) ?_
    refine lv_istore_n (lv' := [(3, .int ((((o_oldest + 1) - (o_oldest + 1) / 24 * 24) + (o_kept - 1)) - (((o_oldest + 1) - (o_oldest + 1) / 24 * 24) + (o_kept - 1)) / 24 * 24)), (0, .ref oh), (1, .ref bh), (2, .int p2)]) hx hb dX0_remember_44 rfl hl (by decide) rfl (fun ls hl => ?_)
    refine lv_aload_n hx hb dX0_remember_45 rfl (lv_at hl 1 rfl) ?_
    refine va_get (D := (dC, dI)) (ci := 0) (v := .ref oq_promiseOf) (C := RX0) (T := TX0) (N := 6) hx hb hts hin0 hown hK hP 0 rfl rfl 0 (by decide) k11 (fun _ h9 => h9) rfl dX0_remember_46 ?_
    refine lv_iload_n hx hb dX0_remember_49 rfl (lv_at hl 0 rfl) ?_
    refine lv_iload_n hx hb dX0_remember_50 rfl (lv_at hl 3 rfl) ?_
    obtain ⟨g9, hf⟩ := bs_g hf
    refine va_iast hx hb hK hP hD hS 1 0 rfl rfl (bs_inV g9) dX0_remember_51 (fun H locs hP hD hS => ?_)
    have hP : va_P (dC, dI) vwCl ([(oh, .inr (0, [.ref oq_promiseOf, .ref oq_waxOf, .ref oq_panOf, .ref oq_keepsOf, .int ((o_oldest + 1) - (o_oldest + 1) / 24 * 24), .int (o_kept - 1)])), (oq_promiseOf, .inl (cI, 24, .inl (upd o_promiseOf ((((o_oldest + 1) - (o_oldest + 1) / 24 * 24) + (o_kept - 1)) - (((o_oldest + 1) - (o_oldest + 1) / 24 * 24) + (o_kept - 1)) / 24 * 24).toNatClampNeg p2))), (oq_waxOf, .inl (cI, 24, .inl o_waxOf)), (oq_panOf, .inl (cI, 24, .inl o_panOf)), (oq_keepsOf, .inl (cI, 24, .inl o_keepsOf)), (bh, .inr (4, [.int b_told, .int b_wax, .int b_stick, .int b_givers, .int b_promises, .int b_pan, .ref bq_keeping, .ref bq_giverOf, .ref bq_deedOf, .ref bq_dayOf, .ref bq_likelyOf, .ref bq_kindOf, .ref bq_settledOf])), (bq_keeping, .inl (cI, 4, .inl b_keeping)), (bq_giverOf, .inl (cI, 8, .inl b_giverOf)), (bq_deedOf, .inl (cI, 8, .inl b_deedOf)), (bq_dayOf, .inl (cI, 8, .inl b_dayOf)), (bq_likelyOf, .inl (cI, 8, .inl b_likelyOf)), (bq_kindOf, .inl (cI, 8, .inl b_kindOf)), (bq_settledOf, .inl (cI, 8, .inl b_settledOf))]) H := hP
    have hD : va_D A ([(oh, .inr (0, [.ref oq_promiseOf, .ref oq_waxOf, .ref oq_panOf, .ref oq_keepsOf, .int ((o_oldest + 1) - (o_oldest + 1) / 24 * 24), .int (o_kept - 1)])), (oq_promiseOf, .inl (cI, 24, .inl (upd o_promiseOf ((((o_oldest + 1) - (o_oldest + 1) / 24 * 24) + (o_kept - 1)) - (((o_oldest + 1) - (o_oldest + 1) / 24 * 24) + (o_kept - 1)) / 24 * 24).toNatClampNeg p2))), (oq_waxOf, .inl (cI, 24, .inl o_waxOf)), (oq_panOf, .inl (cI, 24, .inl o_panOf)), (oq_keepsOf, .inl (cI, 24, .inl o_keepsOf)), (bh, .inr (4, [.int b_told, .int b_wax, .int b_stick, .int b_givers, .int b_promises, .int b_pan, .ref bq_keeping, .ref bq_giverOf, .ref bq_deedOf, .ref bq_dayOf, .ref bq_likelyOf, .ref bq_kindOf, .ref bq_settledOf])), (bq_keeping, .inl (cI, 4, .inl b_keeping)), (bq_giverOf, .inl (cI, 8, .inl b_giverOf)), (bq_deedOf, .inl (cI, 8, .inl b_deedOf)), (bq_dayOf, .inl (cI, 8, .inl b_dayOf)), (bq_likelyOf, .inl (cI, 8, .inl b_likelyOf)), (bq_kindOf, .inl (cI, 8, .inl b_kindOf)), (bq_settledOf, .inl (cI, 8, .inl b_settledOf))]) := hD
    refine lv_aload_n hx hb dX0_remember_52 rfl (lv_at hl 1 rfl) ?_
    refine va_get (D := (dC, dI)) (ci := 0) (v := .ref oq_waxOf) (C := RX0) (T := TX0) (N := 6) hx hb hts hin0 hown hK hP 0 rfl rfl 1 (by decide) k15 (fun _ h9 => h9) rfl dX0_remember_53 ?_
    refine lv_iload_n hx hb dX0_remember_56 rfl (lv_at hl 0 rfl) ?_
    refine lv_aload_n hx hb dX0_remember_57 rfl (lv_at hl 2 rfl) ?_
    refine va_get (D := (dC, dI)) (ci := 4) (v := .int b_wax) (C := RX4) (T := TX4) (N := 13) hx hb hts hin4 hown hK hP 5 rfl rfl 1 (by decide) k31 (fun _ h9 => h9) rfl dX0_remember_58 ?_
    obtain ⟨g10, hf⟩ := bs_g hf
    refine va_iast hx hb hK hP hD hS 2 0 rfl rfl (bs_inV g10) dX0_remember_61 (fun H locs hP hD hS => ?_)
    have hP : va_P (dC, dI) vwCl ([(oh, .inr (0, [.ref oq_promiseOf, .ref oq_waxOf, .ref oq_panOf, .ref oq_keepsOf, .int ((o_oldest + 1) - (o_oldest + 1) / 24 * 24), .int (o_kept - 1)])), (oq_promiseOf, .inl (cI, 24, .inl (upd o_promiseOf ((((o_oldest + 1) - (o_oldest + 1) / 24 * 24) + (o_kept - 1)) - (((o_oldest + 1) - (o_oldest + 1) / 24 * 24) + (o_kept - 1)) / 24 * 24).toNatClampNeg p2))), (oq_waxOf, .inl (cI, 24, .inl (upd o_waxOf ((((o_oldest + 1) - (o_oldest + 1) / 24 * 24) + (o_kept - 1)) - (((o_oldest + 1) - (o_oldest + 1) / 24 * 24) + (o_kept - 1)) / 24 * 24).toNatClampNeg b_wax))), (oq_panOf, .inl (cI, 24, .inl o_panOf)), (oq_keepsOf, .inl (cI, 24, .inl o_keepsOf)), (bh, .inr (4, [.int b_told, .int b_wax, .int b_stick, .int b_givers, .int b_promises, .int b_pan, .ref bq_keeping, .ref bq_giverOf, .ref bq_deedOf, .ref bq_dayOf, .ref bq_likelyOf, .ref bq_kindOf, .ref bq_settledOf])), (bq_keeping, .inl (cI, 4, .inl b_keeping)), (bq_giverOf, .inl (cI, 8, .inl b_giverOf)), (bq_deedOf, .inl (cI, 8, .inl b_deedOf)), (bq_dayOf, .inl (cI, 8, .inl b_dayOf)), (bq_likelyOf, .inl (cI, 8, .inl b_likelyOf)), (bq_kindOf, .inl (cI, 8, .inl b_kindOf)), (bq_settledOf, .inl (cI, 8, .inl b_settledOf))]) H := hP
    have hD : va_D A ([(oh, .inr (0, [.ref oq_promiseOf, .ref oq_waxOf, .ref oq_panOf, .ref oq_keepsOf, .int ((o_oldest + 1) - (o_oldest + 1) / 24 * 24), .int (o_kept - 1)])), (oq_promiseOf, .inl (cI, 24, .inl (upd o_promiseOf ((((o_oldest + 1) - (o_oldest + 1) / 24 * 24) + (o_kept - 1)) - (((o_oldest + 1) - (o_oldest + 1) / 24 * 24) + (o_kept - 1)) / 24 * 24).toNatClampNeg p2))), (oq_waxOf, .inl (cI, 24, .inl (upd o_waxOf ((((o_oldest + 1) - (o_oldest + 1) / 24 * 24) + (o_kept - 1)) - (((o_oldest + 1) - (o_oldest + 1) / 24 * 24) + (o_kept - 1)) / 24 * 24).toNatClampNeg b_wax))), (oq_panOf, .inl (cI, 24, .inl o_panOf)), (oq_keepsOf, .inl (cI, 24, .inl o_keepsOf)), (bh, .inr (4, [.int b_told, .int b_wax, .int b_stick, .int b_givers, .int b_promises, .int b_pan, .ref bq_keeping, .ref bq_giverOf, .ref bq_deedOf, .ref bq_dayOf, .ref bq_likelyOf, .ref bq_kindOf, .ref bq_settledOf])), (bq_keeping, .inl (cI, 4, .inl b_keeping)), (bq_giverOf, .inl (cI, 8, .inl b_giverOf)), (bq_deedOf, .inl (cI, 8, .inl b_deedOf)), (bq_dayOf, .inl (cI, 8, .inl b_dayOf)), (bq_likelyOf, .inl (cI, 8, .inl b_likelyOf)), (bq_kindOf, .inl (cI, 8, .inl b_kindOf)), (bq_settledOf, .inl (cI, 8, .inl b_settledOf))]) := hD
    refine lv_aload_n hx hb dX0_remember_62 rfl (lv_at hl 1 rfl) ?_
    refine va_get (D := (dC, dI)) (ci := 0) (v := .ref oq_panOf) (C := RX0) (T := TX0) (N := 6) hx hb hts hin0 hown hK hP 0 rfl rfl 2 (by decide) k18 (fun _ h9 => h9) rfl dX0_remember_63 ?_
    refine lv_iload_n hx hb dX0_remember_66 rfl (lv_at hl 0 rfl) ?_
    refine lv_aload_n hx hb dX0_remember_67 rfl (lv_at hl 2 rfl) ?_
    refine va_get (D := (dC, dI)) (ci := 4) (v := .int b_pan) (C := RX4) (T := TX4) (N := 13) hx hb hts hin4 hown hK hP 5 rfl rfl 5 (by decide) k36 (fun _ h9 => h9) rfl dX0_remember_68 ?_
    obtain ⟨g11, hf⟩ := bs_g hf
    refine va_iast hx hb hK hP hD hS 3 0 rfl rfl (bs_inV g11) dX0_remember_71 (fun H locs hP hD hS => ?_)
    have hP : va_P (dC, dI) vwCl ([(oh, .inr (0, [.ref oq_promiseOf, .ref oq_waxOf, .ref oq_panOf, .ref oq_keepsOf, .int ((o_oldest + 1) - (o_oldest + 1) / 24 * 24), .int (o_kept - 1)])), (oq_promiseOf, .inl (cI, 24, .inl (upd o_promiseOf ((((o_oldest + 1) - (o_oldest + 1) / 24 * 24) + (o_kept - 1)) - (((o_oldest + 1) - (o_oldest + 1) / 24 * 24) + (o_kept - 1)) / 24 * 24).toNatClampNeg p2))), (oq_waxOf, .inl (cI, 24, .inl (upd o_waxOf ((((o_oldest + 1) - (o_oldest + 1) / 24 * 24) + (o_kept - 1)) - (((o_oldest + 1) - (o_oldest + 1) / 24 * 24) + (o_kept - 1)) / 24 * 24).toNatClampNeg b_wax))), (oq_panOf, .inl (cI, 24, .inl (upd o_panOf ((((o_oldest + 1) - (o_oldest + 1) / 24 * 24) + (o_kept - 1)) - (((o_oldest + 1) - (o_oldest + 1) / 24 * 24) + (o_kept - 1)) / 24 * 24).toNatClampNeg b_pan))), (oq_keepsOf, .inl (cI, 24, .inl o_keepsOf)), (bh, .inr (4, [.int b_told, .int b_wax, .int b_stick, .int b_givers, .int b_promises, .int b_pan, .ref bq_keeping, .ref bq_giverOf, .ref bq_deedOf, .ref bq_dayOf, .ref bq_likelyOf, .ref bq_kindOf, .ref bq_settledOf])), (bq_keeping, .inl (cI, 4, .inl b_keeping)), (bq_giverOf, .inl (cI, 8, .inl b_giverOf)), (bq_deedOf, .inl (cI, 8, .inl b_deedOf)), (bq_dayOf, .inl (cI, 8, .inl b_dayOf)), (bq_likelyOf, .inl (cI, 8, .inl b_likelyOf)), (bq_kindOf, .inl (cI, 8, .inl b_kindOf)), (bq_settledOf, .inl (cI, 8, .inl b_settledOf))]) H := hP
    have hD : va_D A ([(oh, .inr (0, [.ref oq_promiseOf, .ref oq_waxOf, .ref oq_panOf, .ref oq_keepsOf, .int ((o_oldest + 1) - (o_oldest + 1) / 24 * 24), .int (o_kept - 1)])), (oq_promiseOf, .inl (cI, 24, .inl (upd o_promiseOf ((((o_oldest + 1) - (o_oldest + 1) / 24 * 24) + (o_kept - 1)) - (((o_oldest + 1) - (o_oldest + 1) / 24 * 24) + (o_kept - 1)) / 24 * 24).toNatClampNeg p2))), (oq_waxOf, .inl (cI, 24, .inl (upd o_waxOf ((((o_oldest + 1) - (o_oldest + 1) / 24 * 24) + (o_kept - 1)) - (((o_oldest + 1) - (o_oldest + 1) / 24 * 24) + (o_kept - 1)) / 24 * 24).toNatClampNeg b_wax))), (oq_panOf, .inl (cI, 24, .inl (upd o_panOf ((((o_oldest + 1) - (o_oldest + 1) / 24 * 24) + (o_kept - 1)) - (((o_oldest + 1) - (o_oldest + 1) / 24 * 24) + (o_kept - 1)) / 24 * 24).toNatClampNeg b_pan))), (oq_keepsOf, .inl (cI, 24, .inl o_keepsOf)), (bh, .inr (4, [.int b_told, .int b_wax, .int b_stick, .int b_givers, .int b_promises, .int b_pan, .ref bq_keeping, .ref bq_giverOf, .ref bq_deedOf, .ref bq_dayOf, .ref bq_likelyOf, .ref bq_kindOf, .ref bq_settledOf])), (bq_keeping, .inl (cI, 4, .inl b_keeping)), (bq_giverOf, .inl (cI, 8, .inl b_giverOf)), (bq_deedOf, .inl (cI, 8, .inl b_deedOf)), (bq_dayOf, .inl (cI, 8, .inl b_dayOf)), (bq_likelyOf, .inl (cI, 8, .inl b_likelyOf)), (bq_kindOf, .inl (cI, 8, .inl b_kindOf)), (bq_settledOf, .inl (cI, 8, .inl b_settledOf))]) := hD
    refine lv_iload_n hx hb dX0_remember_72 rfl (lv_at hl 3 rfl) ?_
    refine lv_iconst (v := (-1)) hx hb dX0_remember_73 (by decide) ?_
    refine lv_icmp_eq (tgt := 94) hx hb dX0_remember_74 (by decide) (fun c12 => ?_) (fun c12 => ?_)
    · have hf := bs_t hf c12
      refine lv_aload_n hx hb dX0_remember_94 rfl (lv_at hl 1 rfl) ?_
      refine lv_dup hx hb dX0_remember_95 rfl ?_
      refine va_get (D := (dC, dI)) (ci := 0) (v := .int (o_kept - 1)) (C := RX0) (T := TX0) (N := 6) hx hb hts hin0 hown hK hP 0 rfl rfl 5 (by decide) k28 (fun _ h9 => h9) rfl dX0_remember_96 ?_
      refine lv_iconst (v := 1) hx hb dX0_remember_99 (by decide) ?_
      refine lv_iadd hx hb dX0_remember_100 ?_
      refine va_put (D := (dC, dI)) (ci := 0) (v := .int ((o_kept - 1) + 1)) (ty := .int) (C := RX0) (T := TX0) (N := 6) hx hb hts hin0 tyX0 tyX0_ok nmX0 hown hK hP hD hS 0 rfl rfl 5 (by decide) k28 (fun _ h9 => h9) rfl (by decide +kernel) rfl rfl (Nat.le_of_ble_eq_true rfl) dX0_remember_101 (fun H locs hP hD hS => ?_)
      have hP : va_P (dC, dI) vwCl ([(oh, .inr (0, [.ref oq_promiseOf, .ref oq_waxOf, .ref oq_panOf, .ref oq_keepsOf, .int ((o_oldest + 1) - (o_oldest + 1) / 24 * 24), .int ((o_kept - 1) + 1)])), (oq_promiseOf, .inl (cI, 24, .inl (upd o_promiseOf ((((o_oldest + 1) - (o_oldest + 1) / 24 * 24) + (o_kept - 1)) - (((o_oldest + 1) - (o_oldest + 1) / 24 * 24) + (o_kept - 1)) / 24 * 24).toNatClampNeg p2))), (oq_waxOf, .inl (cI, 24, .inl (upd o_waxOf ((((o_oldest + 1) - (o_oldest + 1) / 24 * 24) + (o_kept - 1)) - (((o_oldest + 1) - (o_oldest + 1) / 24 * 24) + (o_kept - 1)) / 24 * 24).toNatClampNeg b_wax))), (oq_panOf, .inl (cI, 24, .inl (upd o_panOf ((((o_oldest + 1) - (o_oldest + 1) / 24 * 24) + (o_kept - 1)) - (((o_oldest + 1) - (o_oldest + 1) / 24 * 24) + (o_kept - 1)) / 24 * 24).toNatClampNeg b_pan))), (oq_keepsOf, .inl (cI, 24, .inl o_keepsOf)), (bh, .inr (4, [.int b_told, .int b_wax, .int b_stick, .int b_givers, .int b_promises, .int b_pan, .ref bq_keeping, .ref bq_giverOf, .ref bq_deedOf, .ref bq_dayOf, .ref bq_likelyOf, .ref bq_kindOf, .ref bq_settledOf])), (bq_keeping, .inl (cI, 4, .inl b_keeping)), (bq_giverOf, .inl (cI, 8, .inl b_giverOf)), (bq_deedOf, .inl (cI, 8, .inl b_deedOf)), (bq_dayOf, .inl (cI, 8, .inl b_dayOf)), (bq_likelyOf, .inl (cI, 8, .inl b_likelyOf)), (bq_kindOf, .inl (cI, 8, .inl b_kindOf)), (bq_settledOf, .inl (cI, 8, .inl b_settledOf))]) H := hP
      have hD : va_D A ([(oh, .inr (0, [.ref oq_promiseOf, .ref oq_waxOf, .ref oq_panOf, .ref oq_keepsOf, .int ((o_oldest + 1) - (o_oldest + 1) / 24 * 24), .int ((o_kept - 1) + 1)])), (oq_promiseOf, .inl (cI, 24, .inl (upd o_promiseOf ((((o_oldest + 1) - (o_oldest + 1) / 24 * 24) + (o_kept - 1)) - (((o_oldest + 1) - (o_oldest + 1) / 24 * 24) + (o_kept - 1)) / 24 * 24).toNatClampNeg p2))), (oq_waxOf, .inl (cI, 24, .inl (upd o_waxOf ((((o_oldest + 1) - (o_oldest + 1) / 24 * 24) + (o_kept - 1)) - (((o_oldest + 1) - (o_oldest + 1) / 24 * 24) + (o_kept - 1)) / 24 * 24).toNatClampNeg b_wax))), (oq_panOf, .inl (cI, 24, .inl (upd o_panOf ((((o_oldest + 1) - (o_oldest + 1) / 24 * 24) + (o_kept - 1)) - (((o_oldest + 1) - (o_oldest + 1) / 24 * 24) + (o_kept - 1)) / 24 * 24).toNatClampNeg b_pan))), (oq_keepsOf, .inl (cI, 24, .inl o_keepsOf)), (bh, .inr (4, [.int b_told, .int b_wax, .int b_stick, .int b_givers, .int b_promises, .int b_pan, .ref bq_keeping, .ref bq_giverOf, .ref bq_deedOf, .ref bq_dayOf, .ref bq_likelyOf, .ref bq_kindOf, .ref bq_settledOf])), (bq_keeping, .inl (cI, 4, .inl b_keeping)), (bq_giverOf, .inl (cI, 8, .inl b_giverOf)), (bq_deedOf, .inl (cI, 8, .inl b_deedOf)), (bq_dayOf, .inl (cI, 8, .inl b_dayOf)), (bq_likelyOf, .inl (cI, 8, .inl b_likelyOf)), (bq_kindOf, .inl (cI, 8, .inl b_kindOf)), (bq_settledOf, .inl (cI, 8, .inl b_settledOf))]) := hD
      obtain rfl := Option.some.inj hf
      exact hret H locs _ _ hP hS dX0_remember_104
    · have hf := bs_f hf c12
      refine lv_aload_n hx hb dX0_remember_77 rfl (lv_at hl 1 rfl) ?_
      refine va_get (D := (dC, dI)) (ci := 0) (v := .ref oq_keepsOf) (C := RX0) (T := TX0) (N := 6) hx hb hts hin0 hown hK hP 0 rfl rfl 3 (by decide) k21 (fun _ h9 => h9) rfl dX0_remember_78 ?_
      refine lv_iload_n hx hb dX0_remember_81 rfl (lv_at hl 0 rfl) ?_
      refine lv_aload_n hx hb dX0_remember_82 rfl (lv_at hl 2 rfl) ?_
      refine va_get (D := (dC, dI)) (ci := 4) (v := .ref bq_keeping) (C := RX4) (T := TX4) (N := 13) hx hb hts hin4 hown hK hP 5 rfl rfl 6 (by decide) k39 (fun _ h9 => h9) rfl dX0_remember_83 ?_
      refine lv_aload_n hx hb dX0_remember_86 rfl (lv_at hl 2 rfl) ?_
      refine va_get (D := (dC, dI)) (ci := 4) (v := .ref bq_giverOf) (C := RX4) (T := TX4) (N := 13) hx hb hts hin4 hown hK hP 5 rfl rfl 7 (by decide) k42 (fun _ h9 => h9) rfl dX0_remember_87 ?_
      refine lv_iload_n hx hb dX0_remember_90 rfl (lv_at hl 3 rfl) ?_
      obtain ⟨g13, hf⟩ := bs_g hf
      refine va_iald hx hb hK hP 7 0 rfl rfl (bs_inV g13) dX0_remember_91 ?_
      obtain ⟨g14, hf⟩ := bs_g hf
      refine va_iald hx hb hK hP 6 0 rfl rfl (bs_inV g14) dX0_remember_92 ?_
      obtain ⟨g15, hf⟩ := bs_g hf
      refine va_iast hx hb hK hP hD hS 4 0 rfl rfl (bs_inV g15) dX0_remember_93 (fun H locs hP hD hS => ?_)
      have hP : va_P (dC, dI) vwCl ([(oh, .inr (0, [.ref oq_promiseOf, .ref oq_waxOf, .ref oq_panOf, .ref oq_keepsOf, .int ((o_oldest + 1) - (o_oldest + 1) / 24 * 24), .int (o_kept - 1)])), (oq_promiseOf, .inl (cI, 24, .inl (upd o_promiseOf ((((o_oldest + 1) - (o_oldest + 1) / 24 * 24) + (o_kept - 1)) - (((o_oldest + 1) - (o_oldest + 1) / 24 * 24) + (o_kept - 1)) / 24 * 24).toNatClampNeg p2))), (oq_waxOf, .inl (cI, 24, .inl (upd o_waxOf ((((o_oldest + 1) - (o_oldest + 1) / 24 * 24) + (o_kept - 1)) - (((o_oldest + 1) - (o_oldest + 1) / 24 * 24) + (o_kept - 1)) / 24 * 24).toNatClampNeg b_wax))), (oq_panOf, .inl (cI, 24, .inl (upd o_panOf ((((o_oldest + 1) - (o_oldest + 1) / 24 * 24) + (o_kept - 1)) - (((o_oldest + 1) - (o_oldest + 1) / 24 * 24) + (o_kept - 1)) / 24 * 24).toNatClampNeg b_pan))), (oq_keepsOf, .inl (cI, 24, .inl (upd o_keepsOf ((((o_oldest + 1) - (o_oldest + 1) / 24 * 24) + (o_kept - 1)) - (((o_oldest + 1) - (o_oldest + 1) / 24 * 24) + (o_kept - 1)) / 24 * 24).toNatClampNeg (b_keeping (b_giverOf p2.toNatClampNeg).toNatClampNeg)))), (bh, .inr (4, [.int b_told, .int b_wax, .int b_stick, .int b_givers, .int b_promises, .int b_pan, .ref bq_keeping, .ref bq_giverOf, .ref bq_deedOf, .ref bq_dayOf, .ref bq_likelyOf, .ref bq_kindOf, .ref bq_settledOf])), (bq_keeping, .inl (cI, 4, .inl b_keeping)), (bq_giverOf, .inl (cI, 8, .inl b_giverOf)), (bq_deedOf, .inl (cI, 8, .inl b_deedOf)), (bq_dayOf, .inl (cI, 8, .inl b_dayOf)), (bq_likelyOf, .inl (cI, 8, .inl b_likelyOf)), (bq_kindOf, .inl (cI, 8, .inl b_kindOf)), (bq_settledOf, .inl (cI, 8, .inl b_settledOf))]) H := hP
      have hD : va_D A ([(oh, .inr (0, [.ref oq_promiseOf, .ref oq_waxOf, .ref oq_panOf, .ref oq_keepsOf, .int ((o_oldest + 1) - (o_oldest + 1) / 24 * 24), .int (o_kept - 1)])), (oq_promiseOf, .inl (cI, 24, .inl (upd o_promiseOf ((((o_oldest + 1) - (o_oldest + 1) / 24 * 24) + (o_kept - 1)) - (((o_oldest + 1) - (o_oldest + 1) / 24 * 24) + (o_kept - 1)) / 24 * 24).toNatClampNeg p2))), (oq_waxOf, .inl (cI, 24, .inl (upd o_waxOf ((((o_oldest + 1) - (o_oldest + 1) / 24 * 24) + (o_kept - 1)) - (((o_oldest + 1) - (o_oldest + 1) / 24 * 24) + (o_kept - 1)) / 24 * 24).toNatClampNeg b_wax))), (oq_panOf, .inl (cI, 24, .inl (upd o_panOf ((((o_oldest + 1) - (o_oldest + 1) / 24 * 24) + (o_kept - 1)) - (((o_oldest + 1) - (o_oldest + 1) / 24 * 24) + (o_kept - 1)) / 24 * 24).toNatClampNeg b_pan))), (oq_keepsOf, .inl (cI, 24, .inl (upd o_keepsOf ((((o_oldest + 1) - (o_oldest + 1) / 24 * 24) + (o_kept - 1)) - (((o_oldest + 1) - (o_oldest + 1) / 24 * 24) + (o_kept - 1)) / 24 * 24).toNatClampNeg (b_keeping (b_giverOf p2.toNatClampNeg).toNatClampNeg)))), (bh, .inr (4, [.int b_told, .int b_wax, .int b_stick, .int b_givers, .int b_promises, .int b_pan, .ref bq_keeping, .ref bq_giverOf, .ref bq_deedOf, .ref bq_dayOf, .ref bq_likelyOf, .ref bq_kindOf, .ref bq_settledOf])), (bq_keeping, .inl (cI, 4, .inl b_keeping)), (bq_giverOf, .inl (cI, 8, .inl b_giverOf)), (bq_deedOf, .inl (cI, 8, .inl b_deedOf)), (bq_dayOf, .inl (cI, 8, .inl b_dayOf)), (bq_likelyOf, .inl (cI, 8, .inl b_likelyOf)), (bq_kindOf, .inl (cI, 8, .inl b_kindOf)), (bq_settledOf, .inl (cI, 8, .inl b_settledOf))]) := hD
      refine lv_aload_n hx hb dX0_remember_94 rfl (lv_at hl 1 rfl) ?_
      refine lv_dup hx hb dX0_remember_95 rfl ?_
      refine va_get (D := (dC, dI)) (ci := 0) (v := .int (o_kept - 1)) (C := RX0) (T := TX0) (N := 6) hx hb hts hin0 hown hK hP 0 rfl rfl 5 (by decide) k28 (fun _ h9 => h9) rfl dX0_remember_96 ?_
      refine lv_iconst (v := 1) hx hb dX0_remember_99 (by decide) ?_
      refine lv_iadd hx hb dX0_remember_100 ?_
      refine va_put (D := (dC, dI)) (ci := 0) (v := .int ((o_kept - 1) + 1)) (ty := .int) (C := RX0) (T := TX0) (N := 6) hx hb hts hin0 tyX0 tyX0_ok nmX0 hown hK hP hD hS 0 rfl rfl 5 (by decide) k28 (fun _ h9 => h9) rfl (by decide +kernel) rfl rfl (Nat.le_of_ble_eq_true rfl) dX0_remember_101 (fun H locs hP hD hS => ?_)
      have hP : va_P (dC, dI) vwCl ([(oh, .inr (0, [.ref oq_promiseOf, .ref oq_waxOf, .ref oq_panOf, .ref oq_keepsOf, .int ((o_oldest + 1) - (o_oldest + 1) / 24 * 24), .int ((o_kept - 1) + 1)])), (oq_promiseOf, .inl (cI, 24, .inl (upd o_promiseOf ((((o_oldest + 1) - (o_oldest + 1) / 24 * 24) + (o_kept - 1)) - (((o_oldest + 1) - (o_oldest + 1) / 24 * 24) + (o_kept - 1)) / 24 * 24).toNatClampNeg p2))), (oq_waxOf, .inl (cI, 24, .inl (upd o_waxOf ((((o_oldest + 1) - (o_oldest + 1) / 24 * 24) + (o_kept - 1)) - (((o_oldest + 1) - (o_oldest + 1) / 24 * 24) + (o_kept - 1)) / 24 * 24).toNatClampNeg b_wax))), (oq_panOf, .inl (cI, 24, .inl (upd o_panOf ((((o_oldest + 1) - (o_oldest + 1) / 24 * 24) + (o_kept - 1)) - (((o_oldest + 1) - (o_oldest + 1) / 24 * 24) + (o_kept - 1)) / 24 * 24).toNatClampNeg b_pan))), (oq_keepsOf, .inl (cI, 24, .inl (upd o_keepsOf ((((o_oldest + 1) - (o_oldest + 1) / 24 * 24) + (o_kept - 1)) - (((o_oldest + 1) - (o_oldest + 1) / 24 * 24) + (o_kept - 1)) / 24 * 24).toNatClampNeg (b_keeping (b_giverOf p2.toNatClampNeg).toNatClampNeg)))), (bh, .inr (4, [.int b_told, .int b_wax, .int b_stick, .int b_givers, .int b_promises, .int b_pan, .ref bq_keeping, .ref bq_giverOf, .ref bq_deedOf, .ref bq_dayOf, .ref bq_likelyOf, .ref bq_kindOf, .ref bq_settledOf])), (bq_keeping, .inl (cI, 4, .inl b_keeping)), (bq_giverOf, .inl (cI, 8, .inl b_giverOf)), (bq_deedOf, .inl (cI, 8, .inl b_deedOf)), (bq_dayOf, .inl (cI, 8, .inl b_dayOf)), (bq_likelyOf, .inl (cI, 8, .inl b_likelyOf)), (bq_kindOf, .inl (cI, 8, .inl b_kindOf)), (bq_settledOf, .inl (cI, 8, .inl b_settledOf))]) H := hP
      have hD : va_D A ([(oh, .inr (0, [.ref oq_promiseOf, .ref oq_waxOf, .ref oq_panOf, .ref oq_keepsOf, .int ((o_oldest + 1) - (o_oldest + 1) / 24 * 24), .int ((o_kept - 1) + 1)])), (oq_promiseOf, .inl (cI, 24, .inl (upd o_promiseOf ((((o_oldest + 1) - (o_oldest + 1) / 24 * 24) + (o_kept - 1)) - (((o_oldest + 1) - (o_oldest + 1) / 24 * 24) + (o_kept - 1)) / 24 * 24).toNatClampNeg p2))), (oq_waxOf, .inl (cI, 24, .inl (upd o_waxOf ((((o_oldest + 1) - (o_oldest + 1) / 24 * 24) + (o_kept - 1)) - (((o_oldest + 1) - (o_oldest + 1) / 24 * 24) + (o_kept - 1)) / 24 * 24).toNatClampNeg b_wax))), (oq_panOf, .inl (cI, 24, .inl (upd o_panOf ((((o_oldest + 1) - (o_oldest + 1) / 24 * 24) + (o_kept - 1)) - (((o_oldest + 1) - (o_oldest + 1) / 24 * 24) + (o_kept - 1)) / 24 * 24).toNatClampNeg b_pan))), (oq_keepsOf, .inl (cI, 24, .inl (upd o_keepsOf ((((o_oldest + 1) - (o_oldest + 1) / 24 * 24) + (o_kept - 1)) - (((o_oldest + 1) - (o_oldest + 1) / 24 * 24) + (o_kept - 1)) / 24 * 24).toNatClampNeg (b_keeping (b_giverOf p2.toNatClampNeg).toNatClampNeg)))), (bh, .inr (4, [.int b_told, .int b_wax, .int b_stick, .int b_givers, .int b_promises, .int b_pan, .ref bq_keeping, .ref bq_giverOf, .ref bq_deedOf, .ref bq_dayOf, .ref bq_likelyOf, .ref bq_kindOf, .ref bq_settledOf])), (bq_keeping, .inl (cI, 4, .inl b_keeping)), (bq_giverOf, .inl (cI, 8, .inl b_giverOf)), (bq_deedOf, .inl (cI, 8, .inl b_deedOf)), (bq_dayOf, .inl (cI, 8, .inl b_dayOf)), (bq_likelyOf, .inl (cI, 8, .inl b_likelyOf)), (bq_kindOf, .inl (cI, 8, .inl b_kindOf)), (bq_settledOf, .inl (cI, 8, .inl b_settledOf))]) := hD
      obtain rfl := Option.some.inj hf
      exact hret H locs _ _ hP hS dX0_remember_104
set_option maxHeartbeats 4000000 in
set_option maxRecDepth 100000 in
theorem k_X0_takeBack (l : Launch) (dC : Nat → ClassId) (dI : Nat → Nat → Nat) (cI cZ cS cG : ClassId) (oh : Nat) (oq_promiseOf : Nat) (oq_waxOf : Nat) (oq_panOf : Nat) (oq_keepsOf : Nat) (bh : Nat) (bq_keeping : Nat) (bq_giverOf : Nat) (bq_deedOf : Nat) (bq_dayOf : Nat) (bq_likelyOf : Nat) (bq_kindOf : Nat) (bq_settledOf : Nat) (o_promiseOf : Nat → Int32) (o_waxOf : Nat → Int32) (o_panOf : Nat → Int32) (o_keepsOf : Nat → Int32) (o_oldest : Int32) (o_kept : Int32) (b_told : Int32) (b_wax : Int32) (b_stick : Int32) (b_givers : Int32) (b_promises : Int32) (b_pan : Int32) (b_keeping : Nat → Int32) (b_giverOf : Nat → Int32) (b_deedOf : Nat → Int32) (b_dayOf : Nat → Int32) (b_likelyOf : Nat → Int32) (b_kindOf : Nat → Int32) (b_settledOf : Nat → Int32) (out : Int32 × Int32 × Int32 × (Nat → Int32) × (Nat → Int32)) (hf : f_X0_takeBack o_promiseOf o_waxOf o_panOf o_keepsOf o_oldest o_kept b_wax b_pan b_keeping b_giverOf b_settledOf = some out) : bs_CV l dC dI cI cZ cS cG yX0_takeBack wsX0_takeBack ({ frames := 0, cells := 0, slots := 0, locals := 0 } : Room) [.ref oh, .ref bh] ([(oh, .inr (0, [.ref oq_promiseOf, .ref oq_waxOf, .ref oq_panOf, .ref oq_keepsOf, .int o_oldest, .int o_kept])), (oq_promiseOf, .inl (cI, 24, .inl o_promiseOf)), (oq_waxOf, .inl (cI, 24, .inl o_waxOf)), (oq_panOf, .inl (cI, 24, .inl o_panOf)), (oq_keepsOf, .inl (cI, 24, .inl o_keepsOf)), (bh, .inr (4, [.int b_told, .int b_wax, .int b_stick, .int b_givers, .int b_promises, .int b_pan, .ref bq_keeping, .ref bq_giverOf, .ref bq_deedOf, .ref bq_dayOf, .ref bq_likelyOf, .ref bq_kindOf, .ref bq_settledOf])), (bq_keeping, .inl (cI, 4, .inl b_keeping)), (bq_giverOf, .inl (cI, 8, .inl b_giverOf)), (bq_deedOf, .inl (cI, 8, .inl b_deedOf)), (bq_dayOf, .inl (cI, 8, .inl b_dayOf)), (bq_likelyOf, .inl (cI, 8, .inl b_likelyOf)), (bq_kindOf, .inl (cI, 8, .inl b_kindOf)), (bq_settledOf, .inl (cI, 8, .inl b_settledOf))]) ([(oh, .inr (0, [.ref oq_promiseOf, .ref oq_waxOf, .ref oq_panOf, .ref oq_keepsOf, .int o_oldest, .int out.1])), (oq_promiseOf, .inl (cI, 24, .inl o_promiseOf)), (oq_waxOf, .inl (cI, 24, .inl o_waxOf)), (oq_panOf, .inl (cI, 24, .inl o_panOf)), (oq_keepsOf, .inl (cI, 24, .inl o_keepsOf)), (bh, .inr (4, [.int b_told, .int out.2.1, .int b_stick, .int b_givers, .int b_promises, .int out.2.2.1, .ref bq_keeping, .ref bq_giverOf, .ref bq_deedOf, .ref bq_dayOf, .ref bq_likelyOf, .ref bq_kindOf, .ref bq_settledOf])), (bq_keeping, .inl (cI, 4, .inl out.2.2.2.1)), (bq_giverOf, .inl (cI, 8, .inl b_giverOf)), (bq_deedOf, .inl (cI, 8, .inl b_deedOf)), (bq_dayOf, .inl (cI, 8, .inl b_dayOf)), (bq_likelyOf, .inl (cI, 8, .inl b_likelyOf)), (bq_kindOf, .inl (cI, 8, .inl b_kindOf)), (bq_settledOf, .inl (cI, 8, .inl out.2.2.2.2))]) := by
  refine bs_ofV (cc := cX0_takeBack) (maxL := 4) (by decide) rfl (Nat.le_of_ble_eq_true rfl) ?_
  intro p e s m below meth c A Q hx hb hown hml hts hE H locs hP hD hA hS ls hl hret
  have hK := hE.1
  have hl : lv_has ls 4 [(0, .ref oh), (1, .ref bh)] := hl
  have hin0 : ∀ w ∈ u_ws RX0 TX0 6, w ∈ wsX0_takeBack := by decide +kernel
  have hin4 : ∀ w ∈ u_ws RX4 TX4 13, w ∈ wsX0_takeBack := by decide +kernel
  have k11 := hts (.fieldLink RX0 11 "PromiseScales$Acts" "promiseOf" "[I") (by decide +kernel)
  have k15 := hts (.fieldLink RX0 15 "PromiseScales$Acts" "waxOf" "[I") (by decide +kernel)
  have k18 := hts (.fieldLink RX0 18 "PromiseScales$Acts" "panOf" "[I") (by decide +kernel)
  have k21 := hts (.fieldLink RX0 21 "PromiseScales$Acts" "keepsOf" "[I") (by decide +kernel)
  have k24 := hts (.fieldLink RX0 24 "PromiseScales$Acts" "oldest" "I") (by decide +kernel)
  have k28 := hts (.fieldLink RX0 28 "PromiseScales$Acts" "kept" "I") (by decide +kernel)
  have k31 := hts (.fieldLink RX0 31 "PromiseScales$Scales" "wax" "I") (by decide +kernel)
  have k36 := hts (.fieldLink RX0 36 "PromiseScales$Scales" "pan" "I") (by decide +kernel)
  have k39 := hts (.fieldLink RX0 39 "PromiseScales$Scales" "keeping" "[I") (by decide +kernel)
  have k42 := hts (.fieldLink RX0 42 "PromiseScales$Scales" "giverOf" "[I") (by decide +kernel)
  have k45 := hts (.fieldLink RX0 45 "PromiseScales$Scales" "settledOf" "[I") (by decide +kernel)
  unfold f_X0_takeBack at hf
  refine lv_aload_n hx hb dX0_takeBack_0 rfl (lv_at hl 0 rfl) ?_
  refine va_get (D := (dC, dI)) (ci := 0) (v := .int o_kept) (C := RX0) (T := TX0) (N := 6) hx hb hts hin0 hown hK hP 0 rfl rfl 5 (by decide) k28 (fun _ h9 => h9) rfl dX0_takeBack_1 ?_
  refine lv_if_ne (tgt := 8) hx hb dX0_takeBack_4 (by decide) (fun c1 => ?_) (fun c1 => ?_)
  · have hf := bs_f hf c1
    refine lv_aload_n hx hb dX0_takeBack_8 rfl (lv_at hl 0 rfl) ?_
    refine lv_dup hx hb dX0_takeBack_9 rfl ?_
    refine va_get (D := (dC, dI)) (ci := 0) (v := .int o_kept) (C := RX0) (T := TX0) (N := 6) hx hb hts hin0 hown hK hP 0 rfl rfl 5 (by decide) k28 (fun _ h9 => h9) rfl dX0_takeBack_10 ?_
    refine lv_iconst (v := 1) hx hb dX0_takeBack_13 (by decide) ?_
    refine lv_isub hx hb dX0_takeBack_14 ?_
    refine va_put (D := (dC, dI)) (ci := 0) (v := .int (o_kept - 1)) (ty := .int) (C := RX0) (T := TX0) (N := 6) hx hb hts hin0 tyX0 tyX0_ok nmX0 hown hK hP hD hS 0 rfl rfl 5 (by decide) k28 (fun _ h9 => h9) rfl (by decide +kernel) rfl rfl (Nat.le_of_ble_eq_true rfl) dX0_takeBack_15 (fun H locs hP hD hS => ?_)
    have hP : va_P (dC, dI) vwCl ([(oh, .inr (0, [.ref oq_promiseOf, .ref oq_waxOf, .ref oq_panOf, .ref oq_keepsOf, .int o_oldest, .int (o_kept - 1)])), (oq_promiseOf, .inl (cI, 24, .inl o_promiseOf)), (oq_waxOf, .inl (cI, 24, .inl o_waxOf)), (oq_panOf, .inl (cI, 24, .inl o_panOf)), (oq_keepsOf, .inl (cI, 24, .inl o_keepsOf)), (bh, .inr (4, [.int b_told, .int b_wax, .int b_stick, .int b_givers, .int b_promises, .int b_pan, .ref bq_keeping, .ref bq_giverOf, .ref bq_deedOf, .ref bq_dayOf, .ref bq_likelyOf, .ref bq_kindOf, .ref bq_settledOf])), (bq_keeping, .inl (cI, 4, .inl b_keeping)), (bq_giverOf, .inl (cI, 8, .inl b_giverOf)), (bq_deedOf, .inl (cI, 8, .inl b_deedOf)), (bq_dayOf, .inl (cI, 8, .inl b_dayOf)), (bq_likelyOf, .inl (cI, 8, .inl b_likelyOf)), (bq_kindOf, .inl (cI, 8, .inl b_kindOf)), (bq_settledOf, .inl (cI, 8, .inl b_settledOf))]) H := hP
    have hD : va_D A ([(oh, .inr (0, [.ref oq_promiseOf, .ref oq_waxOf, .ref oq_panOf, .ref oq_keepsOf, .int o_oldest, .int (o_kept - 1)])), (oq_promiseOf, .inl (cI, 24, .inl o_promiseOf)), (oq_waxOf, .inl (cI, 24, .inl o_waxOf)), (oq_panOf, .inl (cI, 24, .inl o_panOf)), (oq_keepsOf, .inl (cI, 24, .inl o_keepsOf)), (bh, .inr (4, [.int b_told, .int b_wax, .int b_stick, .int b_givers, .int b_promises, .int b_pan, .ref bq_keeping, .ref bq_giverOf, .ref bq_deedOf, .ref bq_dayOf, .ref bq_likelyOf, .ref bq_kindOf, .ref bq_settledOf])), (bq_keeping, .inl (cI, 4, .inl b_keeping)), (bq_giverOf, .inl (cI, 8, .inl b_giverOf)), (bq_deedOf, .inl (cI, 8, .inl b_deedOf)), (bq_dayOf, .inl (cI, 8, .inl b_dayOf)), (bq_likelyOf, .inl (cI, 8, .inl b_likelyOf)), (bq_kindOf, .inl (cI, 8, .inl b_kindOf)), (bq_settledOf, .inl (cI, 8, .inl b_settledOf))]) := hD
    refine lv_aload_n hx hb dX0_takeBack_18 rfl (lv_at hl 0 rfl) ?_
    refine va_get (D := (dC, dI)) (ci := 0) (v := .int o_oldest) (C := RX0) (T := TX0) (N := 6) hx hb hts hin0 hown hK hP 0 rfl rfl 4 (by decide) k24 (fun _ h9 => h9) rfl dX0_takeBack_19 ?_
    refine lv_aload_n hx hb dX0_takeBack_22 rfl (lv_at hl 0 rfl) ?_
    refine va_get (D := (dC, dI)) (ci := 0) (v := .int (o_kept - 1)) (C := RX0) (T := TX0) (N := 6) hx hb hts hin0 hown hK hP 0 rfl rfl 5 (by decide) k28 (fun _ h9 => h9) rfl dX0_takeBack_23 ?_
    refine lv_iadd hx hb dX0_takeBack_26 ?_
    refine lv_bipush (v := 24) hx hb dX0_takeBack_27 (by decide) ?_
    refine lv_irem hx hb dX0_takeBack_29 (by decide) ?_
    refine lv_istore_n (lv' := [(2, .int ((o_oldest + (o_kept - 1)) - (o_oldest + (o_kept - 1)) / 24 * 24)), (0, .ref oh), (1, .ref bh)]) hx hb dX0_takeBack_30 rfl hl (by decide) rfl (fun ls hl => ?_)
    refine lv_aload_n hx hb dX0_takeBack_31 rfl (lv_at hl 1 rfl) ?_
    refine va_get (D := (dC, dI)) (ci := 0) (v := .ref oq_promiseOf) (C := RX0) (T := TX0) (N := 6) hx hb hts hin0 hown hK hP 0 rfl rfl 0 (by decide) k11 (fun _ h9 => h9) rfl dX0_takeBack_32 ?_
    refine lv_iload_n hx hb dX0_takeBack_35 rfl (lv_at hl 0 rfl) ?_
    obtain ⟨g2, hf⟩ := bs_g hf
    refine va_iald hx hb hK hP 1 0 rfl rfl (bs_inV g2) dX0_takeBack_36 ?_
    refine lv_istore_n (lv' := [(3, .int (o_promiseOf ((o_oldest + (o_kept - 1)) - (o_oldest + (o_kept - 1)) / 24 * 24).toNatClampNeg)), (2, .int ((o_oldest + (o_kept - 1)) - (o_oldest + (o_kept - 1)) / 24 * 24)), (0, .ref oh), (1, .ref bh)]) hx hb dX0_takeBack_37 rfl hl (by decide) rfl (fun ls hl => ?_)
    refine lv_aload_n hx hb dX0_takeBack_38 rfl (lv_at hl 3 rfl) ?_
    refine lv_aload_n hx hb dX0_takeBack_39 rfl (lv_at hl 2 rfl) ?_
    refine va_get (D := (dC, dI)) (ci := 0) (v := .ref oq_waxOf) (C := RX0) (T := TX0) (N := 6) hx hb hts hin0 hown hK hP 0 rfl rfl 1 (by decide) k15 (fun _ h9 => h9) rfl dX0_takeBack_40 ?_
    refine lv_iload_n hx hb dX0_takeBack_43 rfl (lv_at hl 1 rfl) ?_
    obtain ⟨g3, hf⟩ := bs_g hf
    refine va_iald hx hb hK hP 2 0 rfl rfl (bs_inV g3) dX0_takeBack_44 ?_
    refine va_put (D := (dC, dI)) (ci := 4) (v := .int (o_waxOf ((o_oldest + (o_kept - 1)) - (o_oldest + (o_kept - 1)) / 24 * 24).toNatClampNeg)) (ty := .int) (C := RX4) (T := TX4) (N := 13) hx hb hts hin4 tyX4 tyX4_ok nmX4 hown hK hP hD hS 5 rfl rfl 1 (by decide) k31 (fun _ h9 => h9) rfl (by decide +kernel) rfl rfl (Nat.le_of_ble_eq_true rfl) dX0_takeBack_45 (fun H locs hP hD hS => ?_)
    have hP : va_P (dC, dI) vwCl ([(oh, .inr (0, [.ref oq_promiseOf, .ref oq_waxOf, .ref oq_panOf, .ref oq_keepsOf, .int o_oldest, .int (o_kept - 1)])), (oq_promiseOf, .inl (cI, 24, .inl o_promiseOf)), (oq_waxOf, .inl (cI, 24, .inl o_waxOf)), (oq_panOf, .inl (cI, 24, .inl o_panOf)), (oq_keepsOf, .inl (cI, 24, .inl o_keepsOf)), (bh, .inr (4, [.int b_told, .int (o_waxOf ((o_oldest + (o_kept - 1)) - (o_oldest + (o_kept - 1)) / 24 * 24).toNatClampNeg), .int b_stick, .int b_givers, .int b_promises, .int b_pan, .ref bq_keeping, .ref bq_giverOf, .ref bq_deedOf, .ref bq_dayOf, .ref bq_likelyOf, .ref bq_kindOf, .ref bq_settledOf])), (bq_keeping, .inl (cI, 4, .inl b_keeping)), (bq_giverOf, .inl (cI, 8, .inl b_giverOf)), (bq_deedOf, .inl (cI, 8, .inl b_deedOf)), (bq_dayOf, .inl (cI, 8, .inl b_dayOf)), (bq_likelyOf, .inl (cI, 8, .inl b_likelyOf)), (bq_kindOf, .inl (cI, 8, .inl b_kindOf)), (bq_settledOf, .inl (cI, 8, .inl b_settledOf))]) H := hP
    have hD : va_D A ([(oh, .inr (0, [.ref oq_promiseOf, .ref oq_waxOf, .ref oq_panOf, .ref oq_keepsOf, .int o_oldest, .int (o_kept - 1)])), (oq_promiseOf, .inl (cI, 24, .inl o_promiseOf)), (oq_waxOf, .inl (cI, 24, .inl o_waxOf)), (oq_panOf, .inl (cI, 24, .inl o_panOf)), (oq_keepsOf, .inl (cI, 24, .inl o_keepsOf)), (bh, .inr (4, [.int b_told, .int (o_waxOf ((o_oldest + (o_kept - 1)) - (o_oldest + (o_kept - 1)) / 24 * 24).toNatClampNeg), .int b_stick, .int b_givers, .int b_promises, .int b_pan, .ref bq_keeping, .ref bq_giverOf, .ref bq_deedOf, .ref bq_dayOf, .ref bq_likelyOf, .ref bq_kindOf, .ref bq_settledOf])), (bq_keeping, .inl (cI, 4, .inl b_keeping)), (bq_giverOf, .inl (cI, 8, .inl b_giverOf)), (bq_deedOf, .inl (cI, 8, .inl b_deedOf)), (bq_dayOf, .inl (cI, 8, .inl b_dayOf)), (bq_likelyOf, .inl (cI, 8, .inl b_likelyOf)), (bq_kindOf, .inl (cI, 8, .inl b_kindOf)), (bq_settledOf, .inl (cI, 8, .inl b_settledOf))]) := hD
    refine lv_aload_n hx hb dX0_takeBack_48 rfl (lv_at hl 3 rfl) ?_
    refine lv_aload_n hx hb dX0_takeBack_49 rfl (lv_at hl 2 rfl) ?_
    refine va_get (D := (dC, dI)) (ci := 0) (v := .ref oq_panOf) (C := RX0) (T := TX0) (N := 6) hx hb hts hin0 hown hK hP 0 rfl rfl 2 (by decide) k18 (fun _ h9 => h9) rfl dX0_takeBack_50 ?_
    refine lv_iload_n hx hb dX0_takeBack_53 rfl (lv_at hl 1 rfl) ?_
    obtain ⟨g4, hf⟩ := bs_g hf
    refine va_iald hx hb hK hP 3 0 rfl rfl (bs_inV g4) dX0_takeBack_54 ?_
    refine va_put (D := (dC, dI)) (ci := 4) (v := .int (o_panOf ((o_oldest + (o_kept - 1)) - (o_oldest + (o_kept - 1)) / 24 * 24).toNatClampNeg)) (ty := .int) (C := RX4) (T := TX4) (N := 13) hx hb hts hin4 tyX4 tyX4_ok nmX4 hown hK hP hD hS 5 rfl rfl 5 (by decide) k36 (fun _ h9 => h9) rfl (by decide +kernel) rfl rfl (Nat.le_of_ble_eq_true rfl) dX0_takeBack_55 (fun H locs hP hD hS => ?_)
    have hP : va_P (dC, dI) vwCl ([(oh, .inr (0, [.ref oq_promiseOf, .ref oq_waxOf, .ref oq_panOf, .ref oq_keepsOf, .int o_oldest, .int (o_kept - 1)])), (oq_promiseOf, .inl (cI, 24, .inl o_promiseOf)), (oq_waxOf, .inl (cI, 24, .inl o_waxOf)), (oq_panOf, .inl (cI, 24, .inl o_panOf)), (oq_keepsOf, .inl (cI, 24, .inl o_keepsOf)), (bh, .inr (4, [.int b_told, .int (o_waxOf ((o_oldest + (o_kept - 1)) - (o_oldest + (o_kept - 1)) / 24 * 24).toNatClampNeg), .int b_stick, .int b_givers, .int b_promises, .int (o_panOf ((o_oldest + (o_kept - 1)) - (o_oldest + (o_kept - 1)) / 24 * 24).toNatClampNeg), .ref bq_keeping, .ref bq_giverOf, .ref bq_deedOf, .ref bq_dayOf, .ref bq_likelyOf, .ref bq_kindOf, .ref bq_settledOf])), (bq_keeping, .inl (cI, 4, .inl b_keeping)), (bq_giverOf, .inl (cI, 8, .inl b_giverOf)), (bq_deedOf, .inl (cI, 8, .inl b_deedOf)), (bq_dayOf, .inl (cI, 8, .inl b_dayOf)), (bq_likelyOf, .inl (cI, 8, .inl b_likelyOf)), (bq_kindOf, .inl (cI, 8, .inl b_kindOf)), (bq_settledOf, .inl (cI, 8, .inl b_settledOf))]) H := hP
    have hD : va_D A ([(oh, .inr (0, [.ref oq_promiseOf, .ref oq_waxOf, .ref oq_panOf, .ref oq_keepsOf, .int o_oldest, .int (o_kept - 1)])), (oq_promiseOf, .inl (cI, 24, .inl o_promiseOf)), (oq_waxOf, .inl (cI, 24, .inl o_waxOf)), (oq_panOf, .inl (cI, 24, .inl o_panOf)), (oq_keepsOf, .inl (cI, 24, .inl o_keepsOf)), (bh, .inr (4, [.int b_told, .int (o_waxOf ((o_oldest + (o_kept - 1)) - (o_oldest + (o_kept - 1)) / 24 * 24).toNatClampNeg), .int b_stick, .int b_givers, .int b_promises, .int (o_panOf ((o_oldest + (o_kept - 1)) - (o_oldest + (o_kept - 1)) / 24 * 24).toNatClampNeg), .ref bq_keeping, .ref bq_giverOf, .ref bq_deedOf, .ref bq_dayOf, .ref bq_likelyOf, .ref bq_kindOf, .ref bq_settledOf])), (bq_keeping, .inl (cI, 4, .inl b_keeping)), (bq_giverOf, .inl (cI, 8, .inl b_giverOf)), (bq_deedOf, .inl (cI, 8, .inl b_deedOf)), (bq_dayOf, .inl (cI, 8, .inl b_dayOf)), (bq_likelyOf, .inl (cI, 8, .inl b_likelyOf)), (bq_kindOf, .inl (cI, 8, .inl b_kindOf)), (bq_settledOf, .inl (cI, 8, .inl b_settledOf))]) := hD
    refine lv_iload_n hx hb dX0_takeBack_58 rfl (lv_at hl 0 rfl) ?_
    refine lv_iconst (v := (-1)) hx hb dX0_takeBack_59 (by decide) ?_
    refine lv_icmp_eq (tgt := 87) hx hb dX0_takeBack_60 (by decide) (fun c5 => ?_) (fun c5 => ?_)
    · have hf := bs_t hf c5
      obtain rfl := Option.some.inj hf
      exact hret H locs _ _ hP hS dX0_takeBack_87
    · have hf := bs_f hf c5
      refine lv_aload_n hx hb dX0_takeBack_63 rfl (lv_at hl 3 rfl) ?_
      refine va_get (D := (dC, dI)) (ci := 4) (v := .ref bq_settledOf) (C := RX4) (T := TX4) (N := 13) hx hb hts hin4 hown hK hP 5 rfl rfl 12 (by decide) k45 (fun _ h9 => h9) rfl dX0_takeBack_64 ?_
      refine lv_iload_n hx hb dX0_takeBack_67 rfl (lv_at hl 0 rfl) ?_
      refine lv_iconst (v := 0) hx hb dX0_takeBack_68 (by decide) ?_
      obtain ⟨g6, hf⟩ := bs_g hf
      refine va_iast hx hb hK hP hD hS 12 0 rfl rfl (bs_inV g6) dX0_takeBack_69 (fun H locs hP hD hS => ?_)
      have hP : va_P (dC, dI) vwCl ([(oh, .inr (0, [.ref oq_promiseOf, .ref oq_waxOf, .ref oq_panOf, .ref oq_keepsOf, .int o_oldest, .int (o_kept - 1)])), (oq_promiseOf, .inl (cI, 24, .inl o_promiseOf)), (oq_waxOf, .inl (cI, 24, .inl o_waxOf)), (oq_panOf, .inl (cI, 24, .inl o_panOf)), (oq_keepsOf, .inl (cI, 24, .inl o_keepsOf)), (bh, .inr (4, [.int b_told, .int (o_waxOf ((o_oldest + (o_kept - 1)) - (o_oldest + (o_kept - 1)) / 24 * 24).toNatClampNeg), .int b_stick, .int b_givers, .int b_promises, .int (o_panOf ((o_oldest + (o_kept - 1)) - (o_oldest + (o_kept - 1)) / 24 * 24).toNatClampNeg), .ref bq_keeping, .ref bq_giverOf, .ref bq_deedOf, .ref bq_dayOf, .ref bq_likelyOf, .ref bq_kindOf, .ref bq_settledOf])), (bq_keeping, .inl (cI, 4, .inl b_keeping)), (bq_giverOf, .inl (cI, 8, .inl b_giverOf)), (bq_deedOf, .inl (cI, 8, .inl b_deedOf)), (bq_dayOf, .inl (cI, 8, .inl b_dayOf)), (bq_likelyOf, .inl (cI, 8, .inl b_likelyOf)), (bq_kindOf, .inl (cI, 8, .inl b_kindOf)), (bq_settledOf, .inl (cI, 8, .inl (upd b_settledOf (o_promiseOf ((o_oldest + (o_kept - 1)) - (o_oldest + (o_kept - 1)) / 24 * 24).toNatClampNeg).toNatClampNeg 0)))]) H := hP
      have hD : va_D A ([(oh, .inr (0, [.ref oq_promiseOf, .ref oq_waxOf, .ref oq_panOf, .ref oq_keepsOf, .int o_oldest, .int (o_kept - 1)])), (oq_promiseOf, .inl (cI, 24, .inl o_promiseOf)), (oq_waxOf, .inl (cI, 24, .inl o_waxOf)), (oq_panOf, .inl (cI, 24, .inl o_panOf)), (oq_keepsOf, .inl (cI, 24, .inl o_keepsOf)), (bh, .inr (4, [.int b_told, .int (o_waxOf ((o_oldest + (o_kept - 1)) - (o_oldest + (o_kept - 1)) / 24 * 24).toNatClampNeg), .int b_stick, .int b_givers, .int b_promises, .int (o_panOf ((o_oldest + (o_kept - 1)) - (o_oldest + (o_kept - 1)) / 24 * 24).toNatClampNeg), .ref bq_keeping, .ref bq_giverOf, .ref bq_deedOf, .ref bq_dayOf, .ref bq_likelyOf, .ref bq_kindOf, .ref bq_settledOf])), (bq_keeping, .inl (cI, 4, .inl b_keeping)), (bq_giverOf, .inl (cI, 8, .inl b_giverOf)), (bq_deedOf, .inl (cI, 8, .inl b_deedOf)), (bq_dayOf, .inl (cI, 8, .inl b_dayOf)), (bq_likelyOf, .inl (cI, 8, .inl b_likelyOf)), (bq_kindOf, .inl (cI, 8, .inl b_kindOf)), (bq_settledOf, .inl (cI, 8, .inl (upd b_settledOf (o_promiseOf ((o_oldest + (o_kept - 1)) - (o_oldest + (o_kept - 1)) / 24 * 24).toNatClampNeg).toNatClampNeg 0)))]) := hD
      refine lv_aload_n hx hb dX0_takeBack_70 rfl (lv_at hl 3 rfl) ?_
      refine va_get (D := (dC, dI)) (ci := 4) (v := .ref bq_keeping) (C := RX4) (T := TX4) (N := 13) hx hb hts hin4 hown hK hP 5 rfl rfl 6 (by decide) k39 (fun _ h9 => h9) rfl dX0_takeBack_71 ?_
      refine lv_aload_n hx hb dX0_takeBack_74 rfl (lv_at hl 3 rfl) ?_
      refine va_get (D := (dC, dI)) (ci := 4) (v := .ref bq_giverOf) (C := RX4) (T := TX4) (N := 13) hx hb hts hin4 hown hK hP 5 rfl rfl 7 (by decide) k42 (fun _ h9 => h9) rfl dX0_takeBack_75 ?_
      refine lv_iload_n hx hb dX0_takeBack_78 rfl (lv_at hl 0 rfl) ?_
      obtain ⟨g7, hf⟩ := bs_g hf
      refine va_iald hx hb hK hP 7 0 rfl rfl (bs_inV g7) dX0_takeBack_79 ?_
      refine lv_aload_n hx hb dX0_takeBack_80 rfl (lv_at hl 2 rfl) ?_
      refine va_get (D := (dC, dI)) (ci := 0) (v := .ref oq_keepsOf) (C := RX0) (T := TX0) (N := 6) hx hb hts hin0 hown hK hP 0 rfl rfl 3 (by decide) k21 (fun _ h9 => h9) rfl dX0_takeBack_81 ?_
      refine lv_iload_n hx hb dX0_takeBack_84 rfl (lv_at hl 1 rfl) ?_
      obtain ⟨g8, hf⟩ := bs_g hf
      refine va_iald hx hb hK hP 4 0 rfl rfl (bs_inV g8) dX0_takeBack_85 ?_
      obtain ⟨g9, hf⟩ := bs_g hf
      refine va_iast hx hb hK hP hD hS 6 0 rfl rfl (bs_inV g9) dX0_takeBack_86 (fun H locs hP hD hS => ?_)
      have hP : va_P (dC, dI) vwCl ([(oh, .inr (0, [.ref oq_promiseOf, .ref oq_waxOf, .ref oq_panOf, .ref oq_keepsOf, .int o_oldest, .int (o_kept - 1)])), (oq_promiseOf, .inl (cI, 24, .inl o_promiseOf)), (oq_waxOf, .inl (cI, 24, .inl o_waxOf)), (oq_panOf, .inl (cI, 24, .inl o_panOf)), (oq_keepsOf, .inl (cI, 24, .inl o_keepsOf)), (bh, .inr (4, [.int b_told, .int (o_waxOf ((o_oldest + (o_kept - 1)) - (o_oldest + (o_kept - 1)) / 24 * 24).toNatClampNeg), .int b_stick, .int b_givers, .int b_promises, .int (o_panOf ((o_oldest + (o_kept - 1)) - (o_oldest + (o_kept - 1)) / 24 * 24).toNatClampNeg), .ref bq_keeping, .ref bq_giverOf, .ref bq_deedOf, .ref bq_dayOf, .ref bq_likelyOf, .ref bq_kindOf, .ref bq_settledOf])), (bq_keeping, .inl (cI, 4, .inl (upd b_keeping (b_giverOf (o_promiseOf ((o_oldest + (o_kept - 1)) - (o_oldest + (o_kept - 1)) / 24 * 24).toNatClampNeg).toNatClampNeg).toNatClampNeg (o_keepsOf ((o_oldest + (o_kept - 1)) - (o_oldest + (o_kept - 1)) / 24 * 24).toNatClampNeg)))), (bq_giverOf, .inl (cI, 8, .inl b_giverOf)), (bq_deedOf, .inl (cI, 8, .inl b_deedOf)), (bq_dayOf, .inl (cI, 8, .inl b_dayOf)), (bq_likelyOf, .inl (cI, 8, .inl b_likelyOf)), (bq_kindOf, .inl (cI, 8, .inl b_kindOf)), (bq_settledOf, .inl (cI, 8, .inl (upd b_settledOf (o_promiseOf ((o_oldest + (o_kept - 1)) - (o_oldest + (o_kept - 1)) / 24 * 24).toNatClampNeg).toNatClampNeg 0)))]) H := hP
      have hD : va_D A ([(oh, .inr (0, [.ref oq_promiseOf, .ref oq_waxOf, .ref oq_panOf, .ref oq_keepsOf, .int o_oldest, .int (o_kept - 1)])), (oq_promiseOf, .inl (cI, 24, .inl o_promiseOf)), (oq_waxOf, .inl (cI, 24, .inl o_waxOf)), (oq_panOf, .inl (cI, 24, .inl o_panOf)), (oq_keepsOf, .inl (cI, 24, .inl o_keepsOf)), (bh, .inr (4, [.int b_told, .int (o_waxOf ((o_oldest + (o_kept - 1)) - (o_oldest + (o_kept - 1)) / 24 * 24).toNatClampNeg), .int b_stick, .int b_givers, .int b_promises, .int (o_panOf ((o_oldest + (o_kept - 1)) - (o_oldest + (o_kept - 1)) / 24 * 24).toNatClampNeg), .ref bq_keeping, .ref bq_giverOf, .ref bq_deedOf, .ref bq_dayOf, .ref bq_likelyOf, .ref bq_kindOf, .ref bq_settledOf])), (bq_keeping, .inl (cI, 4, .inl (upd b_keeping (b_giverOf (o_promiseOf ((o_oldest + (o_kept - 1)) - (o_oldest + (o_kept - 1)) / 24 * 24).toNatClampNeg).toNatClampNeg).toNatClampNeg (o_keepsOf ((o_oldest + (o_kept - 1)) - (o_oldest + (o_kept - 1)) / 24 * 24).toNatClampNeg)))), (bq_giverOf, .inl (cI, 8, .inl b_giverOf)), (bq_deedOf, .inl (cI, 8, .inl b_deedOf)), (bq_dayOf, .inl (cI, 8, .inl b_dayOf)), (bq_likelyOf, .inl (cI, 8, .inl b_likelyOf)), (bq_kindOf, .inl (cI, 8, .inl b_kindOf)), (bq_settledOf, .inl (cI, 8, .inl (upd b_settledOf (o_promiseOf ((o_oldest + (o_kept - 1)) - (o_oldest + (o_kept - 1)) / 24 * 24).toNatClampNeg).toNatClampNeg 0)))]) := hD
      obtain rfl := Option.some.inj hf
      exact hret H locs _ _ hP hS dX0_takeBack_87
  · have hf := bs_t hf c1
    obtain rfl := Option.some.inj hf
    exact hret H locs _ _ hP hS dX0_takeBack_7
set_option maxHeartbeats 4000000 in
set_option maxRecDepth 100000 in
theorem k_X4_isSettled (l : Launch) (dC : Nat → ClassId) (dI : Nat → Nat → Nat) (cI cZ cS cG : ClassId) (oh : Nat) (oq_keeping : Nat) (oq_giverOf : Nat) (oq_deedOf : Nat) (oq_dayOf : Nat) (oq_likelyOf : Nat) (oq_kindOf : Nat) (oq_settledOf : Nat) (o_told : Int32) (o_wax : Int32) (o_stick : Int32) (o_givers : Int32) (o_promises : Int32) (o_pan : Int32) (o_keeping : Nat → Int32) (o_giverOf : Nat → Int32) (o_deedOf : Nat → Int32) (o_dayOf : Nat → Int32) (o_likelyOf : Nat → Int32) (o_kindOf : Nat → Int32) (o_settledOf : Nat → Int32) (p1 : Int32) (out : Int32) (hf : f_X4_isSettled o_settledOf p1 = some out) : bs_C l dC dI cI cZ cS cG yX4_isSettled wsX4_isSettled ({ frames := 0, cells := 0, slots := 0, locals := 0 } : Room) [.ref oh, .int p1] ([(oh, .inr (4, [.int o_told, .int o_wax, .int o_stick, .int o_givers, .int o_promises, .int o_pan, .ref oq_keeping, .ref oq_giverOf, .ref oq_deedOf, .ref oq_dayOf, .ref oq_likelyOf, .ref oq_kindOf, .ref oq_settledOf])), (oq_keeping, .inl (cI, 4, .inl o_keeping)), (oq_giverOf, .inl (cI, 8, .inl o_giverOf)), (oq_deedOf, .inl (cI, 8, .inl o_deedOf)), (oq_dayOf, .inl (cI, 8, .inl o_dayOf)), (oq_likelyOf, .inl (cI, 8, .inl o_likelyOf)), (oq_kindOf, .inl (cI, 8, .inl o_kindOf)), (oq_settledOf, .inl (cI, 8, .inl o_settledOf))]) out ([(oh, .inr (4, [.int o_told, .int o_wax, .int o_stick, .int o_givers, .int o_promises, .int o_pan, .ref oq_keeping, .ref oq_giverOf, .ref oq_deedOf, .ref oq_dayOf, .ref oq_likelyOf, .ref oq_kindOf, .ref oq_settledOf])), (oq_keeping, .inl (cI, 4, .inl o_keeping)), (oq_giverOf, .inl (cI, 8, .inl o_giverOf)), (oq_deedOf, .inl (cI, 8, .inl o_deedOf)), (oq_dayOf, .inl (cI, 8, .inl o_dayOf)), (oq_likelyOf, .inl (cI, 8, .inl o_likelyOf)), (oq_kindOf, .inl (cI, 8, .inl o_kindOf)), (oq_settledOf, .inl (cI, 8, .inl o_settledOf))]) := by
  refine bs_ofI (cc := cX4_isSettled) (maxL := 2) (by decide) rfl (Nat.le_of_ble_eq_true rfl) ?_
  intro p e s m below meth c A Q hx hb hown hml hts hE H locs hP hD hA hS ls hl hret
  have hK := hE.1
  have hl : lv_has ls 2 [(0, .ref oh), (1, .int p1)] := hl
  have hin4 : ∀ w ∈ u_ws RX4 TX4 13, w ∈ wsX4_isSettled := by decide +kernel
  have k30 := hts (.fieldLink RX4 30 "PromiseScales$Scales" "settledOf" "[I") (by decide +kernel)
  unfold f_X4_isSettled at hf
  refine lv_aload_n hx hb dX4_isSettled_0 rfl (lv_at hl 0 rfl) ?_
  refine va_get (D := (dC, dI)) (ci := 4) (v := .ref oq_settledOf) (C := RX4) (T := TX4) (N := 13) hx hb hts hin4 hown hK hP 0 rfl rfl 12 (by decide) k30 (fun _ h9 => h9) rfl dX4_isSettled_1 ?_
  refine lv_iload_n hx hb dX4_isSettled_4 rfl (lv_at hl 1 rfl) ?_
  obtain ⟨g1, hf⟩ := bs_g hf
  refine va_iald hx hb hK hP 7 0 rfl rfl (bs_inV g1) dX4_isSettled_5 ?_
  refine lv_if_eq (tgt := 13) hx hb dX4_isSettled_6 (by decide) (fun c2 => ?_) (fun c2 => ?_)
  · have hf := bs_t hf c2
    refine lv_iconst (v := 0) hx hb dX4_isSettled_13 (by decide) ?_
    obtain rfl := Option.some.inj hf
    exact hret H locs _ _ hP hS bs_n0 dX4_isSettled_14
  · have hf := bs_f hf c2
    refine lv_iconst (v := 1) hx hb dX4_isSettled_9 (by decide) ?_
    refine lv_goto (tgt := 14) hx hb dX4_isSettled_10 (by decide) ?_
    obtain rfl := Option.some.inj hf
    exact hret H locs _ _ hP hS bs_n1 dX4_isSettled_14
set_option maxHeartbeats 4000000 in
set_option maxRecDepth 100000 in
theorem k_X4_plainWeight (l : Launch) (dC : Nat → ClassId) (dI : Nat → Nat → Nat) (cI cZ cS cG : ClassId) (oh : Nat) (oq_keeping : Nat) (oq_giverOf : Nat) (oq_deedOf : Nat) (oq_dayOf : Nat) (oq_likelyOf : Nat) (oq_kindOf : Nat) (oq_settledOf : Nat) (o_told : Int32) (o_wax : Int32) (o_stick : Int32) (o_givers : Int32) (o_promises : Int32) (o_pan : Int32) (o_keeping : Nat → Int32) (o_giverOf : Nat → Int32) (o_deedOf : Nat → Int32) (o_dayOf : Nat → Int32) (o_likelyOf : Nat → Int32) (o_kindOf : Nat → Int32) (o_settledOf : Nat → Int32) (p1 : Int32) (p2 : Int32) (out : Int32) (hf : f_X4_plainWeight o_likelyOf p1 p2 = some out) : bs_C l dC dI cI cZ cS cG yX4_plainWeight wsX4_plainWeight ({ frames := 0, cells := 0, slots := 0, locals := 0 } : Room) [.ref oh, .int p1, .int p2] ([(oh, .inr (4, [.int o_told, .int o_wax, .int o_stick, .int o_givers, .int o_promises, .int o_pan, .ref oq_keeping, .ref oq_giverOf, .ref oq_deedOf, .ref oq_dayOf, .ref oq_likelyOf, .ref oq_kindOf, .ref oq_settledOf])), (oq_keeping, .inl (cI, 4, .inl o_keeping)), (oq_giverOf, .inl (cI, 8, .inl o_giverOf)), (oq_deedOf, .inl (cI, 8, .inl o_deedOf)), (oq_dayOf, .inl (cI, 8, .inl o_dayOf)), (oq_likelyOf, .inl (cI, 8, .inl o_likelyOf)), (oq_kindOf, .inl (cI, 8, .inl o_kindOf)), (oq_settledOf, .inl (cI, 8, .inl o_settledOf))]) out ([(oh, .inr (4, [.int o_told, .int o_wax, .int o_stick, .int o_givers, .int o_promises, .int o_pan, .ref oq_keeping, .ref oq_giverOf, .ref oq_deedOf, .ref oq_dayOf, .ref oq_likelyOf, .ref oq_kindOf, .ref oq_settledOf])), (oq_keeping, .inl (cI, 4, .inl o_keeping)), (oq_giverOf, .inl (cI, 8, .inl o_giverOf)), (oq_deedOf, .inl (cI, 8, .inl o_deedOf)), (oq_dayOf, .inl (cI, 8, .inl o_dayOf)), (oq_likelyOf, .inl (cI, 8, .inl o_likelyOf)), (oq_kindOf, .inl (cI, 8, .inl o_kindOf)), (oq_settledOf, .inl (cI, 8, .inl o_settledOf))]) := by
  refine bs_ofI (cc := cX4_plainWeight) (maxL := 3) (by decide) rfl (Nat.le_of_ble_eq_true rfl) ?_
  intro p e s m below meth c A Q hx hb hown hml hts hE H locs hP hD hA hS ls hl hret
  have hK := hE.1
  have hl : lv_has ls 3 [(0, .ref oh), (1, .int p1), (2, .int p2)] := hl
  have hin4 : ∀ w ∈ u_ws RX4 TX4 13, w ∈ wsX4_plainWeight := by decide +kernel
  have k24 := hts (.fieldLink RX4 24 "PromiseScales$Scales" "likelyOf" "[I") (by decide +kernel)
  unfold f_X4_plainWeight at hf
  refine lv_aload_n hx hb dX4_plainWeight_0 rfl (lv_at hl 0 rfl) ?_
  refine va_get (D := (dC, dI)) (ci := 4) (v := .ref oq_likelyOf) (C := RX4) (T := TX4) (N := 13) hx hb hts hin4 hown hK hP 0 rfl rfl 10 (by decide) k24 (fun _ h9 => h9) rfl dX4_plainWeight_1 ?_
  refine lv_iload_n hx hb dX4_plainWeight_4 rfl (lv_at hl 1 rfl) ?_
  obtain ⟨g1, hf⟩ := bs_g hf
  refine va_iald hx hb hK hP 5 0 rfl rfl (bs_inV g1) dX4_plainWeight_5 ?_
  refine lv_iload_n hx hb dX4_plainWeight_6 rfl (lv_at hl 2 rfl) ?_
  refine lv_imul hx hb dX4_plainWeight_7 ?_
  refine lv_bipush (v := 10) hx hb dX4_plainWeight_8 (by decide) ?_
  refine lv_idiv hx hb dX4_plainWeight_10 (by decide) ?_
  obtain rfl := Option.some.inj hf
  exact hret H locs _ _ hP hS rfl dX4_plainWeight_11
set_option maxHeartbeats 4000000 in
set_option maxRecDepth 100000 in
theorem k_X4_weightIf (l : Launch) (dC : Nat → ClassId) (dI : Nat → Nat → Nat) (cI cZ cS cG : ClassId) (oh : Nat) (oq_keeping : Nat) (oq_giverOf : Nat) (oq_deedOf : Nat) (oq_dayOf : Nat) (oq_likelyOf : Nat) (oq_kindOf : Nat) (oq_settledOf : Nat) (o_told : Int32) (o_wax : Int32) (o_stick : Int32) (o_givers : Int32) (o_promises : Int32) (o_pan : Int32) (o_keeping : Nat → Int32) (o_giverOf : Nat → Int32) (o_deedOf : Nat → Int32) (o_dayOf : Nat → Int32) (o_likelyOf : Nat → Int32) (o_kindOf : Nat → Int32) (o_settledOf : Nat → Int32) (p1 : Int32) (p2 : Int32) (p3 : Int32) (out : Int32) (hf : f_X4_weightIf o_keeping o_giverOf o_likelyOf p1 p2 p3 = some out) : bs_C l dC dI cI cZ cS cG yX4_weightIf wsX4_weightIf ({ frames := 1, cells := 0, slots := 0, locals := 22 } : Room) [.ref oh, .int p1, .int p2, .int p3] ([(oh, .inr (4, [.int o_told, .int o_wax, .int o_stick, .int o_givers, .int o_promises, .int o_pan, .ref oq_keeping, .ref oq_giverOf, .ref oq_deedOf, .ref oq_dayOf, .ref oq_likelyOf, .ref oq_kindOf, .ref oq_settledOf])), (oq_keeping, .inl (cI, 4, .inl o_keeping)), (oq_giverOf, .inl (cI, 8, .inl o_giverOf)), (oq_deedOf, .inl (cI, 8, .inl o_deedOf)), (oq_dayOf, .inl (cI, 8, .inl o_dayOf)), (oq_likelyOf, .inl (cI, 8, .inl o_likelyOf)), (oq_kindOf, .inl (cI, 8, .inl o_kindOf)), (oq_settledOf, .inl (cI, 8, .inl o_settledOf))]) out ([(oh, .inr (4, [.int o_told, .int o_wax, .int o_stick, .int o_givers, .int o_promises, .int o_pan, .ref oq_keeping, .ref oq_giverOf, .ref oq_deedOf, .ref oq_dayOf, .ref oq_likelyOf, .ref oq_kindOf, .ref oq_settledOf])), (oq_keeping, .inl (cI, 4, .inl o_keeping)), (oq_giverOf, .inl (cI, 8, .inl o_giverOf)), (oq_deedOf, .inl (cI, 8, .inl o_deedOf)), (oq_dayOf, .inl (cI, 8, .inl o_dayOf)), (oq_likelyOf, .inl (cI, 8, .inl o_likelyOf)), (oq_kindOf, .inl (cI, 8, .inl o_kindOf)), (oq_settledOf, .inl (cI, 8, .inl o_settledOf))]) := by
  refine bs_ofI (cc := cX4_weightIf) (maxL := 5) (by decide) rfl (Nat.le_of_ble_eq_true rfl) ?_
  intro p e s m below meth c A Q hx hb hown hml hts hE H locs hP hD hA hS ls hl hret
  have hK := hE.1
  have hl : lv_has ls 5 [(0, .ref oh), (1, .int p1), (2, .int p2), (3, .int p3)] := hl
  have hin4 : ∀ w ∈ u_ws RX4 TX4 13, w ∈ wsX4_weightIf := by decide +kernel
  have k9 := hts (.fieldLink RX4 9 "PromiseScales$Scales" "keeping" "[I") (by decide +kernel)
  have k15 := hts (.fieldLink RX4 15 "PromiseScales$Scales" "giverOf" "[I") (by decide +kernel)
  unfold f_X4_weightIf at hf
  refine lv_aload_n hx hb dX4_weightIf_0 rfl (lv_at hl 0 rfl) ?_
  refine lv_iload_n hx hb dX4_weightIf_1 rfl (lv_at hl 1 rfl) ?_
  refine lv_aload_n hx hb dX4_weightIf_2 rfl (lv_at hl 0 rfl) ?_
  refine va_get (D := (dC, dI)) (ci := 4) (v := .ref oq_keeping) (C := RX4) (T := TX4) (N := 13) hx hb hts hin4 hown hK hP 0 rfl rfl 6 (by decide) k9 (fun _ h9 => h9) rfl dX4_weightIf_3 ?_
  refine lv_aload_n hx hb dX4_weightIf_6 rfl (lv_at hl 0 rfl) ?_
  refine va_get (D := (dC, dI)) (ci := 4) (v := .ref oq_giverOf) (C := RX4) (T := TX4) (N := 13) hx hb hts hin4 hown hK hP 0 rfl rfl 7 (by decide) k15 (fun _ h9 => h9) rfl dX4_weightIf_7 ?_
  refine lv_iload_n hx hb dX4_weightIf_10 rfl (lv_at hl 1 rfl) ?_
  obtain ⟨g1, hf⟩ := bs_g hf
  refine va_iald hx hb hK hP 2 0 rfl rfl (bs_inV g1) dX4_weightIf_11 ?_
  obtain ⟨g2, hf⟩ := bs_g hf
  refine va_iald hx hb hK hP 1 0 rfl rfl (bs_inV g2) dX4_weightIf_12 ?_
  obtain ⟨z3, hz3, hf⟩ := bs_b hf
  refine bs_cViR ⟨hx, hb, hml, hown, hts⟩ (k_X4_plainWeight l dC dI cI cZ cS cG oh oq_keeping oq_giverOf oq_deedOf oq_dayOf oq_likelyOf oq_kindOf oq_settledOf o_told o_wax o_stick o_givers o_promises o_pan o_keeping o_giverOf o_deedOf o_dayOf o_likelyOf o_kindOf o_settledOf p1 (o_keeping (o_giverOf p1.toNatClampNeg).toNatClampNeg) z3 hz3) (cwV 2 hts gX4_weightIf_X4_plainWeight rfl rfl rfl (by decide +kernel) ⟨Nat.le_of_ble_eq_true rfl, Nat.le_of_ble_eq_true rfl⟩) hE hP hD hA hS [0, 1, 2, 3, 4, 5, 6, 7] rfl rfl 4 0 rfl rfl rfl rfl hl.1 (Nat.le_of_ble_eq_true rfl) dX4_weightIf_13 (fun H locs hP hS => ?_)
  refine lv_istore (lv' := [(4, .int z3), (0, .ref oh), (1, .int p1), (2, .int p2), (3, .int p3)]) hx hb dX4_weightIf_16 hl (by decide) rfl (fun ls hl => ?_)
  refine lv_iload_n hx hb dX4_weightIf_18 rfl (lv_at hl 3 rfl) ?_
  by_cases c4 : p2 = 2
  · have hf := bs_t hf c4
    refine lv_tableIn (tgt := 48) hx hb dX4_weightIf_19 (by rw [c4]; decide) (by rw [c4]; decide) (by rw [c4]; rfl) (by decide) ?_
    refine lv_iload_n hx hb dX4_weightIf_48 rfl (lv_at hl 2 rfl) ?_
    refine lv_if_ne (tgt := 57) hx hb dX4_weightIf_49 (by decide) (fun c5 => ?_) (fun c5 => ?_)
    · have hf := bs_f hf c5
      refine lv_iload hx hb dX4_weightIf_57 (lv_at hl 0 rfl) ?_
      refine lv_iload_n hx hb dX4_weightIf_59 rfl (lv_at hl 4 rfl) ?_
      refine lv_imul hx hb dX4_weightIf_60 ?_
      refine lv_bipush (v := 20) hx hb dX4_weightIf_61 (by decide) ?_
      refine lv_idiv hx hb dX4_weightIf_63 (by decide) ?_
      obtain rfl := Option.some.inj hf
      exact hret H locs _ _ hP hS rfl dX4_weightIf_64
    · have hf := bs_t hf c5
      refine lv_iload hx hb dX4_weightIf_52 (lv_at hl 0 rfl) ?_
      refine lv_goto (tgt := 64) hx hb dX4_weightIf_54 (by decide) ?_
      obtain rfl := Option.some.inj hf
      exact hret H locs _ _ hP hS rfl dX4_weightIf_64
  · have hf := bs_f hf c4
    by_cases c6 : p2 = 3
    · have hf := bs_t hf c6
      refine lv_tableIn (tgt := 65) hx hb dX4_weightIf_19 (by rw [c6]; decide) (by rw [c6]; decide) (by rw [c6]; rfl) (by decide) ?_
      refine lv_iload hx hb dX4_weightIf_65 (lv_at hl 0 rfl) ?_
      refine lv_iconst (v := 1) hx hb dX4_weightIf_67 (by decide) ?_
      refine lv_iadd hx hb dX4_weightIf_68 ?_
      refine lv_iconst (v := 2) hx hb dX4_weightIf_69 (by decide) ?_
      refine lv_idiv hx hb dX4_weightIf_70 (by decide) ?_
      obtain rfl := Option.some.inj hf
      exact hret H locs _ _ hP hS rfl dX4_weightIf_71
    · have hf := bs_f hf c6
      by_cases c7 : p2 = 4
      · have hf := bs_t hf c7
        refine lv_tableIn (tgt := 72) hx hb dX4_weightIf_19 (by rw [c7]; decide) (by rw [c7]; decide) (by rw [c7]; rfl) (by decide) ?_
        refine lv_bipush (v := 20) hx hb dX4_weightIf_72 (by decide) ?_
        refine lv_iconst (v := 2) hx hb dX4_weightIf_74 (by decide) ?_
        refine lv_iload hx hb dX4_weightIf_75 (lv_at hl 0 rfl) ?_
        refine lv_imul hx hb dX4_weightIf_77 ?_
        refine va_mmin hx hb (hml.trans hl.1.symm) hown (hts (.methodLink RX4 53 Lib.Math.min.name) (by decide +kernel)) (hts (.static Lib.Math.min.name) (by decide +kernel)) (hts (.initialized "java/lang/Math") (by decide +kernel)) (hts (.code Lib.Math.min.name Lib.Math.min.code 2 (some .int)) (by decide +kernel)) (Nat.le_of_ble_eq_true rfl) (Nat.le_of_ble_eq_true rfl) (Nat.zero_le _) (Nat.zero_le _) dX4_weightIf_78 ?_
        obtain rfl := Option.some.inj hf
        exact hret H locs _ _ hP hS rfl dX4_weightIf_81
      · have hf := bs_f hf c7
        by_cases c8 : p2 = 5
        · have hf := bs_t hf c8
          refine lv_tableIn (tgt := 82) hx hb dX4_weightIf_19 (by rw [c8]; decide) (by rw [c8]; decide) (by rw [c8]; rfl) (by decide) ?_
          refine lv_iload_n hx hb dX4_weightIf_82 rfl (lv_at hl 2 rfl) ?_
          refine lv_if_ne (tgt := 91) hx hb dX4_weightIf_83 (by decide) (fun c9 => ?_) (fun c9 => ?_)
          · have hf := bs_f hf c9
            refine lv_bipush (v := 20) hx hb dX4_weightIf_91 (by decide) ?_
            refine lv_iload_n hx hb dX4_weightIf_93 rfl (lv_at hl 4 rfl) ?_
            refine lv_isub hx hb dX4_weightIf_94 ?_
            obtain rfl := Option.some.inj hf
            exact hret H locs _ _ hP hS rfl dX4_weightIf_95
          · have hf := bs_t hf c9
            refine lv_bipush (v := 20) hx hb dX4_weightIf_86 (by decide) ?_
            refine lv_goto (tgt := 95) hx hb dX4_weightIf_88 (by decide) ?_
            obtain rfl := Option.some.inj hf
            exact hret H locs _ _ hP hS rfl dX4_weightIf_95
        · have hf := bs_f hf c8
          refine lv_tableOut (tgt := 96) hx hb dX4_weightIf_19 (bs_sw (fun v h1 h2 => ?_)) (by decide) ?_
          · rcases (by omega : v = 2 ∨ v = 3 ∨ v = 4 ∨ v = 5) with rfl | rfl | rfl | rfl
            · exact bs_ne 2 (by decide) c4
            · exact bs_ne 3 (by decide) c6
            · exact bs_ne 4 (by decide) c7
            · exact bs_ne 5 (by decide) c8
          · refine lv_iload hx hb dX4_weightIf_96 (lv_at hl 0 rfl) ?_
            obtain rfl := Option.some.inj hf
            exact hret H locs _ _ hP hS rfl dX4_weightIf_98
set_option maxHeartbeats 4000000 in
set_option maxRecDepth 100000 in
theorem k_X4_weightAfter (l : Launch) (dC : Nat → ClassId) (dI : Nat → Nat → Nat) (cI cZ cS cG : ClassId) (oh : Nat) (oq_keeping : Nat) (oq_giverOf : Nat) (oq_deedOf : Nat) (oq_dayOf : Nat) (oq_likelyOf : Nat) (oq_kindOf : Nat) (oq_settledOf : Nat) (o_told : Int32) (o_wax : Int32) (o_stick : Int32) (o_givers : Int32) (o_promises : Int32) (o_pan : Int32) (o_keeping : Nat → Int32) (o_giverOf : Nat → Int32) (o_deedOf : Nat → Int32) (o_dayOf : Nat → Int32) (o_likelyOf : Nat → Int32) (o_kindOf : Nat → Int32) (o_settledOf : Nat → Int32) (p1 : Int32) (p2 : Int32) (out : Int32) (hf : f_X4_weightAfter o_keeping o_giverOf o_likelyOf o_kindOf o_settledOf p1 p2 = some out) : bs_C l dC dI cI cZ cS cG yX4_weightAfter wsX4_weightAfter ({ frames := 2, cells := 0, slots := 0, locals := 46 } : Room) [.ref oh, .int p1, .int p2] ([(oh, .inr (4, [.int o_told, .int o_wax, .int o_stick, .int o_givers, .int o_promises, .int o_pan, .ref oq_keeping, .ref oq_giverOf, .ref oq_deedOf, .ref oq_dayOf, .ref oq_likelyOf, .ref oq_kindOf, .ref oq_settledOf])), (oq_keeping, .inl (cI, 4, .inl o_keeping)), (oq_giverOf, .inl (cI, 8, .inl o_giverOf)), (oq_deedOf, .inl (cI, 8, .inl o_deedOf)), (oq_dayOf, .inl (cI, 8, .inl o_dayOf)), (oq_likelyOf, .inl (cI, 8, .inl o_likelyOf)), (oq_kindOf, .inl (cI, 8, .inl o_kindOf)), (oq_settledOf, .inl (cI, 8, .inl o_settledOf))]) out ([(oh, .inr (4, [.int o_told, .int o_wax, .int o_stick, .int o_givers, .int o_promises, .int o_pan, .ref oq_keeping, .ref oq_giverOf, .ref oq_deedOf, .ref oq_dayOf, .ref oq_likelyOf, .ref oq_kindOf, .ref oq_settledOf])), (oq_keeping, .inl (cI, 4, .inl o_keeping)), (oq_giverOf, .inl (cI, 8, .inl o_giverOf)), (oq_deedOf, .inl (cI, 8, .inl o_deedOf)), (oq_dayOf, .inl (cI, 8, .inl o_dayOf)), (oq_likelyOf, .inl (cI, 8, .inl o_likelyOf)), (oq_kindOf, .inl (cI, 8, .inl o_kindOf)), (oq_settledOf, .inl (cI, 8, .inl o_settledOf))]) := by
  refine bs_ofI (cc := cX4_weightAfter) (maxL := 3) (by decide) rfl (Nat.le_of_ble_eq_true rfl) ?_
  intro p e s m below meth c A Q hx hb hown hml hts hE H locs hP hD hA hS ls hl hret
  have hK := hE.1
  have hl : lv_has ls 3 [(0, .ref oh), (1, .int p1), (2, .int p2)] := hl
  have hin4 : ∀ w ∈ u_ws RX4 TX4 13, w ∈ wsX4_weightAfter := by decide +kernel
  have k27 := hts (.fieldLink RX4 27 "PromiseScales$Scales" "kindOf" "[I") (by decide +kernel)
  have k30 := hts (.fieldLink RX4 30 "PromiseScales$Scales" "settledOf" "[I") (by decide +kernel)
  unfold f_X4_weightAfter at hf
  refine lv_aload_n hx hb dX4_weightAfter_0 rfl (lv_at hl 0 rfl) ?_
  refine lv_iload_n hx hb dX4_weightAfter_1 rfl (lv_at hl 1 rfl) ?_
  obtain ⟨z1, hz1, hf⟩ := bs_b hf
  refine bs_cViR ⟨hx, hb, hml, hown, hts⟩ (k_X4_isSettled l dC dI cI cZ cS cG oh oq_keeping oq_giverOf oq_deedOf oq_dayOf oq_likelyOf oq_kindOf oq_settledOf o_told o_wax o_stick o_givers o_promises o_pan o_keeping o_giverOf o_deedOf o_dayOf o_likelyOf o_kindOf o_settledOf p1 z1 hz1) (cwV 1 hts gX4_weightAfter_X4_isSettled rfl rfl rfl (by decide +kernel) ⟨Nat.le_of_ble_eq_true rfl, Nat.le_of_ble_eq_true rfl⟩) hE hP hD hA hS [0, 1, 2, 3, 4, 5, 6, 7] rfl rfl 4 0 rfl rfl rfl rfl hl.1 (Nat.le_of_ble_eq_true rfl) dX4_weightAfter_2 (fun H locs hP hS => ?_)
  refine lv_if_eq (tgt := 25) hx hb dX4_weightAfter_5 (by decide) (fun c2 => ?_) (fun c2 => ?_)
  · have hf := bs_t hf c2
    refine lv_aload_n hx hb dX4_weightAfter_25 rfl (lv_at hl 0 rfl) ?_
    refine lv_iload_n hx hb dX4_weightAfter_26 rfl (lv_at hl 1 rfl) ?_
    refine lv_aload_n hx hb dX4_weightAfter_27 rfl (lv_at hl 0 rfl) ?_
    refine va_get (D := (dC, dI)) (ci := 4) (v := .ref oq_kindOf) (C := RX4) (T := TX4) (N := 13) hx hb hts hin4 hown hK hP 0 rfl rfl 11 (by decide) k27 (fun _ h9 => h9) rfl dX4_weightAfter_28 ?_
    refine lv_iload_n hx hb dX4_weightAfter_31 rfl (lv_at hl 1 rfl) ?_
    obtain ⟨g3, hf⟩ := bs_g hf
    refine va_iald hx hb hK hP 6 0 rfl rfl (bs_inV g3) dX4_weightAfter_32 ?_
    refine lv_iload_n hx hb dX4_weightAfter_33 rfl (lv_at hl 2 rfl) ?_
    obtain ⟨z4, hz4, hf⟩ := bs_b hf
    refine bs_cViR ⟨hx, hb, hml, hown, hts⟩ (k_X4_weightIf l dC dI cI cZ cS cG oh oq_keeping oq_giverOf oq_deedOf oq_dayOf oq_likelyOf oq_kindOf oq_settledOf o_told o_wax o_stick o_givers o_promises o_pan o_keeping o_giverOf o_deedOf o_dayOf o_likelyOf o_kindOf o_settledOf p1 (o_kindOf p1.toNatClampNeg) p2 z4 hz4) (cwV 3 hts gX4_weightAfter_X4_weightIf rfl rfl rfl (by decide +kernel) ⟨Nat.le_of_ble_eq_true rfl, Nat.le_of_ble_eq_true rfl⟩) hE hP hD hA hS [0, 1, 2, 3, 4, 5, 6, 7] rfl rfl 4 0 rfl rfl rfl rfl hl.1 (Nat.le_of_ble_eq_true rfl) dX4_weightAfter_34 (fun H locs hP hS => ?_)
    obtain rfl := Option.some.inj hf
    exact hret H locs _ _ hP hS rfl dX4_weightAfter_37
  · have hf := bs_f hf c2
    refine lv_aload_n hx hb dX4_weightAfter_8 rfl (lv_at hl 0 rfl) ?_
    refine va_get (D := (dC, dI)) (ci := 4) (v := .ref oq_settledOf) (C := RX4) (T := TX4) (N := 13) hx hb hts hin4 hown hK hP 0 rfl rfl 12 (by decide) k30 (fun _ h9 => h9) rfl dX4_weightAfter_9 ?_
    refine lv_iload_n hx hb dX4_weightAfter_12 rfl (lv_at hl 1 rfl) ?_
    obtain ⟨g5, hf⟩ := bs_g hf
    refine va_iald hx hb hK hP 7 0 rfl rfl (bs_inV g5) dX4_weightAfter_13 ?_
    refine lv_iconst (v := 1) hx hb dX4_weightAfter_14 (by decide) ?_
    refine lv_icmp_ne (tgt := 23) hx hb dX4_weightAfter_15 (by decide) (fun c6 => ?_) (fun c6 => ?_)
    · have hf := bs_f hf c6
      refine lv_iconst (v := 0) hx hb dX4_weightAfter_23 (by decide) ?_
      obtain rfl := Option.some.inj hf
      exact hret H locs _ _ hP hS rfl dX4_weightAfter_24
    · have hf := bs_t hf c6
      refine lv_bipush (v := 20) hx hb dX4_weightAfter_18 (by decide) ?_
      refine lv_goto (tgt := 24) hx hb dX4_weightAfter_20 (by decide) ?_
      obtain rfl := Option.some.inj hf
      exact hret H locs _ _ hP hS rfl dX4_weightAfter_24
set_option maxHeartbeats 4000000 in
set_option maxRecDepth 100000 in
theorem k_X4_weightOf (l : Launch) (dC : Nat → ClassId) (dI : Nat → Nat → Nat) (cI cZ cS cG : ClassId) (oh : Nat) (oq_keeping : Nat) (oq_giverOf : Nat) (oq_deedOf : Nat) (oq_dayOf : Nat) (oq_likelyOf : Nat) (oq_kindOf : Nat) (oq_settledOf : Nat) (o_told : Int32) (o_wax : Int32) (o_stick : Int32) (o_givers : Int32) (o_promises : Int32) (o_pan : Int32) (o_keeping : Nat → Int32) (o_giverOf : Nat → Int32) (o_deedOf : Nat → Int32) (o_dayOf : Nat → Int32) (o_likelyOf : Nat → Int32) (o_kindOf : Nat → Int32) (o_settledOf : Nat → Int32) (p1 : Int32) (out : Int32) (hf : f_X4_weightOf o_keeping o_giverOf o_likelyOf o_kindOf o_settledOf p1 = some out) : bs_C l dC dI cI cZ cS cG yX4_weightOf wsX4_weightOf ({ frames := 3, cells := 0, slots := 0, locals := 68 } : Room) [.ref oh, .int p1] ([(oh, .inr (4, [.int o_told, .int o_wax, .int o_stick, .int o_givers, .int o_promises, .int o_pan, .ref oq_keeping, .ref oq_giverOf, .ref oq_deedOf, .ref oq_dayOf, .ref oq_likelyOf, .ref oq_kindOf, .ref oq_settledOf])), (oq_keeping, .inl (cI, 4, .inl o_keeping)), (oq_giverOf, .inl (cI, 8, .inl o_giverOf)), (oq_deedOf, .inl (cI, 8, .inl o_deedOf)), (oq_dayOf, .inl (cI, 8, .inl o_dayOf)), (oq_likelyOf, .inl (cI, 8, .inl o_likelyOf)), (oq_kindOf, .inl (cI, 8, .inl o_kindOf)), (oq_settledOf, .inl (cI, 8, .inl o_settledOf))]) out ([(oh, .inr (4, [.int o_told, .int o_wax, .int o_stick, .int o_givers, .int o_promises, .int o_pan, .ref oq_keeping, .ref oq_giverOf, .ref oq_deedOf, .ref oq_dayOf, .ref oq_likelyOf, .ref oq_kindOf, .ref oq_settledOf])), (oq_keeping, .inl (cI, 4, .inl o_keeping)), (oq_giverOf, .inl (cI, 8, .inl o_giverOf)), (oq_deedOf, .inl (cI, 8, .inl o_deedOf)), (oq_dayOf, .inl (cI, 8, .inl o_dayOf)), (oq_likelyOf, .inl (cI, 8, .inl o_likelyOf)), (oq_kindOf, .inl (cI, 8, .inl o_kindOf)), (oq_settledOf, .inl (cI, 8, .inl o_settledOf))]) := by
  refine bs_ofI (cc := cX4_weightOf) (maxL := 4) (by decide) rfl (Nat.le_of_ble_eq_true rfl) ?_
  intro p e s m below meth c A Q hx hb hown hml hts hE H locs hP hD hA hS ls hl hret
  have hK := hE.1
  have hl : lv_has ls 4 [(0, .ref oh), (1, .int p1)] := hl
  unfold f_X4_weightOf at hf
  refine lv_iconst (v := 0) hx hb dX4_weightOf_0 (by decide) ?_
  refine lv_istore_n (lv' := [(2, .int 0), (0, .ref oh), (1, .int p1)]) hx hb dX4_weightOf_1 rfl hl (by decide) rfl (fun ls hl => ?_)
  refine lv_iconst (v := 0) hx hb dX4_weightOf_2 (by decide) ?_
  refine lv_istore_n (lv' := [(3, .int 0), (2, .int 0), (0, .ref oh), (1, .int p1)]) hx hb dX4_weightOf_3 rfl hl (by decide) rfl (fun ls hl => ?_)
  have L_4 : ∀ (fuel : Nat) (x2_4 : Int32) (x3_4 : Int32) (H : Heap) (locs : List Loc) (ls : Array Slot), va_P (dC, dI) vwCl ([(oh, .inr (4, [.int o_told, .int o_wax, .int o_stick, .int o_givers, .int o_promises, .int o_pan, .ref oq_keeping, .ref oq_giverOf, .ref oq_deedOf, .ref oq_dayOf, .ref oq_likelyOf, .ref oq_kindOf, .ref oq_settledOf])), (oq_keeping, .inl (cI, 4, .inl o_keeping)), (oq_giverOf, .inl (cI, 8, .inl o_giverOf)), (oq_deedOf, .inl (cI, 8, .inl o_deedOf)), (oq_dayOf, .inl (cI, 8, .inl o_dayOf)), (oq_likelyOf, .inl (cI, 8, .inl o_likelyOf)), (oq_kindOf, .inl (cI, 8, .inl o_kindOf)), (oq_settledOf, .inl (cI, 8, .inl o_settledOf))]) H → va_D A ([(oh, .inr (4, [.int o_told, .int o_wax, .int o_stick, .int o_givers, .int o_promises, .int o_pan, .ref oq_keeping, .ref oq_giverOf, .ref oq_deedOf, .ref oq_dayOf, .ref oq_likelyOf, .ref oq_kindOf, .ref oq_settledOf])), (oq_keeping, .inl (cI, 4, .inl o_keeping)), (oq_giverOf, .inl (cI, 8, .inl o_giverOf)), (oq_deedOf, .inl (cI, 8, .inl o_deedOf)), (oq_dayOf, .inl (cI, 8, .inl o_dayOf)), (oq_likelyOf, .inl (cI, 8, .inl o_likelyOf)), (oq_kindOf, .inl (cI, 8, .inl o_kindOf)), (oq_settledOf, .inl (cI, 8, .inl o_settledOf))]) → va_S A s.heap H locs → lv_has ls 4 [(0, .ref oh), (1, .int p1), (2, .int x2_4), (3, .int x3_4)] → f_X4_weightOf_L4 o_keeping o_giverOf o_likelyOf o_kindOf o_settledOf p1 fuel x2_4 x3_4 = some out → W p l e ({ frames := 3, cells := 0, slots := 0, locals := 68 } : Room) s m ([.ref oh, .int p1] : List Value).toArray below meth c H locs 0 0 Q (F0 m 4 ls []) := by
    intro fuel
    induction fuel with
    | zero =>
      intro x2_4 x3_4 H locs ls hP hD hS hl hf
      cases (show (none : Option (Int32)) = some out from hf)
    | succ n_4 ih_4 =>
      intro x2_4 x3_4 H locs ls hP hD hS hl hf
      have hf := (f_X4_weightOf_L4_s o_keeping o_giverOf o_likelyOf o_kindOf o_settledOf p1 n_4 x2_4 x3_4).symm.trans hf
      refine lv_iload_n hx hb dX4_weightOf_4 rfl (lv_at hl 3 rfl) ?_
      refine lv_iload_n hx hb dX4_weightOf_5 rfl (lv_at hl 1 rfl) ?_
      refine lv_icmp_gt (tgt := 22) hx hb dX4_weightOf_6 (by decide) (fun c1 => ?_) (fun c1 => ?_)
      · have hf := bs_t hf c1
        refine lv_iload_n hx hb dX4_weightOf_22 rfl (lv_at hl 2 rfl) ?_
        obtain rfl := Option.some.inj hf
        exact hret H locs _ _ hP hS rfl dX4_weightOf_23
      · have hf := bs_f hf c1
        refine lv_aload_n hx hb dX4_weightOf_9 rfl (lv_at hl 0 rfl) ?_
        refine lv_iload_n hx hb dX4_weightOf_10 rfl (lv_at hl 3 rfl) ?_
        refine lv_iload_n hx hb dX4_weightOf_11 rfl (lv_at hl 2 rfl) ?_
        obtain ⟨z2, hz2, hf⟩ := bs_b hf
        refine bs_cViR ⟨hx, hb, hml, hown, hts⟩ (k_X4_weightAfter l dC dI cI cZ cS cG oh oq_keeping oq_giverOf oq_deedOf oq_dayOf oq_likelyOf oq_kindOf oq_settledOf o_told o_wax o_stick o_givers o_promises o_pan o_keeping o_giverOf o_deedOf o_dayOf o_likelyOf o_kindOf o_settledOf x3_4 x2_4 z2 hz2) (cwV 2 hts gX4_weightOf_X4_weightAfter rfl rfl rfl (by decide +kernel) ⟨Nat.le_of_ble_eq_true rfl, Nat.le_of_ble_eq_true rfl⟩) hE hP hD hA hS [0, 1, 2, 3, 4, 5, 6, 7] rfl rfl 4 0 rfl rfl rfl rfl hl.1 (Nat.le_of_ble_eq_true rfl) dX4_weightOf_12 (fun H locs hP hS => ?_)
        refine lv_istore_n (lv' := [(2, .int z2), (0, .ref oh), (1, .int p1), (3, .int x3_4)]) hx hb dX4_weightOf_15 rfl hl (by decide) rfl (fun ls hl => ?_)
        refine lv_iinc (v := x3_4 + 1) (lv' := [(3, .int (x3_4 + 1)), (2, .int z2), (0, .ref oh), (1, .int p1)]) hx hb dX4_weightOf_16 hl (k := 3) rfl rfl (by decide) rfl (fun ls hl => ?_)
        refine lv_goto (tgt := 4) hx hb dX4_weightOf_19 (by decide) ?_
        exact ih_4 z2 (x3_4 + 1) H locs ls hP hD hS (lv_sub hl [2, 3, 1, 0] rfl) hf
  exact L_4 bs_F (0 : Int32) (0 : Int32) H locs ls hP hD hS (lv_sub hl [2, 3, 1, 0] rfl) hf
set_option maxHeartbeats 4000000 in
set_option maxRecDepth 100000 in
theorem k_X1_turnTo (l : Launch) (dC : Nat → ClassId) (dI : Nat → Nat → Nat) (cI cZ cS cG : ClassId) (oh : Nat) (oq_bodies : Nat) (bh : Nat) (bq_keeping : Nat) (bq_giverOf : Nat) (bq_deedOf : Nat) (bq_dayOf : Nat) (bq_likelyOf : Nat) (bq_kindOf : Nat) (bq_settledOf : Nat) (o_bodies : Nat → Int32) (o_begun : Int32) (o_kind : Int32) (o_number : Int32) (o_likely : Int32) (o_weight : Int32) (b_told : Int32) (b_wax : Int32) (b_stick : Int32) (b_givers : Int32) (b_promises : Int32) (b_pan : Int32) (b_keeping : Nat → Int32) (b_giverOf : Nat → Int32) (b_deedOf : Nat → Int32) (b_dayOf : Nat → Int32) (b_likelyOf : Nat → Int32) (b_kindOf : Nat → Int32) (b_settledOf : Nat → Int32) (p2 : Int32) (out : Int32 × Int32 × Int32 × Int32 × Int32) (hf : f_X1_turnTo o_begun o_kind o_number o_likely o_weight b_keeping b_giverOf b_likelyOf b_kindOf b_settledOf p2 = some out) : bs_CV l dC dI cI cZ cS cG yX1_turnTo wsX1_turnTo ({ frames := 4, cells := 0, slots := 0, locals := 91 } : Room) [.ref oh, .ref bh, .int p2] ([(oh, .inr (1, [.ref oq_bodies, .int o_begun, .int o_kind, .int o_number, .int o_likely, .int o_weight])), (oq_bodies, .inl (cI, 16, .inl o_bodies)), (bh, .inr (4, [.int b_told, .int b_wax, .int b_stick, .int b_givers, .int b_promises, .int b_pan, .ref bq_keeping, .ref bq_giverOf, .ref bq_deedOf, .ref bq_dayOf, .ref bq_likelyOf, .ref bq_kindOf, .ref bq_settledOf])), (bq_keeping, .inl (cI, 4, .inl b_keeping)), (bq_giverOf, .inl (cI, 8, .inl b_giverOf)), (bq_deedOf, .inl (cI, 8, .inl b_deedOf)), (bq_dayOf, .inl (cI, 8, .inl b_dayOf)), (bq_likelyOf, .inl (cI, 8, .inl b_likelyOf)), (bq_kindOf, .inl (cI, 8, .inl b_kindOf)), (bq_settledOf, .inl (cI, 8, .inl b_settledOf))]) ([(oh, .inr (1, [.ref oq_bodies, .int out.1, .int out.2.1, .int out.2.2.1, .int out.2.2.2.1, .int out.2.2.2.2])), (oq_bodies, .inl (cI, 16, .inl o_bodies)), (bh, .inr (4, [.int b_told, .int b_wax, .int b_stick, .int b_givers, .int b_promises, .int b_pan, .ref bq_keeping, .ref bq_giverOf, .ref bq_deedOf, .ref bq_dayOf, .ref bq_likelyOf, .ref bq_kindOf, .ref bq_settledOf])), (bq_keeping, .inl (cI, 4, .inl b_keeping)), (bq_giverOf, .inl (cI, 8, .inl b_giverOf)), (bq_deedOf, .inl (cI, 8, .inl b_deedOf)), (bq_dayOf, .inl (cI, 8, .inl b_dayOf)), (bq_likelyOf, .inl (cI, 8, .inl b_likelyOf)), (bq_kindOf, .inl (cI, 8, .inl b_kindOf)), (bq_settledOf, .inl (cI, 8, .inl b_settledOf))]) := by
  refine bs_ofV (cc := cX1_turnTo) (maxL := 3) (by decide) rfl (Nat.le_of_ble_eq_true rfl) ?_
  intro p e s m below meth c A Q hx hb hown hml hts hE H locs hP hD hA hS ls hl hret
  have hK := hE.1
  have hl : lv_has ls 3 [(0, .ref oh), (1, .ref bh), (2, .int p2)] := hl
  have hin1 : ∀ w ∈ u_ws RX1 TX1 6, w ∈ wsX1_turnTo := by decide +kernel
  have hin4 : ∀ w ∈ u_ws RX4 TX4 13, w ∈ wsX1_turnTo := by decide +kernel
  have k15 := hts (.fieldLink RX1 15 "PromiseScales$Asks" "begun" "I") (by decide +kernel)
  have k19 := hts (.fieldLink RX1 19 "PromiseScales$Scales" "kindOf" "[I") (by decide +kernel)
  have k24 := hts (.fieldLink RX1 24 "PromiseScales$Asks" "kind" "I") (by decide +kernel)
  have k27 := hts (.fieldLink RX1 27 "PromiseScales$Asks" "number" "I") (by decide +kernel)
  have k30 := hts (.fieldLink RX1 30 "PromiseScales$Scales" "likelyOf" "[I") (by decide +kernel)
  have k33 := hts (.fieldLink RX1 33 "PromiseScales$Asks" "likely" "I") (by decide +kernel)
  have k40 := hts (.fieldLink RX1 40 "PromiseScales$Asks" "weight" "I") (by decide +kernel)
  unfold f_X1_turnTo at hf
  refine lv_aload_n hx hb dX1_turnTo_0 rfl (lv_at hl 0 rfl) ?_
  refine lv_iconst (v := 0) hx hb dX1_turnTo_1 (by decide) ?_
  refine va_put (D := (dC, dI)) (ci := 1) (v := .int 0) (ty := .int) (C := RX1) (T := TX1) (N := 6) hx hb hts hin1 tyX1 tyX1_ok nmX1 hown hK hP hD hS 0 rfl rfl 1 (by decide) k15 (fun _ h9 => h9) rfl (by decide +kernel) rfl rfl (Nat.le_of_ble_eq_true rfl) dX1_turnTo_2 (fun H locs hP hD hS => ?_)
  have hP : va_P (dC, dI) vwCl ([(oh, .inr (1, [.ref oq_bodies, .int 0, .int o_kind, .int o_number, .int o_likely, .int o_weight])), (oq_bodies, .inl (cI, 16, .inl o_bodies)), (bh, .inr (4, [.int b_told, .int b_wax, .int b_stick, .int b_givers, .int b_promises, .int b_pan, .ref bq_keeping, .ref bq_giverOf, .ref bq_deedOf, .ref bq_dayOf, .ref bq_likelyOf, .ref bq_kindOf, .ref bq_settledOf])), (bq_keeping, .inl (cI, 4, .inl b_keeping)), (bq_giverOf, .inl (cI, 8, .inl b_giverOf)), (bq_deedOf, .inl (cI, 8, .inl b_deedOf)), (bq_dayOf, .inl (cI, 8, .inl b_dayOf)), (bq_likelyOf, .inl (cI, 8, .inl b_likelyOf)), (bq_kindOf, .inl (cI, 8, .inl b_kindOf)), (bq_settledOf, .inl (cI, 8, .inl b_settledOf))]) H := hP
  have hD : va_D A ([(oh, .inr (1, [.ref oq_bodies, .int 0, .int o_kind, .int o_number, .int o_likely, .int o_weight])), (oq_bodies, .inl (cI, 16, .inl o_bodies)), (bh, .inr (4, [.int b_told, .int b_wax, .int b_stick, .int b_givers, .int b_promises, .int b_pan, .ref bq_keeping, .ref bq_giverOf, .ref bq_deedOf, .ref bq_dayOf, .ref bq_likelyOf, .ref bq_kindOf, .ref bq_settledOf])), (bq_keeping, .inl (cI, 4, .inl b_keeping)), (bq_giverOf, .inl (cI, 8, .inl b_giverOf)), (bq_deedOf, .inl (cI, 8, .inl b_deedOf)), (bq_dayOf, .inl (cI, 8, .inl b_dayOf)), (bq_likelyOf, .inl (cI, 8, .inl b_likelyOf)), (bq_kindOf, .inl (cI, 8, .inl b_kindOf)), (bq_settledOf, .inl (cI, 8, .inl b_settledOf))]) := hD
  refine lv_aload_n hx hb dX1_turnTo_5 rfl (lv_at hl 0 rfl) ?_
  refine lv_aload_n hx hb dX1_turnTo_6 rfl (lv_at hl 1 rfl) ?_
  refine va_get (D := (dC, dI)) (ci := 4) (v := .ref bq_kindOf) (C := RX4) (T := TX4) (N := 13) hx hb hts hin4 hown hK hP 2 rfl rfl 11 (by decide) k19 (fun _ h9 => h9) rfl dX1_turnTo_7 ?_
  refine lv_iload_n hx hb dX1_turnTo_10 rfl (lv_at hl 2 rfl) ?_
  obtain ⟨g1, hf⟩ := bs_g hf
  refine va_iald hx hb hK hP 8 0 rfl rfl (bs_inV g1) dX1_turnTo_11 ?_
  refine va_put (D := (dC, dI)) (ci := 1) (v := .int (b_kindOf p2.toNatClampNeg)) (ty := .int) (C := RX1) (T := TX1) (N := 6) hx hb hts hin1 tyX1 tyX1_ok nmX1 hown hK hP hD hS 0 rfl rfl 2 (by decide) k24 (fun _ h9 => h9) rfl (by decide +kernel) rfl rfl (Nat.le_of_ble_eq_true rfl) dX1_turnTo_12 (fun H locs hP hD hS => ?_)
  have hP : va_P (dC, dI) vwCl ([(oh, .inr (1, [.ref oq_bodies, .int 0, .int (b_kindOf p2.toNatClampNeg), .int o_number, .int o_likely, .int o_weight])), (oq_bodies, .inl (cI, 16, .inl o_bodies)), (bh, .inr (4, [.int b_told, .int b_wax, .int b_stick, .int b_givers, .int b_promises, .int b_pan, .ref bq_keeping, .ref bq_giverOf, .ref bq_deedOf, .ref bq_dayOf, .ref bq_likelyOf, .ref bq_kindOf, .ref bq_settledOf])), (bq_keeping, .inl (cI, 4, .inl b_keeping)), (bq_giverOf, .inl (cI, 8, .inl b_giverOf)), (bq_deedOf, .inl (cI, 8, .inl b_deedOf)), (bq_dayOf, .inl (cI, 8, .inl b_dayOf)), (bq_likelyOf, .inl (cI, 8, .inl b_likelyOf)), (bq_kindOf, .inl (cI, 8, .inl b_kindOf)), (bq_settledOf, .inl (cI, 8, .inl b_settledOf))]) H := hP
  have hD : va_D A ([(oh, .inr (1, [.ref oq_bodies, .int 0, .int (b_kindOf p2.toNatClampNeg), .int o_number, .int o_likely, .int o_weight])), (oq_bodies, .inl (cI, 16, .inl o_bodies)), (bh, .inr (4, [.int b_told, .int b_wax, .int b_stick, .int b_givers, .int b_promises, .int b_pan, .ref bq_keeping, .ref bq_giverOf, .ref bq_deedOf, .ref bq_dayOf, .ref bq_likelyOf, .ref bq_kindOf, .ref bq_settledOf])), (bq_keeping, .inl (cI, 4, .inl b_keeping)), (bq_giverOf, .inl (cI, 8, .inl b_giverOf)), (bq_deedOf, .inl (cI, 8, .inl b_deedOf)), (bq_dayOf, .inl (cI, 8, .inl b_dayOf)), (bq_likelyOf, .inl (cI, 8, .inl b_likelyOf)), (bq_kindOf, .inl (cI, 8, .inl b_kindOf)), (bq_settledOf, .inl (cI, 8, .inl b_settledOf))]) := hD
  refine lv_aload_n hx hb dX1_turnTo_15 rfl (lv_at hl 0 rfl) ?_
  refine lv_iload_n hx hb dX1_turnTo_16 rfl (lv_at hl 2 rfl) ?_
  refine va_put (D := (dC, dI)) (ci := 1) (v := .int p2) (ty := .int) (C := RX1) (T := TX1) (N := 6) hx hb hts hin1 tyX1 tyX1_ok nmX1 hown hK hP hD hS 0 rfl rfl 3 (by decide) k27 (fun _ h9 => h9) rfl (by decide +kernel) rfl rfl (Nat.le_of_ble_eq_true rfl) dX1_turnTo_17 (fun H locs hP hD hS => ?_)
  have hP : va_P (dC, dI) vwCl ([(oh, .inr (1, [.ref oq_bodies, .int 0, .int (b_kindOf p2.toNatClampNeg), .int p2, .int o_likely, .int o_weight])), (oq_bodies, .inl (cI, 16, .inl o_bodies)), (bh, .inr (4, [.int b_told, .int b_wax, .int b_stick, .int b_givers, .int b_promises, .int b_pan, .ref bq_keeping, .ref bq_giverOf, .ref bq_deedOf, .ref bq_dayOf, .ref bq_likelyOf, .ref bq_kindOf, .ref bq_settledOf])), (bq_keeping, .inl (cI, 4, .inl b_keeping)), (bq_giverOf, .inl (cI, 8, .inl b_giverOf)), (bq_deedOf, .inl (cI, 8, .inl b_deedOf)), (bq_dayOf, .inl (cI, 8, .inl b_dayOf)), (bq_likelyOf, .inl (cI, 8, .inl b_likelyOf)), (bq_kindOf, .inl (cI, 8, .inl b_kindOf)), (bq_settledOf, .inl (cI, 8, .inl b_settledOf))]) H := hP
  have hD : va_D A ([(oh, .inr (1, [.ref oq_bodies, .int 0, .int (b_kindOf p2.toNatClampNeg), .int p2, .int o_likely, .int o_weight])), (oq_bodies, .inl (cI, 16, .inl o_bodies)), (bh, .inr (4, [.int b_told, .int b_wax, .int b_stick, .int b_givers, .int b_promises, .int b_pan, .ref bq_keeping, .ref bq_giverOf, .ref bq_deedOf, .ref bq_dayOf, .ref bq_likelyOf, .ref bq_kindOf, .ref bq_settledOf])), (bq_keeping, .inl (cI, 4, .inl b_keeping)), (bq_giverOf, .inl (cI, 8, .inl b_giverOf)), (bq_deedOf, .inl (cI, 8, .inl b_deedOf)), (bq_dayOf, .inl (cI, 8, .inl b_dayOf)), (bq_likelyOf, .inl (cI, 8, .inl b_likelyOf)), (bq_kindOf, .inl (cI, 8, .inl b_kindOf)), (bq_settledOf, .inl (cI, 8, .inl b_settledOf))]) := hD
  refine lv_aload_n hx hb dX1_turnTo_20 rfl (lv_at hl 0 rfl) ?_
  refine lv_aload_n hx hb dX1_turnTo_21 rfl (lv_at hl 1 rfl) ?_
  refine va_get (D := (dC, dI)) (ci := 4) (v := .ref bq_likelyOf) (C := RX4) (T := TX4) (N := 13) hx hb hts hin4 hown hK hP 2 rfl rfl 10 (by decide) k30 (fun _ h9 => h9) rfl dX1_turnTo_22 ?_
  refine lv_iload_n hx hb dX1_turnTo_25 rfl (lv_at hl 2 rfl) ?_
  obtain ⟨g2, hf⟩ := bs_g hf
  refine va_iald hx hb hK hP 7 0 rfl rfl (bs_inV g2) dX1_turnTo_26 ?_
  refine va_put (D := (dC, dI)) (ci := 1) (v := .int (b_likelyOf p2.toNatClampNeg)) (ty := .int) (C := RX1) (T := TX1) (N := 6) hx hb hts hin1 tyX1 tyX1_ok nmX1 hown hK hP hD hS 0 rfl rfl 4 (by decide) k33 (fun _ h9 => h9) rfl (by decide +kernel) rfl rfl (Nat.le_of_ble_eq_true rfl) dX1_turnTo_27 (fun H locs hP hD hS => ?_)
  have hP : va_P (dC, dI) vwCl ([(oh, .inr (1, [.ref oq_bodies, .int 0, .int (b_kindOf p2.toNatClampNeg), .int p2, .int (b_likelyOf p2.toNatClampNeg), .int o_weight])), (oq_bodies, .inl (cI, 16, .inl o_bodies)), (bh, .inr (4, [.int b_told, .int b_wax, .int b_stick, .int b_givers, .int b_promises, .int b_pan, .ref bq_keeping, .ref bq_giverOf, .ref bq_deedOf, .ref bq_dayOf, .ref bq_likelyOf, .ref bq_kindOf, .ref bq_settledOf])), (bq_keeping, .inl (cI, 4, .inl b_keeping)), (bq_giverOf, .inl (cI, 8, .inl b_giverOf)), (bq_deedOf, .inl (cI, 8, .inl b_deedOf)), (bq_dayOf, .inl (cI, 8, .inl b_dayOf)), (bq_likelyOf, .inl (cI, 8, .inl b_likelyOf)), (bq_kindOf, .inl (cI, 8, .inl b_kindOf)), (bq_settledOf, .inl (cI, 8, .inl b_settledOf))]) H := hP
  have hD : va_D A ([(oh, .inr (1, [.ref oq_bodies, .int 0, .int (b_kindOf p2.toNatClampNeg), .int p2, .int (b_likelyOf p2.toNatClampNeg), .int o_weight])), (oq_bodies, .inl (cI, 16, .inl o_bodies)), (bh, .inr (4, [.int b_told, .int b_wax, .int b_stick, .int b_givers, .int b_promises, .int b_pan, .ref bq_keeping, .ref bq_giverOf, .ref bq_deedOf, .ref bq_dayOf, .ref bq_likelyOf, .ref bq_kindOf, .ref bq_settledOf])), (bq_keeping, .inl (cI, 4, .inl b_keeping)), (bq_giverOf, .inl (cI, 8, .inl b_giverOf)), (bq_deedOf, .inl (cI, 8, .inl b_deedOf)), (bq_dayOf, .inl (cI, 8, .inl b_dayOf)), (bq_likelyOf, .inl (cI, 8, .inl b_likelyOf)), (bq_kindOf, .inl (cI, 8, .inl b_kindOf)), (bq_settledOf, .inl (cI, 8, .inl b_settledOf))]) := hD
  refine lv_aload_n hx hb dX1_turnTo_30 rfl (lv_at hl 0 rfl) ?_
  refine lv_aload_n hx hb dX1_turnTo_31 rfl (lv_at hl 1 rfl) ?_
  refine lv_iload_n hx hb dX1_turnTo_32 rfl (lv_at hl 2 rfl) ?_
  obtain ⟨z3, hz3, hf⟩ := bs_b hf
  refine bs_cViR ⟨hx, hb, hml, hown, hts⟩ (k_X4_weightOf l dC dI cI cZ cS cG bh bq_keeping bq_giverOf bq_deedOf bq_dayOf bq_likelyOf bq_kindOf bq_settledOf b_told b_wax b_stick b_givers b_promises b_pan b_keeping b_giverOf b_deedOf b_dayOf b_likelyOf b_kindOf b_settledOf p2 z3 hz3) (cwV 1 hts gX1_turnTo_X4_weightOf rfl rfl rfl (by decide +kernel) ⟨Nat.le_of_ble_eq_true rfl, Nat.le_of_ble_eq_true rfl⟩) hE hP hD hA hS [2, 3, 4, 5, 6, 7, 8, 9] rfl rfl 4 0 rfl rfl rfl rfl hl.1 (Nat.le_of_ble_eq_true rfl) dX1_turnTo_33 (fun H locs hP hS => ?_)
  refine va_put (D := (dC, dI)) (ci := 1) (v := .int z3) (ty := .int) (C := RX1) (T := TX1) (N := 6) hx hb hts hin1 tyX1 tyX1_ok nmX1 hown hK hP hD hS 0 rfl rfl 5 (by decide) k40 (fun _ h9 => h9) rfl (by decide +kernel) rfl rfl (Nat.le_of_ble_eq_true rfl) dX1_turnTo_36 (fun H locs hP hD hS => ?_)
  have hP : va_P (dC, dI) vwCl ([(oh, .inr (1, [.ref oq_bodies, .int 0, .int (b_kindOf p2.toNatClampNeg), .int p2, .int (b_likelyOf p2.toNatClampNeg), .int z3])), (oq_bodies, .inl (cI, 16, .inl o_bodies)), (bh, .inr (4, [.int b_told, .int b_wax, .int b_stick, .int b_givers, .int b_promises, .int b_pan, .ref bq_keeping, .ref bq_giverOf, .ref bq_deedOf, .ref bq_dayOf, .ref bq_likelyOf, .ref bq_kindOf, .ref bq_settledOf])), (bq_keeping, .inl (cI, 4, .inl b_keeping)), (bq_giverOf, .inl (cI, 8, .inl b_giverOf)), (bq_deedOf, .inl (cI, 8, .inl b_deedOf)), (bq_dayOf, .inl (cI, 8, .inl b_dayOf)), (bq_likelyOf, .inl (cI, 8, .inl b_likelyOf)), (bq_kindOf, .inl (cI, 8, .inl b_kindOf)), (bq_settledOf, .inl (cI, 8, .inl b_settledOf))]) H := hP
  have hD : va_D A ([(oh, .inr (1, [.ref oq_bodies, .int 0, .int (b_kindOf p2.toNatClampNeg), .int p2, .int (b_likelyOf p2.toNatClampNeg), .int z3])), (oq_bodies, .inl (cI, 16, .inl o_bodies)), (bh, .inr (4, [.int b_told, .int b_wax, .int b_stick, .int b_givers, .int b_promises, .int b_pan, .ref bq_keeping, .ref bq_giverOf, .ref bq_deedOf, .ref bq_dayOf, .ref bq_likelyOf, .ref bq_kindOf, .ref bq_settledOf])), (bq_keeping, .inl (cI, 4, .inl b_keeping)), (bq_giverOf, .inl (cI, 8, .inl b_giverOf)), (bq_deedOf, .inl (cI, 8, .inl b_deedOf)), (bq_dayOf, .inl (cI, 8, .inl b_dayOf)), (bq_likelyOf, .inl (cI, 8, .inl b_likelyOf)), (bq_kindOf, .inl (cI, 8, .inl b_kindOf)), (bq_settledOf, .inl (cI, 8, .inl b_settledOf))]) := hD
  obtain rfl := Option.some.inj hf
  exact hret H locs _ _ hP hS dX1_turnTo_39
set_option maxHeartbeats 4000000 in
set_option maxRecDepth 100000 in
theorem k_X1_bodyAt (l : Launch) (dC : Nat → ClassId) (dI : Nat → Nat → Nat) (cI cZ cS cG : ClassId) (oh : Nat) (oq_bodies : Nat) (o_bodies : Nat → Int32) (o_begun : Int32) (o_kind : Int32) (o_number : Int32) (o_likely : Int32) (o_weight : Int32) (p1 : Int32) (out : Int32) (hf : f_X1_bodyAt o_bodies o_begun p1 = some out) : bs_C l dC dI cI cZ cS cG yX1_bodyAt wsX1_bodyAt ({ frames := 0, cells := 0, slots := 0, locals := 0 } : Room) [.ref oh, .int p1] ([(oh, .inr (1, [.ref oq_bodies, .int o_begun, .int o_kind, .int o_number, .int o_likely, .int o_weight])), (oq_bodies, .inl (cI, 16, .inl o_bodies))]) out ([(oh, .inr (1, [.ref oq_bodies, .int o_begun, .int o_kind, .int o_number, .int o_likely, .int o_weight])), (oq_bodies, .inl (cI, 16, .inl o_bodies))]) := by
  refine bs_ofI (cc := cX1_bodyAt) (maxL := 2) (by decide) rfl (Nat.le_of_ble_eq_true rfl) ?_
  intro p e s m below meth c A Q hx hb hown hml hts hE H locs hP hD hA hS ls hl hret
  have hK := hE.1
  have hl : lv_has ls 2 [(0, .ref oh), (1, .int p1)] := hl
  have hin1 : ∀ w ∈ u_ws RX1 TX1 6, w ∈ wsX1_bodyAt := by decide +kernel
  have k11 := hts (.fieldLink RX1 11 "PromiseScales$Asks" "bodies" "[I") (by decide +kernel)
  have k15 := hts (.fieldLink RX1 15 "PromiseScales$Asks" "begun" "I") (by decide +kernel)
  unfold f_X1_bodyAt at hf
  refine lv_iload_n hx hb dX1_bodyAt_0 rfl (lv_at hl 1 rfl) ?_
  refine lv_if_lt (tgt := 21) hx hb dX1_bodyAt_1 (by decide) (fun c1 => ?_) (fun c1 => ?_)
  · have hf := bs_t hf c1
    refine lv_ldc hx hb hown (hts (.constant RX1 43 (-1000000)) (by decide +kernel)) dX1_bodyAt_21 ?_
    obtain rfl := Option.some.inj hf
    exact hret H locs _ _ hP hS rfl dX1_bodyAt_23
  · have hf := bs_f hf c1
    refine lv_iload_n hx hb dX1_bodyAt_4 rfl (lv_at hl 1 rfl) ?_
    refine lv_aload_n hx hb dX1_bodyAt_5 rfl (lv_at hl 0 rfl) ?_
    refine va_get (D := (dC, dI)) (ci := 1) (v := .int o_begun) (C := RX1) (T := TX1) (N := 6) hx hb hts hin1 hown hK hP 0 rfl rfl 1 (by decide) k15 (fun _ h9 => h9) rfl dX1_bodyAt_6 ?_
    refine lv_icmp_ge (tgt := 21) hx hb dX1_bodyAt_9 (by decide) (fun c2 => ?_) (fun c2 => ?_)
    · have hf := bs_t hf c2
      refine lv_ldc hx hb hown (hts (.constant RX1 43 (-1000000)) (by decide +kernel)) dX1_bodyAt_21 ?_
      obtain rfl := Option.some.inj hf
      exact hret H locs _ _ hP hS rfl dX1_bodyAt_23
    · have hf := bs_f hf c2
      refine lv_aload_n hx hb dX1_bodyAt_12 rfl (lv_at hl 0 rfl) ?_
      refine va_get (D := (dC, dI)) (ci := 1) (v := .ref oq_bodies) (C := RX1) (T := TX1) (N := 6) hx hb hts hin1 hown hK hP 0 rfl rfl 0 (by decide) k11 (fun _ h9 => h9) rfl dX1_bodyAt_13 ?_
      refine lv_iload_n hx hb dX1_bodyAt_16 rfl (lv_at hl 1 rfl) ?_
      obtain ⟨g3, hf⟩ := bs_g hf
      refine va_iald hx hb hK hP 1 0 rfl rfl (bs_inV g3) dX1_bodyAt_17 ?_
      refine lv_goto (tgt := 23) hx hb dX1_bodyAt_18 (by decide) ?_
      obtain rfl := Option.some.inj hf
      exact hret H locs _ _ hP hS rfl dX1_bodyAt_23
set_option maxHeartbeats 4000000 in
set_option maxRecDepth 100000 in
theorem k_X6_kindAbove (l : Launch) (dC : Nat → ClassId) (dI : Nat → Nat → Nat) (cI cZ cS cG : ClassId) (p1 : Int32) (out : Int32) (hf : f_X6_kindAbove p1 = some out) : bs_C l dC dI cI cZ cS cG yX6_kindAbove wsX6_kindAbove ({ frames := 0, cells := 0, slots := 0, locals := 0 } : Room) [.int p1] ([]) out ([]) := by
  refine bs_ofI (cc := cX6_kindAbove) (maxL := 1) (by decide) rfl (Nat.le_of_ble_eq_true rfl) ?_
  intro p e s m below meth c A Q hx hb hown hml hts hE H locs hP hD hA hS ls hl hret
  have hK := hE.1
  have hl : lv_has ls 1 [(0, .int p1)] := hl
  unfold f_X6_kindAbove at hf
  refine lv_iload_n hx hb dX6_kindAbove_0 rfl (lv_at hl 0 rfl) ?_
  by_cases c1 : p1 = 1
  · have hf := bs_t hf c1
    refine lv_tableIn (tgt := 40) hx hb dX6_kindAbove_1 (by rw [c1]; decide) (by rw [c1]; decide) (by rw [c1]; rfl) (by decide) ?_
    refine lv_iconst (v := 0) hx hb dX6_kindAbove_40 (by decide) ?_
    obtain rfl := Option.some.inj hf
    exact hret H locs _ _ hP hS rfl dX6_kindAbove_41
  · have hf := bs_f hf c1
    by_cases c2 : p1 = 2
    · have hf := bs_t hf c2
      refine lv_tableIn (tgt := 36) hx hb dX6_kindAbove_1 (by rw [c2]; decide) (by rw [c2]; decide) (by rw [c2]; rfl) (by decide) ?_
      refine lv_iconst (v := 1) hx hb dX6_kindAbove_36 (by decide) ?_
      obtain rfl := Option.some.inj hf
      exact hret H locs _ _ hP hS rfl dX6_kindAbove_37
    · have hf := bs_f hf c2
      by_cases c3 : p1 = 3
      · have hf := bs_t hf c3
        refine lv_tableIn (tgt := 36) hx hb dX6_kindAbove_1 (by rw [c3]; decide) (by rw [c3]; decide) (by rw [c3]; rfl) (by decide) ?_
        refine lv_iconst (v := 1) hx hb dX6_kindAbove_36 (by decide) ?_
        obtain rfl := Option.some.inj hf
        exact hret H locs _ _ hP hS rfl dX6_kindAbove_37
      · have hf := bs_f hf c3
        by_cases c4 : p1 = 4
        · have hf := bs_t hf c4
          refine lv_tableIn (tgt := 40) hx hb dX6_kindAbove_1 (by rw [c4]; decide) (by rw [c4]; decide) (by rw [c4]; rfl) (by decide) ?_
          refine lv_iconst (v := 0) hx hb dX6_kindAbove_40 (by decide) ?_
          obtain rfl := Option.some.inj hf
          exact hret H locs _ _ hP hS rfl dX6_kindAbove_41
        · have hf := bs_f hf c4
          by_cases c5 : p1 = 5
          · have hf := bs_t hf c5
            refine lv_tableIn (tgt := 38) hx hb dX6_kindAbove_1 (by rw [c5]; decide) (by rw [c5]; decide) (by rw [c5]; rfl) (by decide) ?_
            refine lv_iconst (v := 4) hx hb dX6_kindAbove_38 (by decide) ?_
            obtain rfl := Option.some.inj hf
            exact hret H locs _ _ hP hS rfl dX6_kindAbove_39
          · have hf := bs_f hf c5
            refine lv_tableOut (tgt := 42) hx hb dX6_kindAbove_1 (bs_sw (fun v h1 h2 => ?_)) (by decide) ?_
            · rcases (by omega : v = 1 ∨ v = 2 ∨ v = 3 ∨ v = 4 ∨ v = 5) with rfl | rfl | rfl | rfl | rfl
              · exact bs_ne 1 (by decide) c1
              · exact bs_ne 2 (by decide) c2
              · exact bs_ne 3 (by decide) c3
              · exact bs_ne 4 (by decide) c4
              · exact bs_ne 5 (by decide) c5
            · refine lv_iconst (v := (-1)) hx hb dX6_kindAbove_42 (by decide) ?_
              obtain rfl := Option.some.inj hf
              exact hret H locs _ _ hP hS rfl dX6_kindAbove_43
set_option maxHeartbeats 4000000 in
set_option maxRecDepth 100000 in
theorem k_X6_isOfKind (l : Launch) (dC : Nat → ClassId) (dI : Nat → Nat → Nat) (cI cZ cS cG : ClassId) (p1 : Int32) (p2 : Int32) (out : Int32) (hf : f_X6_isOfKind p1 p2 = some out) : bs_C l dC dI cI cZ cS cG yX6_isOfKind wsX6_isOfKind ({ frames := 1, cells := 0, slots := 0, locals := 20 } : Room) [.int p1, .int p2] ([]) out ([]) := by
  refine bs_ofI (cc := cX6_isOfKind) (maxL := 4) (by decide) rfl (Nat.le_of_ble_eq_true rfl) ?_
  intro p e s m below meth c A Q hx hb hown hml hts hE H locs hP hD hA hS ls hl hret
  have hK := hE.1
  have hl : lv_has ls 4 [(0, .int p1), (1, .int p2)] := hl
  unfold f_X6_isOfKind at hf
  refine lv_iload_n hx hb dX6_isOfKind_0 rfl (lv_at hl 0 rfl) ?_
  refine lv_istore_n (lv' := [(2, .int p1), (0, .int p1), (1, .int p2)]) hx hb dX6_isOfKind_1 rfl hl (by decide) rfl (fun ls hl => ?_)
  refine lv_iconst (v := 0) hx hb dX6_isOfKind_2 (by decide) ?_
  refine lv_istore_n (lv' := [(3, .int 0), (2, .int p1), (0, .int p1), (1, .int p2)]) hx hb dX6_isOfKind_3 rfl hl (by decide) rfl (fun ls hl => ?_)
  have L_4 : ∀ (fuel : Nat) (x2_4 : Int32) (x3_4 : Int32) (H : Heap) (locs : List Loc) (ls : Array Slot), va_P (dC, dI) vwCl ([]) H → va_D A ([]) → va_S A s.heap H locs → lv_has ls 4 [(1, .int p2), (2, .int x2_4), (3, .int x3_4)] → f_X6_isOfKind_L4 p2 fuel x2_4 x3_4 = some out → W p l e ({ frames := 1, cells := 0, slots := 0, locals := 20 } : Room) s m ([.int p1, .int p2] : List Value).toArray below meth c H locs 0 0 Q (F0 m 4 ls []) := by
    intro fuel
    induction fuel with
    | zero =>
      intro x2_4 x3_4 H locs ls hP hD hS hl hf
      cases (show (none : Option (Int32)) = some out from hf)
    | succ n_4 ih_4 =>
      intro x2_4 x3_4 H locs ls hP hD hS hl hf
      have hf := (f_X6_isOfKind_L4_s p2 n_4 x2_4 x3_4).symm.trans hf
      refine lv_iload_n hx hb dX6_isOfKind_4 rfl (lv_at hl 2 rfl) ?_
      refine lv_iconst (v := 5) hx hb dX6_isOfKind_5 (by decide) ?_
      refine lv_icmp_gt (tgt := 31) hx hb dX6_isOfKind_6 (by decide) (fun c1 => ?_) (fun c1 => ?_)
      · have hf := bs_t hf c1
        refine lv_iconst (v := 0) hx hb dX6_isOfKind_31 (by decide) ?_
        obtain rfl := Option.some.inj hf
        exact hret H locs _ _ hP hS bs_n0 dX6_isOfKind_32
      · have hf := bs_f hf c1
        refine lv_iload_n hx hb dX6_isOfKind_9 rfl (lv_at hl 1 rfl) ?_
        refine lv_if_lt (tgt := 31) hx hb dX6_isOfKind_10 (by decide) (fun c2 => ?_) (fun c2 => ?_)
        · have hf := bs_t hf c2
          refine lv_iconst (v := 0) hx hb dX6_isOfKind_31 (by decide) ?_
          obtain rfl := Option.some.inj hf
          exact hret H locs _ _ hP hS bs_n0 dX6_isOfKind_32
        · have hf := bs_f hf c2
          refine lv_iload_n hx hb dX6_isOfKind_13 rfl (lv_at hl 1 rfl) ?_
          refine lv_iload_n hx hb dX6_isOfKind_14 rfl (lv_at hl 0 rfl) ?_
          refine lv_icmp_ne (tgt := 20) hx hb dX6_isOfKind_15 (by decide) (fun c3 => ?_) (fun c3 => ?_)
          · have hf := bs_f hf c3
            refine lv_iload_n hx hb dX6_isOfKind_20 rfl (lv_at hl 1 rfl) ?_
            obtain ⟨z4, hz4, hf⟩ := bs_b hf
            refine bs_cSi ⟨hx, hb, hml, hown, hts⟩ (k_X6_kindAbove l dC dI cI cZ cS cG x2_4 z4 hz4) (va_cwS 1 hts gX6_isOfKind_X6_kindAbove rfl rfl rfl (by decide +kernel) ⟨Nat.le_of_ble_eq_true rfl, Nat.le_of_ble_eq_true rfl⟩) hE hP hD hA hS rfl rfl hl.1 (Nat.le_of_ble_eq_true rfl) dX6_isOfKind_21 (fun H locs hP hS => ?_)
            refine lv_istore_n (lv' := [(2, .int z4), (1, .int p2), (3, .int x3_4)]) hx hb dX6_isOfKind_24 rfl hl (by decide) rfl (fun ls hl => ?_)
            refine lv_iinc (v := x3_4 + 1) (lv' := [(3, .int (x3_4 + 1)), (2, .int z4), (1, .int p2)]) hx hb dX6_isOfKind_25 hl (k := 2) rfl rfl (by decide) rfl (fun ls hl => ?_)
            refine lv_goto (tgt := 4) hx hb dX6_isOfKind_28 (by decide) ?_
            exact ih_4 z4 (x3_4 + 1) H locs ls hP hD hS (lv_sub hl [2, 1, 0] rfl) hf
          · have hf := bs_t hf c3
            refine lv_iconst (v := 1) hx hb dX6_isOfKind_18 (by decide) ?_
            obtain rfl := Option.some.inj hf
            exact hret H locs _ _ hP hS bs_n1 dX6_isOfKind_19
  exact L_4 bs_F p1 (0 : Int32) H locs ls hP hD hS (lv_sub hl [3, 1, 0] rfl) hf
set_option maxHeartbeats 4000000 in
set_option maxRecDepth 100000 in
theorem k_X1_enter (l : Launch) (dC : Nat → ClassId) (dI : Nat → Nat → Nat) (cI cZ cS cG : ClassId) (oh : Nat) (oq_bodies : Nat) (o_bodies : Nat → Int32) (o_begun : Int32) (o_kind : Int32) (o_number : Int32) (o_likely : Int32) (o_weight : Int32) (p1 : Int32) (out : (Nat → Int32) × Int32) (hf : f_X1_enter o_bodies o_begun p1 = some out) : bs_CV l dC dI cI cZ cS cG yX1_enter wsX1_enter ({ frames := 0, cells := 0, slots := 0, locals := 0 } : Room) [.ref oh, .int p1] ([(oh, .inr (1, [.ref oq_bodies, .int o_begun, .int o_kind, .int o_number, .int o_likely, .int o_weight])), (oq_bodies, .inl (cI, 16, .inl o_bodies))]) ([(oh, .inr (1, [.ref oq_bodies, .int out.2, .int o_kind, .int o_number, .int o_likely, .int o_weight])), (oq_bodies, .inl (cI, 16, .inl out.1))]) := by
  refine bs_ofV (cc := cX1_enter) (maxL := 2) (by decide) rfl (Nat.le_of_ble_eq_true rfl) ?_
  intro p e s m below meth c A Q hx hb hown hml hts hE H locs hP hD hA hS ls hl hret
  have hK := hE.1
  have hl : lv_has ls 2 [(0, .ref oh), (1, .int p1)] := hl
  have hin1 : ∀ w ∈ u_ws RX1 TX1 6, w ∈ wsX1_enter := by decide +kernel
  have k11 := hts (.fieldLink RX1 11 "PromiseScales$Asks" "bodies" "[I") (by decide +kernel)
  have k15 := hts (.fieldLink RX1 15 "PromiseScales$Asks" "begun" "I") (by decide +kernel)
  unfold f_X1_enter at hf
  refine lv_aload_n hx hb dX1_enter_0 rfl (lv_at hl 0 rfl) ?_
  refine va_get (D := (dC, dI)) (ci := 1) (v := .int o_begun) (C := RX1) (T := TX1) (N := 6) hx hb hts hin1 hown hK hP 0 rfl rfl 1 (by decide) k15 (fun _ h9 => h9) rfl dX1_enter_1 ?_
  refine lv_bipush (v := 16) hx hb dX1_enter_4 (by decide) ?_
  refine lv_icmp_ge (tgt := 29) hx hb dX1_enter_6 (by decide) (fun c1 => ?_) (fun c1 => ?_)
  · have hf := bs_t hf c1
    obtain rfl := Option.some.inj hf
    exact hret H locs _ _ hP hS dX1_enter_29
  · have hf := bs_f hf c1
    refine lv_aload_n hx hb dX1_enter_9 rfl (lv_at hl 0 rfl) ?_
    refine va_get (D := (dC, dI)) (ci := 1) (v := .ref oq_bodies) (C := RX1) (T := TX1) (N := 6) hx hb hts hin1 hown hK hP 0 rfl rfl 0 (by decide) k11 (fun _ h9 => h9) rfl dX1_enter_10 ?_
    refine lv_aload_n hx hb dX1_enter_13 rfl (lv_at hl 0 rfl) ?_
    refine va_get (D := (dC, dI)) (ci := 1) (v := .int o_begun) (C := RX1) (T := TX1) (N := 6) hx hb hts hin1 hown hK hP 0 rfl rfl 1 (by decide) k15 (fun _ h9 => h9) rfl dX1_enter_14 ?_
    refine lv_iload_n hx hb dX1_enter_17 rfl (lv_at hl 1 rfl) ?_
    obtain ⟨g2, hf⟩ := bs_g hf
    refine va_iast hx hb hK hP hD hS 1 0 rfl rfl (bs_inV g2) dX1_enter_18 (fun H locs hP hD hS => ?_)
    have hP : va_P (dC, dI) vwCl ([(oh, .inr (1, [.ref oq_bodies, .int o_begun, .int o_kind, .int o_number, .int o_likely, .int o_weight])), (oq_bodies, .inl (cI, 16, .inl (upd o_bodies o_begun.toNatClampNeg p1)))]) H := hP
    have hD : va_D A ([(oh, .inr (1, [.ref oq_bodies, .int o_begun, .int o_kind, .int o_number, .int o_likely, .int o_weight])), (oq_bodies, .inl (cI, 16, .inl (upd o_bodies o_begun.toNatClampNeg p1)))]) := hD
    refine lv_aload_n hx hb dX1_enter_19 rfl (lv_at hl 0 rfl) ?_
    refine lv_dup hx hb dX1_enter_20 rfl ?_
    refine va_get (D := (dC, dI)) (ci := 1) (v := .int o_begun) (C := RX1) (T := TX1) (N := 6) hx hb hts hin1 hown hK hP 0 rfl rfl 1 (by decide) k15 (fun _ h9 => h9) rfl dX1_enter_21 ?_
    refine lv_iconst (v := 1) hx hb dX1_enter_24 (by decide) ?_
    refine lv_iadd hx hb dX1_enter_25 ?_
    refine va_put (D := (dC, dI)) (ci := 1) (v := .int (o_begun + 1)) (ty := .int) (C := RX1) (T := TX1) (N := 6) hx hb hts hin1 tyX1 tyX1_ok nmX1 hown hK hP hD hS 0 rfl rfl 1 (by decide) k15 (fun _ h9 => h9) rfl (by decide +kernel) rfl rfl (Nat.le_of_ble_eq_true rfl) dX1_enter_26 (fun H locs hP hD hS => ?_)
    have hP : va_P (dC, dI) vwCl ([(oh, .inr (1, [.ref oq_bodies, .int (o_begun + 1), .int o_kind, .int o_number, .int o_likely, .int o_weight])), (oq_bodies, .inl (cI, 16, .inl (upd o_bodies o_begun.toNatClampNeg p1)))]) H := hP
    have hD : va_D A ([(oh, .inr (1, [.ref oq_bodies, .int (o_begun + 1), .int o_kind, .int o_number, .int o_likely, .int o_weight])), (oq_bodies, .inl (cI, 16, .inl (upd o_bodies o_begun.toNatClampNeg p1)))]) := hD
    obtain rfl := Option.some.inj hf
    exact hret H locs _ _ hP hS dX1_enter_29
set_option maxHeartbeats 4000000 in
set_option maxRecDepth 100000 in
theorem k_X1_sizeOfOath (l : Launch) (dC : Nat → ClassId) (dI : Nat → Nat → Nat) (cI cZ cS cG : ClassId) (oh : Nat) (oq_bodies : Nat) (o_bodies : Nat → Int32) (o_begun : Int32) (o_kind : Int32) (o_number : Int32) (o_likely : Int32) (o_weight : Int32) (out : Int32 × (Nat → Int32) × Int32) (hf : f_X1_sizeOfOath o_bodies o_begun o_kind o_likely = some out) : bs_C l dC dI cI cZ cS cG yX1_sizeOfOath wsX1_sizeOfOath ({ frames := 1, cells := 0, slots := 0, locals := 21 } : Room) [.ref oh] ([(oh, .inr (1, [.ref oq_bodies, .int o_begun, .int o_kind, .int o_number, .int o_likely, .int o_weight])), (oq_bodies, .inl (cI, 16, .inl o_bodies))]) out.1 ([(oh, .inr (1, [.ref oq_bodies, .int out.2.2, .int o_kind, .int o_number, .int o_likely, .int o_weight])), (oq_bodies, .inl (cI, 16, .inl out.2.1))]) := by
  refine bs_ofI (cc := cX1_sizeOfOath) (maxL := 2) (by decide) rfl (Nat.le_of_ble_eq_true rfl) ?_
  intro p e s m below meth c A Q hx hb hown hml hts hE H locs hP hD hA hS ls hl hret
  have hK := hE.1
  have hl : lv_has ls 2 [(0, .ref oh)] := hl
  have hin1 : ∀ w ∈ u_ws RX1 TX1 6, w ∈ wsX1_sizeOfOath := by decide +kernel
  have k24 := hts (.fieldLink RX1 24 "PromiseScales$Asks" "kind" "I") (by decide +kernel)
  have k33 := hts (.fieldLink RX1 33 "PromiseScales$Asks" "likely" "I") (by decide +kernel)
  unfold f_X1_sizeOfOath at hf
  refine lv_aload_n hx hb dX1_sizeOfOath_0 rfl (lv_at hl 0 rfl) ?_
  refine va_get (D := (dC, dI)) (ci := 1) (v := .int o_kind) (C := RX1) (T := TX1) (N := 6) hx hb hts hin1 hown hK hP 0 rfl rfl 2 (by decide) k24 (fun _ h9 => h9) rfl dX1_sizeOfOath_1 ?_
  refine lv_iconst (v := 5) hx hb dX1_sizeOfOath_4 (by decide) ?_
  refine lv_icmp_ne (tgt := 14) hx hb dX1_sizeOfOath_5 (by decide) (fun c1 => ?_) (fun c1 => ?_)
  · have hf := bs_f hf c1
    refine lv_aload_n hx hb dX1_sizeOfOath_14 rfl (lv_at hl 0 rfl) ?_
    refine lv_bipush (v := 13) hx hb dX1_sizeOfOath_15 (by decide) ?_
    obtain ⟨z2, hz2, hf⟩ := bs_b hf
    refine bs_cVv (ws1 := [(oh, .inr (1, [.ref oq_bodies, .int z2.2, .int o_kind, .int o_number, .int o_likely, .int o_weight])), (oq_bodies, .inl (cI, 16, .inl z2.1))]) ⟨hx, hb, hml, hown, hts⟩ (k_X1_enter l dC dI cI cZ cS cG oh oq_bodies o_bodies o_begun o_kind o_number o_likely o_weight (13 : Int32) z2 hz2) (cwV 1 hts gX1_sizeOfOath_X1_enter rfl rfl rfl (by decide +kernel) ⟨Nat.le_of_ble_eq_true rfl, Nat.le_of_ble_eq_true rfl⟩) hE hP hD hA hS [0, 1] rfl rfl 1 0 rfl rfl rfl rfl rfl rfl rfl hl.1 (Nat.le_of_ble_eq_true rfl) dX1_sizeOfOath_17 (fun H locs hP hD hS => ?_)
    refine lv_aload_n hx hb dX1_sizeOfOath_20 rfl (lv_at hl 0 rfl) ?_
    refine lv_bipush (v := 10) hx hb dX1_sizeOfOath_21 (by decide) ?_
    obtain ⟨z3, hz3, hf⟩ := bs_b hf
    refine bs_cVv (ws1 := [(oh, .inr (1, [.ref oq_bodies, .int z3.2, .int o_kind, .int o_number, .int o_likely, .int o_weight])), (oq_bodies, .inl (cI, 16, .inl z3.1))]) ⟨hx, hb, hml, hown, hts⟩ (k_X1_enter l dC dI cI cZ cS cG oh oq_bodies z2.1 z2.2 o_kind o_number o_likely o_weight (10 : Int32) z3 hz3) (cwV 1 hts gX1_sizeOfOath_X1_enter rfl rfl rfl (by decide +kernel) ⟨Nat.le_of_ble_eq_true rfl, Nat.le_of_ble_eq_true rfl⟩) hE hP hD hA hS [0, 1] rfl rfl 1 0 rfl rfl rfl rfl rfl rfl rfl hl.1 (Nat.le_of_ble_eq_true rfl) dX1_sizeOfOath_23 (fun H locs hP hD hS => ?_)
    refine lv_aload_n hx hb dX1_sizeOfOath_26 rfl (lv_at hl 0 rfl) ?_
    refine va_get (D := (dC, dI)) (ci := 1) (v := .int o_likely) (C := RX1) (T := TX1) (N := 6) hx hb hts hin1 hown hK hP 0 rfl rfl 4 (by decide) k33 (fun _ h9 => h9) rfl dX1_sizeOfOath_27 ?_
    refine lv_bipush (v := 100) hx hb dX1_sizeOfOath_30 (by decide) ?_
    refine lv_isub hx hb dX1_sizeOfOath_32 ?_
    refine lv_istore_n (lv' := [(1, .int (o_likely - 100)), (0, .ref oh)]) hx hb dX1_sizeOfOath_33 rfl hl (by decide) rfl (fun ls hl => ?_)
    refine lv_aload_n hx hb dX1_sizeOfOath_34 rfl (lv_at hl 1 rfl) ?_
    refine va_get (D := (dC, dI)) (ci := 1) (v := .int o_kind) (C := RX1) (T := TX1) (N := 6) hx hb hts hin1 hown hK hP 0 rfl rfl 2 (by decide) k24 (fun _ h9 => h9) rfl dX1_sizeOfOath_35 ?_
    refine lv_iconst (v := 5) hx hb dX1_sizeOfOath_38 (by decide) ?_
    refine lv_icmp_ne (tgt := 48) hx hb dX1_sizeOfOath_39 (by decide) (fun c4 => ?_) (fun c4 => ?_)
    · have hf := bs_f hf c4
      refine lv_iload_n hx hb dX1_sizeOfOath_48 rfl (lv_at hl 0 rfl) ?_
      obtain rfl := Option.some.inj hf
      exact hret H locs _ _ hP hS rfl dX1_sizeOfOath_49
    · have hf := bs_t hf c4
      refine lv_iconst (v := 2) hx hb dX1_sizeOfOath_42 (by decide) ?_
      refine lv_iload_n hx hb dX1_sizeOfOath_43 rfl (lv_at hl 0 rfl) ?_
      refine lv_imul hx hb dX1_sizeOfOath_44 ?_
      refine lv_goto (tgt := 49) hx hb dX1_sizeOfOath_45 (by decide) ?_
      obtain rfl := Option.some.inj hf
      exact hret H locs _ _ hP hS rfl dX1_sizeOfOath_49
  · have hf := bs_t hf c1
    refine lv_aload_n hx hb dX1_sizeOfOath_8 rfl (lv_at hl 0 rfl) ?_
    refine lv_bipush (v := 14) hx hb dX1_sizeOfOath_9 (by decide) ?_
    obtain ⟨z5, hz5, hf⟩ := bs_b hf
    refine bs_cVv (ws1 := [(oh, .inr (1, [.ref oq_bodies, .int z5.2, .int o_kind, .int o_number, .int o_likely, .int o_weight])), (oq_bodies, .inl (cI, 16, .inl z5.1))]) ⟨hx, hb, hml, hown, hts⟩ (k_X1_enter l dC dI cI cZ cS cG oh oq_bodies o_bodies o_begun o_kind o_number o_likely o_weight (14 : Int32) z5 hz5) (cwV 1 hts gX1_sizeOfOath_X1_enter rfl rfl rfl (by decide +kernel) ⟨Nat.le_of_ble_eq_true rfl, Nat.le_of_ble_eq_true rfl⟩) hE hP hD hA hS [0, 1] rfl rfl 1 0 rfl rfl rfl rfl rfl rfl rfl hl.1 (Nat.le_of_ble_eq_true rfl) dX1_sizeOfOath_11 (fun H locs hP hD hS => ?_)
    refine lv_aload_n hx hb dX1_sizeOfOath_14 rfl (lv_at hl 0 rfl) ?_
    refine lv_bipush (v := 13) hx hb dX1_sizeOfOath_15 (by decide) ?_
    obtain ⟨z6, hz6, hf⟩ := bs_b hf
    refine bs_cVv (ws1 := [(oh, .inr (1, [.ref oq_bodies, .int z6.2, .int o_kind, .int o_number, .int o_likely, .int o_weight])), (oq_bodies, .inl (cI, 16, .inl z6.1))]) ⟨hx, hb, hml, hown, hts⟩ (k_X1_enter l dC dI cI cZ cS cG oh oq_bodies z5.1 z5.2 o_kind o_number o_likely o_weight (13 : Int32) z6 hz6) (cwV 1 hts gX1_sizeOfOath_X1_enter rfl rfl rfl (by decide +kernel) ⟨Nat.le_of_ble_eq_true rfl, Nat.le_of_ble_eq_true rfl⟩) hE hP hD hA hS [0, 1] rfl rfl 1 0 rfl rfl rfl rfl rfl rfl rfl hl.1 (Nat.le_of_ble_eq_true rfl) dX1_sizeOfOath_17 (fun H locs hP hD hS => ?_)
    refine lv_aload_n hx hb dX1_sizeOfOath_20 rfl (lv_at hl 0 rfl) ?_
    refine lv_bipush (v := 10) hx hb dX1_sizeOfOath_21 (by decide) ?_
    obtain ⟨z7, hz7, hf⟩ := bs_b hf
    refine bs_cVv (ws1 := [(oh, .inr (1, [.ref oq_bodies, .int z7.2, .int o_kind, .int o_number, .int o_likely, .int o_weight])), (oq_bodies, .inl (cI, 16, .inl z7.1))]) ⟨hx, hb, hml, hown, hts⟩ (k_X1_enter l dC dI cI cZ cS cG oh oq_bodies z6.1 z6.2 o_kind o_number o_likely o_weight (10 : Int32) z7 hz7) (cwV 1 hts gX1_sizeOfOath_X1_enter rfl rfl rfl (by decide +kernel) ⟨Nat.le_of_ble_eq_true rfl, Nat.le_of_ble_eq_true rfl⟩) hE hP hD hA hS [0, 1] rfl rfl 1 0 rfl rfl rfl rfl rfl rfl rfl hl.1 (Nat.le_of_ble_eq_true rfl) dX1_sizeOfOath_23 (fun H locs hP hD hS => ?_)
    refine lv_aload_n hx hb dX1_sizeOfOath_26 rfl (lv_at hl 0 rfl) ?_
    refine va_get (D := (dC, dI)) (ci := 1) (v := .int o_likely) (C := RX1) (T := TX1) (N := 6) hx hb hts hin1 hown hK hP 0 rfl rfl 4 (by decide) k33 (fun _ h9 => h9) rfl dX1_sizeOfOath_27 ?_
    refine lv_bipush (v := 100) hx hb dX1_sizeOfOath_30 (by decide) ?_
    refine lv_isub hx hb dX1_sizeOfOath_32 ?_
    refine lv_istore_n (lv' := [(1, .int (o_likely - 100)), (0, .ref oh)]) hx hb dX1_sizeOfOath_33 rfl hl (by decide) rfl (fun ls hl => ?_)
    refine lv_aload_n hx hb dX1_sizeOfOath_34 rfl (lv_at hl 1 rfl) ?_
    refine va_get (D := (dC, dI)) (ci := 1) (v := .int o_kind) (C := RX1) (T := TX1) (N := 6) hx hb hts hin1 hown hK hP 0 rfl rfl 2 (by decide) k24 (fun _ h9 => h9) rfl dX1_sizeOfOath_35 ?_
    refine lv_iconst (v := 5) hx hb dX1_sizeOfOath_38 (by decide) ?_
    refine lv_icmp_ne (tgt := 48) hx hb dX1_sizeOfOath_39 (by decide) (fun c8 => ?_) (fun c8 => ?_)
    · have hf := bs_f hf c8
      refine lv_iload_n hx hb dX1_sizeOfOath_48 rfl (lv_at hl 0 rfl) ?_
      obtain rfl := Option.some.inj hf
      exact hret H locs _ _ hP hS rfl dX1_sizeOfOath_49
    · have hf := bs_t hf c8
      refine lv_iconst (v := 2) hx hb dX1_sizeOfOath_42 (by decide) ?_
      refine lv_iload_n hx hb dX1_sizeOfOath_43 rfl (lv_at hl 0 rfl) ?_
      refine lv_imul hx hb dX1_sizeOfOath_44 ?_
      refine lv_goto (tgt := 49) hx hb dX1_sizeOfOath_45 (by decide) ?_
      obtain rfl := Option.some.inj hf
      exact hret H locs _ _ hP hS rfl dX1_sizeOfOath_49
set_option maxHeartbeats 4000000 in
set_option maxRecDepth 100000 in
theorem k_X1_markOfPlain (l : Launch) (dC : Nat → ClassId) (dI : Nat → Nat → Nat) (cI cZ cS cG : ClassId) (oh : Nat) (oq_bodies : Nat) (o_bodies : Nat → Int32) (o_begun : Int32) (o_kind : Int32) (o_number : Int32) (o_likely : Int32) (o_weight : Int32) (out : Int32 × (Nat → Int32) × Int32) (hf : f_X1_markOfPlain o_bodies o_begun o_kind o_number o_weight = some out) : bs_C l dC dI cI cZ cS cG yX1_markOfPlain wsX1_markOfPlain ({ frames := 1, cells := 0, slots := 0, locals := 21 } : Room) [.ref oh] ([(oh, .inr (1, [.ref oq_bodies, .int o_begun, .int o_kind, .int o_number, .int o_likely, .int o_weight])), (oq_bodies, .inl (cI, 16, .inl o_bodies))]) out.1 ([(oh, .inr (1, [.ref oq_bodies, .int out.2.2, .int o_kind, .int o_number, .int o_likely, .int o_weight])), (oq_bodies, .inl (cI, 16, .inl out.2.1))]) := by
  refine bs_ofI (cc := cX1_markOfPlain) (maxL := 2) (by decide) rfl (Nat.le_of_ble_eq_true rfl) ?_
  intro p e s m below meth c A Q hx hb hown hml hts hE H locs hP hD hA hS ls hl hret
  have hK := hE.1
  have hl : lv_has ls 2 [(0, .ref oh)] := hl
  have hin1 : ∀ w ∈ u_ws RX1 TX1 6, w ∈ wsX1_markOfPlain := by decide +kernel
  have k24 := hts (.fieldLink RX1 24 "PromiseScales$Asks" "kind" "I") (by decide +kernel)
  have k27 := hts (.fieldLink RX1 27 "PromiseScales$Asks" "number" "I") (by decide +kernel)
  have k40 := hts (.fieldLink RX1 40 "PromiseScales$Asks" "weight" "I") (by decide +kernel)
  unfold f_X1_markOfPlain at hf
  refine lv_aload_n hx hb dX1_markOfPlain_0 rfl (lv_at hl 0 rfl) ?_
  refine va_get (D := (dC, dI)) (ci := 1) (v := .int o_kind) (C := RX1) (T := TX1) (N := 6) hx hb hts hin1 hown hK hP 0 rfl rfl 2 (by decide) k24 (fun _ h9 => h9) rfl dX1_markOfPlain_1 ?_
  refine lv_iconst (v := 2) hx hb dX1_markOfPlain_4 (by decide) ?_
  refine lv_icmp_ne (tgt := 17) hx hb dX1_markOfPlain_5 (by decide) (fun c1 => ?_) (fun c1 => ?_)
  · have hf := bs_f hf c1
    refine lv_aload_n hx hb dX1_markOfPlain_17 rfl (lv_at hl 0 rfl) ?_
    refine va_get (D := (dC, dI)) (ci := 1) (v := .int o_kind) (C := RX1) (T := TX1) (N := 6) hx hb hts hin1 hown hK hP 0 rfl rfl 2 (by decide) k24 (fun _ h9 => h9) rfl dX1_markOfPlain_18 ?_
    refine lv_iconst (v := 3) hx hb dX1_markOfPlain_21 (by decide) ?_
    refine lv_icmp_ne (tgt := 31) hx hb dX1_markOfPlain_22 (by decide) (fun c2 => ?_) (fun c2 => ?_)
    · have hf := bs_f hf c2
      refine lv_aload_n hx hb dX1_markOfPlain_31 rfl (lv_at hl 0 rfl) ?_
      refine lv_bipush (v := 21) hx hb dX1_markOfPlain_32 (by decide) ?_
      obtain ⟨z3, hz3, hf⟩ := bs_b hf
      refine bs_cVv (ws1 := [(oh, .inr (1, [.ref oq_bodies, .int z3.2, .int o_kind, .int o_number, .int o_likely, .int o_weight])), (oq_bodies, .inl (cI, 16, .inl z3.1))]) ⟨hx, hb, hml, hown, hts⟩ (k_X1_enter l dC dI cI cZ cS cG oh oq_bodies o_bodies o_begun o_kind o_number o_likely o_weight (21 : Int32) z3 hz3) (cwV 1 hts gX1_markOfPlain_X1_enter rfl rfl rfl (by decide +kernel) ⟨Nat.le_of_ble_eq_true rfl, Nat.le_of_ble_eq_true rfl⟩) hE hP hD hA hS [0, 1] rfl rfl 1 0 rfl rfl rfl rfl rfl rfl rfl hl.1 (Nat.le_of_ble_eq_true rfl) dX1_markOfPlain_34 (fun H locs hP hD hS => ?_)
      refine lv_aload_n hx hb dX1_markOfPlain_37 rfl (lv_at hl 0 rfl) ?_
      refine lv_bipush (v := 20) hx hb dX1_markOfPlain_38 (by decide) ?_
      obtain ⟨z4, hz4, hf⟩ := bs_b hf
      refine bs_cVv (ws1 := [(oh, .inr (1, [.ref oq_bodies, .int z4.2, .int o_kind, .int o_number, .int o_likely, .int o_weight])), (oq_bodies, .inl (cI, 16, .inl z4.1))]) ⟨hx, hb, hml, hown, hts⟩ (k_X1_enter l dC dI cI cZ cS cG oh oq_bodies z3.1 z3.2 o_kind o_number o_likely o_weight (20 : Int32) z4 hz4) (cwV 1 hts gX1_markOfPlain_X1_enter rfl rfl rfl (by decide +kernel) ⟨Nat.le_of_ble_eq_true rfl, Nat.le_of_ble_eq_true rfl⟩) hE hP hD hA hS [0, 1] rfl rfl 1 0 rfl rfl rfl rfl rfl rfl rfl hl.1 (Nat.le_of_ble_eq_true rfl) dX1_markOfPlain_40 (fun H locs hP hD hS => ?_)
      refine lv_aload_n hx hb dX1_markOfPlain_43 rfl (lv_at hl 0 rfl) ?_
      refine va_get (D := (dC, dI)) (ci := 1) (v := .int o_number) (C := RX1) (T := TX1) (N := 6) hx hb hts hin1 hown hK hP 0 rfl rfl 3 (by decide) k27 (fun _ h9 => h9) rfl dX1_markOfPlain_44 ?_
      refine lv_aload_n hx hb dX1_markOfPlain_47 rfl (lv_at hl 0 rfl) ?_
      refine va_get (D := (dC, dI)) (ci := 1) (v := .int o_weight) (C := RX1) (T := TX1) (N := 6) hx hb hts hin1 hown hK hP 0 rfl rfl 5 (by decide) k40 (fun _ h9 => h9) rfl dX1_markOfPlain_48 ?_
      refine lv_iadd hx hb dX1_markOfPlain_51 ?_
      refine lv_istore_n (lv' := [(1, .int (o_number + o_weight)), (0, .ref oh)]) hx hb dX1_markOfPlain_52 rfl hl (by decide) rfl (fun ls hl => ?_)
      refine lv_aload_n hx hb dX1_markOfPlain_53 rfl (lv_at hl 1 rfl) ?_
      refine va_get (D := (dC, dI)) (ci := 1) (v := .int o_kind) (C := RX1) (T := TX1) (N := 6) hx hb hts hin1 hown hK hP 0 rfl rfl 2 (by decide) k24 (fun _ h9 => h9) rfl dX1_markOfPlain_54 ?_
      refine lv_iconst (v := 2) hx hb dX1_markOfPlain_57 (by decide) ?_
      refine lv_icmp_ne (tgt := 65) hx hb dX1_markOfPlain_58 (by decide) (fun c5 => ?_) (fun c5 => ?_)
      · have hf := bs_f hf c5
        refine lv_aload_n hx hb dX1_markOfPlain_65 rfl (lv_at hl 1 rfl) ?_
        refine va_get (D := (dC, dI)) (ci := 1) (v := .int o_kind) (C := RX1) (T := TX1) (N := 6) hx hb hts hin1 hown hK hP 0 rfl rfl 2 (by decide) k24 (fun _ h9 => h9) rfl dX1_markOfPlain_66 ?_
        refine lv_iconst (v := 3) hx hb dX1_markOfPlain_69 (by decide) ?_
        refine lv_icmp_ne (tgt := 81) hx hb dX1_markOfPlain_70 (by decide) (fun c6 => ?_) (fun c6 => ?_)
        · have hf := bs_f hf c6
          refine lv_iload_n hx hb dX1_markOfPlain_81 rfl (lv_at hl 0 rfl) ?_
          obtain rfl := Option.some.inj hf
          exact hret H locs _ _ hP hS rfl dX1_markOfPlain_82
        · have hf := bs_t hf c6
          refine lv_iload_n hx hb dX1_markOfPlain_73 rfl (lv_at hl 0 rfl) ?_
          refine lv_sipush (v := 1000) hx hb dX1_markOfPlain_74 (by decide) ?_
          refine lv_isub hx hb dX1_markOfPlain_77 ?_
          refine lv_goto (tgt := 82) hx hb dX1_markOfPlain_78 (by decide) ?_
          obtain rfl := Option.some.inj hf
          exact hret H locs _ _ hP hS rfl dX1_markOfPlain_82
      · have hf := bs_t hf c5
        refine lv_iconst (v := 2) hx hb dX1_markOfPlain_61 (by decide) ?_
        refine lv_iload_n hx hb dX1_markOfPlain_62 rfl (lv_at hl 0 rfl) ?_
        refine lv_imul hx hb dX1_markOfPlain_63 ?_
        obtain rfl := Option.some.inj hf
        exact hret H locs _ _ hP hS rfl dX1_markOfPlain_64
    · have hf := bs_t hf c2
      refine lv_aload_n hx hb dX1_markOfPlain_25 rfl (lv_at hl 0 rfl) ?_
      refine lv_bipush (v := 22) hx hb dX1_markOfPlain_26 (by decide) ?_
      obtain ⟨z7, hz7, hf⟩ := bs_b hf
      refine bs_cVv (ws1 := [(oh, .inr (1, [.ref oq_bodies, .int z7.2, .int o_kind, .int o_number, .int o_likely, .int o_weight])), (oq_bodies, .inl (cI, 16, .inl z7.1))]) ⟨hx, hb, hml, hown, hts⟩ (k_X1_enter l dC dI cI cZ cS cG oh oq_bodies o_bodies o_begun o_kind o_number o_likely o_weight (22 : Int32) z7 hz7) (cwV 1 hts gX1_markOfPlain_X1_enter rfl rfl rfl (by decide +kernel) ⟨Nat.le_of_ble_eq_true rfl, Nat.le_of_ble_eq_true rfl⟩) hE hP hD hA hS [0, 1] rfl rfl 1 0 rfl rfl rfl rfl rfl rfl rfl hl.1 (Nat.le_of_ble_eq_true rfl) dX1_markOfPlain_28 (fun H locs hP hD hS => ?_)
      refine lv_aload_n hx hb dX1_markOfPlain_31 rfl (lv_at hl 0 rfl) ?_
      refine lv_bipush (v := 21) hx hb dX1_markOfPlain_32 (by decide) ?_
      obtain ⟨z8, hz8, hf⟩ := bs_b hf
      refine bs_cVv (ws1 := [(oh, .inr (1, [.ref oq_bodies, .int z8.2, .int o_kind, .int o_number, .int o_likely, .int o_weight])), (oq_bodies, .inl (cI, 16, .inl z8.1))]) ⟨hx, hb, hml, hown, hts⟩ (k_X1_enter l dC dI cI cZ cS cG oh oq_bodies z7.1 z7.2 o_kind o_number o_likely o_weight (21 : Int32) z8 hz8) (cwV 1 hts gX1_markOfPlain_X1_enter rfl rfl rfl (by decide +kernel) ⟨Nat.le_of_ble_eq_true rfl, Nat.le_of_ble_eq_true rfl⟩) hE hP hD hA hS [0, 1] rfl rfl 1 0 rfl rfl rfl rfl rfl rfl rfl hl.1 (Nat.le_of_ble_eq_true rfl) dX1_markOfPlain_34 (fun H locs hP hD hS => ?_)
      refine lv_aload_n hx hb dX1_markOfPlain_37 rfl (lv_at hl 0 rfl) ?_
      refine lv_bipush (v := 20) hx hb dX1_markOfPlain_38 (by decide) ?_
      obtain ⟨z9, hz9, hf⟩ := bs_b hf
      refine bs_cVv (ws1 := [(oh, .inr (1, [.ref oq_bodies, .int z9.2, .int o_kind, .int o_number, .int o_likely, .int o_weight])), (oq_bodies, .inl (cI, 16, .inl z9.1))]) ⟨hx, hb, hml, hown, hts⟩ (k_X1_enter l dC dI cI cZ cS cG oh oq_bodies z8.1 z8.2 o_kind o_number o_likely o_weight (20 : Int32) z9 hz9) (cwV 1 hts gX1_markOfPlain_X1_enter rfl rfl rfl (by decide +kernel) ⟨Nat.le_of_ble_eq_true rfl, Nat.le_of_ble_eq_true rfl⟩) hE hP hD hA hS [0, 1] rfl rfl 1 0 rfl rfl rfl rfl rfl rfl rfl hl.1 (Nat.le_of_ble_eq_true rfl) dX1_markOfPlain_40 (fun H locs hP hD hS => ?_)
      refine lv_aload_n hx hb dX1_markOfPlain_43 rfl (lv_at hl 0 rfl) ?_
      refine va_get (D := (dC, dI)) (ci := 1) (v := .int o_number) (C := RX1) (T := TX1) (N := 6) hx hb hts hin1 hown hK hP 0 rfl rfl 3 (by decide) k27 (fun _ h9 => h9) rfl dX1_markOfPlain_44 ?_
      refine lv_aload_n hx hb dX1_markOfPlain_47 rfl (lv_at hl 0 rfl) ?_
      refine va_get (D := (dC, dI)) (ci := 1) (v := .int o_weight) (C := RX1) (T := TX1) (N := 6) hx hb hts hin1 hown hK hP 0 rfl rfl 5 (by decide) k40 (fun _ h9 => h9) rfl dX1_markOfPlain_48 ?_
      refine lv_iadd hx hb dX1_markOfPlain_51 ?_
      refine lv_istore_n (lv' := [(1, .int (o_number + o_weight)), (0, .ref oh)]) hx hb dX1_markOfPlain_52 rfl hl (by decide) rfl (fun ls hl => ?_)
      refine lv_aload_n hx hb dX1_markOfPlain_53 rfl (lv_at hl 1 rfl) ?_
      refine va_get (D := (dC, dI)) (ci := 1) (v := .int o_kind) (C := RX1) (T := TX1) (N := 6) hx hb hts hin1 hown hK hP 0 rfl rfl 2 (by decide) k24 (fun _ h9 => h9) rfl dX1_markOfPlain_54 ?_
      refine lv_iconst (v := 2) hx hb dX1_markOfPlain_57 (by decide) ?_
      refine lv_icmp_ne (tgt := 65) hx hb dX1_markOfPlain_58 (by decide) (fun c10 => ?_) (fun c10 => ?_)
      · have hf := bs_f hf c10
        refine lv_aload_n hx hb dX1_markOfPlain_65 rfl (lv_at hl 1 rfl) ?_
        refine va_get (D := (dC, dI)) (ci := 1) (v := .int o_kind) (C := RX1) (T := TX1) (N := 6) hx hb hts hin1 hown hK hP 0 rfl rfl 2 (by decide) k24 (fun _ h9 => h9) rfl dX1_markOfPlain_66 ?_
        refine lv_iconst (v := 3) hx hb dX1_markOfPlain_69 (by decide) ?_
        refine lv_icmp_ne (tgt := 81) hx hb dX1_markOfPlain_70 (by decide) (fun c11 => ?_) (fun c11 => ?_)
        · have hf := bs_f hf c11
          refine lv_iload_n hx hb dX1_markOfPlain_81 rfl (lv_at hl 0 rfl) ?_
          obtain rfl := Option.some.inj hf
          exact hret H locs _ _ hP hS rfl dX1_markOfPlain_82
        · have hf := bs_t hf c11
          refine lv_iload_n hx hb dX1_markOfPlain_73 rfl (lv_at hl 0 rfl) ?_
          refine lv_sipush (v := 1000) hx hb dX1_markOfPlain_74 (by decide) ?_
          refine lv_isub hx hb dX1_markOfPlain_77 ?_
          refine lv_goto (tgt := 82) hx hb dX1_markOfPlain_78 (by decide) ?_
          obtain rfl := Option.some.inj hf
          exact hret H locs _ _ hP hS rfl dX1_markOfPlain_82
      · have hf := bs_t hf c10
        refine lv_iconst (v := 2) hx hb dX1_markOfPlain_61 (by decide) ?_
        refine lv_iload_n hx hb dX1_markOfPlain_62 rfl (lv_at hl 0 rfl) ?_
        refine lv_imul hx hb dX1_markOfPlain_63 ?_
        obtain rfl := Option.some.inj hf
        exact hret H locs _ _ hP hS rfl dX1_markOfPlain_64
  · have hf := bs_t hf c1
    refine lv_aload_n hx hb dX1_markOfPlain_8 rfl (lv_at hl 0 rfl) ?_
    refine lv_bipush (v := 24) hx hb dX1_markOfPlain_9 (by decide) ?_
    obtain ⟨z12, hz12, hf⟩ := bs_b hf
    refine bs_cVv (ws1 := [(oh, .inr (1, [.ref oq_bodies, .int z12.2, .int o_kind, .int o_number, .int o_likely, .int o_weight])), (oq_bodies, .inl (cI, 16, .inl z12.1))]) ⟨hx, hb, hml, hown, hts⟩ (k_X1_enter l dC dI cI cZ cS cG oh oq_bodies o_bodies o_begun o_kind o_number o_likely o_weight (24 : Int32) z12 hz12) (cwV 1 hts gX1_markOfPlain_X1_enter rfl rfl rfl (by decide +kernel) ⟨Nat.le_of_ble_eq_true rfl, Nat.le_of_ble_eq_true rfl⟩) hE hP hD hA hS [0, 1] rfl rfl 1 0 rfl rfl rfl rfl rfl rfl rfl hl.1 (Nat.le_of_ble_eq_true rfl) dX1_markOfPlain_11 (fun H locs hP hD hS => ?_)
    refine lv_goto (tgt := 31) hx hb dX1_markOfPlain_14 (by decide) ?_
    refine lv_aload_n hx hb dX1_markOfPlain_31 rfl (lv_at hl 0 rfl) ?_
    refine lv_bipush (v := 21) hx hb dX1_markOfPlain_32 (by decide) ?_
    obtain ⟨z13, hz13, hf⟩ := bs_b hf
    refine bs_cVv (ws1 := [(oh, .inr (1, [.ref oq_bodies, .int z13.2, .int o_kind, .int o_number, .int o_likely, .int o_weight])), (oq_bodies, .inl (cI, 16, .inl z13.1))]) ⟨hx, hb, hml, hown, hts⟩ (k_X1_enter l dC dI cI cZ cS cG oh oq_bodies z12.1 z12.2 o_kind o_number o_likely o_weight (21 : Int32) z13 hz13) (cwV 1 hts gX1_markOfPlain_X1_enter rfl rfl rfl (by decide +kernel) ⟨Nat.le_of_ble_eq_true rfl, Nat.le_of_ble_eq_true rfl⟩) hE hP hD hA hS [0, 1] rfl rfl 1 0 rfl rfl rfl rfl rfl rfl rfl hl.1 (Nat.le_of_ble_eq_true rfl) dX1_markOfPlain_34 (fun H locs hP hD hS => ?_)
    refine lv_aload_n hx hb dX1_markOfPlain_37 rfl (lv_at hl 0 rfl) ?_
    refine lv_bipush (v := 20) hx hb dX1_markOfPlain_38 (by decide) ?_
    obtain ⟨z14, hz14, hf⟩ := bs_b hf
    refine bs_cVv (ws1 := [(oh, .inr (1, [.ref oq_bodies, .int z14.2, .int o_kind, .int o_number, .int o_likely, .int o_weight])), (oq_bodies, .inl (cI, 16, .inl z14.1))]) ⟨hx, hb, hml, hown, hts⟩ (k_X1_enter l dC dI cI cZ cS cG oh oq_bodies z13.1 z13.2 o_kind o_number o_likely o_weight (20 : Int32) z14 hz14) (cwV 1 hts gX1_markOfPlain_X1_enter rfl rfl rfl (by decide +kernel) ⟨Nat.le_of_ble_eq_true rfl, Nat.le_of_ble_eq_true rfl⟩) hE hP hD hA hS [0, 1] rfl rfl 1 0 rfl rfl rfl rfl rfl rfl rfl hl.1 (Nat.le_of_ble_eq_true rfl) dX1_markOfPlain_40 (fun H locs hP hD hS => ?_)
    refine lv_aload_n hx hb dX1_markOfPlain_43 rfl (lv_at hl 0 rfl) ?_
    refine va_get (D := (dC, dI)) (ci := 1) (v := .int o_number) (C := RX1) (T := TX1) (N := 6) hx hb hts hin1 hown hK hP 0 rfl rfl 3 (by decide) k27 (fun _ h9 => h9) rfl dX1_markOfPlain_44 ?_
    refine lv_aload_n hx hb dX1_markOfPlain_47 rfl (lv_at hl 0 rfl) ?_
    refine va_get (D := (dC, dI)) (ci := 1) (v := .int o_weight) (C := RX1) (T := TX1) (N := 6) hx hb hts hin1 hown hK hP 0 rfl rfl 5 (by decide) k40 (fun _ h9 => h9) rfl dX1_markOfPlain_48 ?_
    refine lv_iadd hx hb dX1_markOfPlain_51 ?_
    refine lv_istore_n (lv' := [(1, .int (o_number + o_weight)), (0, .ref oh)]) hx hb dX1_markOfPlain_52 rfl hl (by decide) rfl (fun ls hl => ?_)
    refine lv_aload_n hx hb dX1_markOfPlain_53 rfl (lv_at hl 1 rfl) ?_
    refine va_get (D := (dC, dI)) (ci := 1) (v := .int o_kind) (C := RX1) (T := TX1) (N := 6) hx hb hts hin1 hown hK hP 0 rfl rfl 2 (by decide) k24 (fun _ h9 => h9) rfl dX1_markOfPlain_54 ?_
    refine lv_iconst (v := 2) hx hb dX1_markOfPlain_57 (by decide) ?_
    refine lv_icmp_ne (tgt := 65) hx hb dX1_markOfPlain_58 (by decide) (fun c15 => ?_) (fun c15 => ?_)
    · have hf := bs_f hf c15
      refine lv_aload_n hx hb dX1_markOfPlain_65 rfl (lv_at hl 1 rfl) ?_
      refine va_get (D := (dC, dI)) (ci := 1) (v := .int o_kind) (C := RX1) (T := TX1) (N := 6) hx hb hts hin1 hown hK hP 0 rfl rfl 2 (by decide) k24 (fun _ h9 => h9) rfl dX1_markOfPlain_66 ?_
      refine lv_iconst (v := 3) hx hb dX1_markOfPlain_69 (by decide) ?_
      refine lv_icmp_ne (tgt := 81) hx hb dX1_markOfPlain_70 (by decide) (fun c16 => ?_) (fun c16 => ?_)
      · have hf := bs_f hf c16
        refine lv_iload_n hx hb dX1_markOfPlain_81 rfl (lv_at hl 0 rfl) ?_
        obtain rfl := Option.some.inj hf
        exact hret H locs _ _ hP hS rfl dX1_markOfPlain_82
      · have hf := bs_t hf c16
        refine lv_iload_n hx hb dX1_markOfPlain_73 rfl (lv_at hl 0 rfl) ?_
        refine lv_sipush (v := 1000) hx hb dX1_markOfPlain_74 (by decide) ?_
        refine lv_isub hx hb dX1_markOfPlain_77 ?_
        refine lv_goto (tgt := 82) hx hb dX1_markOfPlain_78 (by decide) ?_
        obtain rfl := Option.some.inj hf
        exact hret H locs _ _ hP hS rfl dX1_markOfPlain_82
    · have hf := bs_t hf c15
      refine lv_iconst (v := 2) hx hb dX1_markOfPlain_61 (by decide) ?_
      refine lv_iload_n hx hb dX1_markOfPlain_62 rfl (lv_at hl 0 rfl) ?_
      refine lv_imul hx hb dX1_markOfPlain_63 ?_
      obtain rfl := Option.some.inj hf
      exact hret H locs _ _ hP hS rfl dX1_markOfPlain_64
set_option maxHeartbeats 4000000 in
set_option maxRecDepth 100000 in
theorem k_X1_sizeOfPlain (l : Launch) (dC : Nat → ClassId) (dI : Nat → Nat → Nat) (cI cZ cS cG : ClassId) (oh : Nat) (oq_bodies : Nat) (o_bodies : Nat → Int32) (o_begun : Int32) (o_kind : Int32) (o_number : Int32) (o_likely : Int32) (o_weight : Int32) (out : Int32 × (Nat → Int32) × Int32) (hf : f_X1_sizeOfPlain o_bodies o_begun o_kind o_number o_likely o_weight = some out) : bs_C l dC dI cI cZ cS cG yX1_sizeOfPlain wsX1_sizeOfPlain ({ frames := 2, cells := 0, slots := 0, locals := 42 } : Room) [.ref oh] ([(oh, .inr (1, [.ref oq_bodies, .int o_begun, .int o_kind, .int o_number, .int o_likely, .int o_weight])), (oq_bodies, .inl (cI, 16, .inl o_bodies))]) out.1 ([(oh, .inr (1, [.ref oq_bodies, .int out.2.2, .int o_kind, .int o_number, .int o_likely, .int o_weight])), (oq_bodies, .inl (cI, 16, .inl out.2.1))]) := by
  refine bs_ofI (cc := cX1_sizeOfPlain) (maxL := 2) (by decide) rfl (Nat.le_of_ble_eq_true rfl) ?_
  intro p e s m below meth c A Q hx hb hown hml hts hE H locs hP hD hA hS ls hl hret
  have hK := hE.1
  have hl : lv_has ls 2 [(0, .ref oh)] := hl
  have hin1 : ∀ w ∈ u_ws RX1 TX1 6, w ∈ wsX1_sizeOfPlain := by decide +kernel
  have k24 := hts (.fieldLink RX1 24 "PromiseScales$Asks" "kind" "I") (by decide +kernel)
  have k33 := hts (.fieldLink RX1 33 "PromiseScales$Asks" "likely" "I") (by decide +kernel)
  unfold f_X1_sizeOfPlain at hf
  refine lv_aload_n hx hb dX1_sizeOfPlain_0 rfl (lv_at hl 0 rfl) ?_
  refine va_get (D := (dC, dI)) (ci := 1) (v := .int o_kind) (C := RX1) (T := TX1) (N := 6) hx hb hts hin1 hown hK hP 0 rfl rfl 2 (by decide) k24 (fun _ h9 => h9) rfl dX1_sizeOfPlain_1 ?_
  refine lv_iconst (v := 2) hx hb dX1_sizeOfPlain_4 (by decide) ?_
  refine lv_icmp_ne (tgt := 14) hx hb dX1_sizeOfPlain_5 (by decide) (fun c1 => ?_) (fun c1 => ?_)
  · have hf := bs_f hf c1
    refine lv_aload_n hx hb dX1_sizeOfPlain_14 rfl (lv_at hl 0 rfl) ?_
    refine lv_bipush (v := 11) hx hb dX1_sizeOfPlain_15 (by decide) ?_
    obtain ⟨z2, hz2, hf⟩ := bs_b hf
    refine bs_cVv (ws1 := [(oh, .inr (1, [.ref oq_bodies, .int z2.2, .int o_kind, .int o_number, .int o_likely, .int o_weight])), (oq_bodies, .inl (cI, 16, .inl z2.1))]) ⟨hx, hb, hml, hown, hts⟩ (k_X1_enter l dC dI cI cZ cS cG oh oq_bodies o_bodies o_begun o_kind o_number o_likely o_weight (11 : Int32) z2 hz2) (cwV 1 hts gX1_sizeOfPlain_X1_enter rfl rfl rfl (by decide +kernel) ⟨Nat.le_of_ble_eq_true rfl, Nat.le_of_ble_eq_true rfl⟩) hE hP hD hA hS [0, 1] rfl rfl 1 0 rfl rfl rfl rfl rfl rfl rfl hl.1 (Nat.le_of_ble_eq_true rfl) dX1_sizeOfPlain_17 (fun H locs hP hD hS => ?_)
    refine lv_aload_n hx hb dX1_sizeOfPlain_20 rfl (lv_at hl 0 rfl) ?_
    refine lv_bipush (v := 10) hx hb dX1_sizeOfPlain_21 (by decide) ?_
    obtain ⟨z3, hz3, hf⟩ := bs_b hf
    refine bs_cVv (ws1 := [(oh, .inr (1, [.ref oq_bodies, .int z3.2, .int o_kind, .int o_number, .int o_likely, .int o_weight])), (oq_bodies, .inl (cI, 16, .inl z3.1))]) ⟨hx, hb, hml, hown, hts⟩ (k_X1_enter l dC dI cI cZ cS cG oh oq_bodies z2.1 z2.2 o_kind o_number o_likely o_weight (10 : Int32) z3 hz3) (cwV 1 hts gX1_sizeOfPlain_X1_enter rfl rfl rfl (by decide +kernel) ⟨Nat.le_of_ble_eq_true rfl, Nat.le_of_ble_eq_true rfl⟩) hE hP hD hA hS [0, 1] rfl rfl 1 0 rfl rfl rfl rfl rfl rfl rfl hl.1 (Nat.le_of_ble_eq_true rfl) dX1_sizeOfPlain_23 (fun H locs hP hD hS => ?_)
    refine lv_aload_n hx hb dX1_sizeOfPlain_26 rfl (lv_at hl 0 rfl) ?_
    refine va_get (D := (dC, dI)) (ci := 1) (v := .int o_likely) (C := RX1) (T := TX1) (N := 6) hx hb hts hin1 hown hK hP 0 rfl rfl 4 (by decide) k33 (fun _ h9 => h9) rfl dX1_sizeOfPlain_27 ?_
    refine lv_aload_n hx hb dX1_sizeOfPlain_30 rfl (lv_at hl 0 rfl) ?_
    obtain ⟨z4, hz4, hf⟩ := bs_b hf
    refine bs_cVi (ws1 := [(oh, .inr (1, [.ref oq_bodies, .int z4.2.2, .int o_kind, .int o_number, .int o_likely, .int o_weight])), (oq_bodies, .inl (cI, 16, .inl z4.2.1))]) ⟨hx, hb, hml, hown, hts⟩ (k_X1_markOfPlain l dC dI cI cZ cS cG oh oq_bodies z3.1 z3.2 o_kind o_number o_likely o_weight z4 hz4) (cwV 0 hts gX1_sizeOfPlain_X1_markOfPlain rfl rfl rfl (by decide +kernel) ⟨Nat.le_of_ble_eq_true rfl, Nat.le_of_ble_eq_true rfl⟩) hE hP hD hA hS [0, 1] rfl rfl 1 0 rfl rfl rfl rfl rfl rfl rfl hl.1 (Nat.le_of_ble_eq_true rfl) dX1_sizeOfPlain_31 (fun H locs hP hD hS => ?_)
    refine lv_iadd hx hb dX1_sizeOfPlain_34 ?_
    refine lv_istore_n (lv' := [(1, .int (o_likely + z4.1)), (0, .ref oh)]) hx hb dX1_sizeOfPlain_35 rfl hl (by decide) rfl (fun ls hl => ?_)
    refine lv_aload_n hx hb dX1_sizeOfPlain_36 rfl (lv_at hl 1 rfl) ?_
    refine va_get (D := (dC, dI)) (ci := 1) (v := .int o_kind) (C := RX1) (T := TX1) (N := 6) hx hb hts hin1 hown hK hP 0 rfl rfl 2 (by decide) k24 (fun _ h9 => h9) rfl dX1_sizeOfPlain_37 ?_
    refine lv_iconst (v := 2) hx hb dX1_sizeOfPlain_40 (by decide) ?_
    refine lv_icmp_ne (tgt := 49) hx hb dX1_sizeOfPlain_41 (by decide) (fun c5 => ?_) (fun c5 => ?_)
    · have hf := bs_f hf c5
      refine lv_iload_n hx hb dX1_sizeOfPlain_49 rfl (lv_at hl 0 rfl) ?_
      obtain rfl := Option.some.inj hf
      exact hret H locs _ _ hP hS rfl dX1_sizeOfPlain_50
    · have hf := bs_t hf c5
      refine lv_iload_n hx hb dX1_sizeOfPlain_44 rfl (lv_at hl 0 rfl) ?_
      refine lv_ineg hx hb dX1_sizeOfPlain_45 ?_
      refine lv_goto (tgt := 50) hx hb dX1_sizeOfPlain_46 (by decide) ?_
      obtain rfl := Option.some.inj hf
      exact hret H locs _ _ hP hS rfl dX1_sizeOfPlain_50
  · have hf := bs_t hf c1
    refine lv_aload_n hx hb dX1_sizeOfPlain_8 rfl (lv_at hl 0 rfl) ?_
    refine lv_bipush (v := 12) hx hb dX1_sizeOfPlain_9 (by decide) ?_
    obtain ⟨z6, hz6, hf⟩ := bs_b hf
    refine bs_cVv (ws1 := [(oh, .inr (1, [.ref oq_bodies, .int z6.2, .int o_kind, .int o_number, .int o_likely, .int o_weight])), (oq_bodies, .inl (cI, 16, .inl z6.1))]) ⟨hx, hb, hml, hown, hts⟩ (k_X1_enter l dC dI cI cZ cS cG oh oq_bodies o_bodies o_begun o_kind o_number o_likely o_weight (12 : Int32) z6 hz6) (cwV 1 hts gX1_sizeOfPlain_X1_enter rfl rfl rfl (by decide +kernel) ⟨Nat.le_of_ble_eq_true rfl, Nat.le_of_ble_eq_true rfl⟩) hE hP hD hA hS [0, 1] rfl rfl 1 0 rfl rfl rfl rfl rfl rfl rfl hl.1 (Nat.le_of_ble_eq_true rfl) dX1_sizeOfPlain_11 (fun H locs hP hD hS => ?_)
    refine lv_aload_n hx hb dX1_sizeOfPlain_14 rfl (lv_at hl 0 rfl) ?_
    refine lv_bipush (v := 11) hx hb dX1_sizeOfPlain_15 (by decide) ?_
    obtain ⟨z7, hz7, hf⟩ := bs_b hf
    refine bs_cVv (ws1 := [(oh, .inr (1, [.ref oq_bodies, .int z7.2, .int o_kind, .int o_number, .int o_likely, .int o_weight])), (oq_bodies, .inl (cI, 16, .inl z7.1))]) ⟨hx, hb, hml, hown, hts⟩ (k_X1_enter l dC dI cI cZ cS cG oh oq_bodies z6.1 z6.2 o_kind o_number o_likely o_weight (11 : Int32) z7 hz7) (cwV 1 hts gX1_sizeOfPlain_X1_enter rfl rfl rfl (by decide +kernel) ⟨Nat.le_of_ble_eq_true rfl, Nat.le_of_ble_eq_true rfl⟩) hE hP hD hA hS [0, 1] rfl rfl 1 0 rfl rfl rfl rfl rfl rfl rfl hl.1 (Nat.le_of_ble_eq_true rfl) dX1_sizeOfPlain_17 (fun H locs hP hD hS => ?_)
    refine lv_aload_n hx hb dX1_sizeOfPlain_20 rfl (lv_at hl 0 rfl) ?_
    refine lv_bipush (v := 10) hx hb dX1_sizeOfPlain_21 (by decide) ?_
    obtain ⟨z8, hz8, hf⟩ := bs_b hf
    refine bs_cVv (ws1 := [(oh, .inr (1, [.ref oq_bodies, .int z8.2, .int o_kind, .int o_number, .int o_likely, .int o_weight])), (oq_bodies, .inl (cI, 16, .inl z8.1))]) ⟨hx, hb, hml, hown, hts⟩ (k_X1_enter l dC dI cI cZ cS cG oh oq_bodies z7.1 z7.2 o_kind o_number o_likely o_weight (10 : Int32) z8 hz8) (cwV 1 hts gX1_sizeOfPlain_X1_enter rfl rfl rfl (by decide +kernel) ⟨Nat.le_of_ble_eq_true rfl, Nat.le_of_ble_eq_true rfl⟩) hE hP hD hA hS [0, 1] rfl rfl 1 0 rfl rfl rfl rfl rfl rfl rfl hl.1 (Nat.le_of_ble_eq_true rfl) dX1_sizeOfPlain_23 (fun H locs hP hD hS => ?_)
    refine lv_aload_n hx hb dX1_sizeOfPlain_26 rfl (lv_at hl 0 rfl) ?_
    refine va_get (D := (dC, dI)) (ci := 1) (v := .int o_likely) (C := RX1) (T := TX1) (N := 6) hx hb hts hin1 hown hK hP 0 rfl rfl 4 (by decide) k33 (fun _ h9 => h9) rfl dX1_sizeOfPlain_27 ?_
    refine lv_aload_n hx hb dX1_sizeOfPlain_30 rfl (lv_at hl 0 rfl) ?_
    obtain ⟨z9, hz9, hf⟩ := bs_b hf
    refine bs_cVi (ws1 := [(oh, .inr (1, [.ref oq_bodies, .int z9.2.2, .int o_kind, .int o_number, .int o_likely, .int o_weight])), (oq_bodies, .inl (cI, 16, .inl z9.2.1))]) ⟨hx, hb, hml, hown, hts⟩ (k_X1_markOfPlain l dC dI cI cZ cS cG oh oq_bodies z8.1 z8.2 o_kind o_number o_likely o_weight z9 hz9) (cwV 0 hts gX1_sizeOfPlain_X1_markOfPlain rfl rfl rfl (by decide +kernel) ⟨Nat.le_of_ble_eq_true rfl, Nat.le_of_ble_eq_true rfl⟩) hE hP hD hA hS [0, 1] rfl rfl 1 0 rfl rfl rfl rfl rfl rfl rfl hl.1 (Nat.le_of_ble_eq_true rfl) dX1_sizeOfPlain_31 (fun H locs hP hD hS => ?_)
    refine lv_iadd hx hb dX1_sizeOfPlain_34 ?_
    refine lv_istore_n (lv' := [(1, .int (o_likely + z9.1)), (0, .ref oh)]) hx hb dX1_sizeOfPlain_35 rfl hl (by decide) rfl (fun ls hl => ?_)
    refine lv_aload_n hx hb dX1_sizeOfPlain_36 rfl (lv_at hl 1 rfl) ?_
    refine va_get (D := (dC, dI)) (ci := 1) (v := .int o_kind) (C := RX1) (T := TX1) (N := 6) hx hb hts hin1 hown hK hP 0 rfl rfl 2 (by decide) k24 (fun _ h9 => h9) rfl dX1_sizeOfPlain_37 ?_
    refine lv_iconst (v := 2) hx hb dX1_sizeOfPlain_40 (by decide) ?_
    refine lv_icmp_ne (tgt := 49) hx hb dX1_sizeOfPlain_41 (by decide) (fun c10 => ?_) (fun c10 => ?_)
    · have hf := bs_f hf c10
      refine lv_iload_n hx hb dX1_sizeOfPlain_49 rfl (lv_at hl 0 rfl) ?_
      obtain rfl := Option.some.inj hf
      exact hret H locs _ _ hP hS rfl dX1_sizeOfPlain_50
    · have hf := bs_t hf c10
      refine lv_iload_n hx hb dX1_sizeOfPlain_44 rfl (lv_at hl 0 rfl) ?_
      refine lv_ineg hx hb dX1_sizeOfPlain_45 ?_
      refine lv_goto (tgt := 50) hx hb dX1_sizeOfPlain_46 (by decide) ?_
      obtain rfl := Option.some.inj hf
      exact hret H locs _ _ hP hS rfl dX1_sizeOfPlain_50
set_option maxHeartbeats 4000000 in
set_option maxRecDepth 100000 in
theorem k_X1_size (l : Launch) (dC : Nat → ClassId) (dI : Nat → Nat → Nat) (cI cZ cS cG : ClassId) (oh : Nat) (oq_bodies : Nat) (o_bodies : Nat → Int32) (o_begun : Int32) (o_kind : Int32) (o_number : Int32) (o_likely : Int32) (o_weight : Int32) (out : Int32 × (Nat → Int32) × Int32) (hf : f_X1_size o_bodies o_begun o_kind o_number o_likely o_weight = some out) : bs_C l dC dI cI cZ cS cG yX1_size wsX1_size ({ frames := 3, cells := 0, slots := 0, locals := 63 } : Room) [.ref oh] ([(oh, .inr (1, [.ref oq_bodies, .int o_begun, .int o_kind, .int o_number, .int o_likely, .int o_weight])), (oq_bodies, .inl (cI, 16, .inl o_bodies))]) out.1 ([(oh, .inr (1, [.ref oq_bodies, .int out.2.2, .int o_kind, .int o_number, .int o_likely, .int o_weight])), (oq_bodies, .inl (cI, 16, .inl out.2.1))]) := by
  refine bs_ofI (cc := cX1_size) (maxL := 1) (by decide) rfl (Nat.le_of_ble_eq_true rfl) ?_
  intro p e s m below meth c A Q hx hb hown hml hts hE H locs hP hD hA hS ls hl hret
  have hK := hE.1
  have hl : lv_has ls 1 [(0, .ref oh)] := hl
  have hin1 : ∀ w ∈ u_ws RX1 TX1 6, w ∈ wsX1_size := by decide +kernel
  have k24 := hts (.fieldLink RX1 24 "PromiseScales$Asks" "kind" "I") (by decide +kernel)
  unfold f_X1_size at hf
  refine lv_aload_n hx hb dX1_size_0 rfl (lv_at hl 0 rfl) ?_
  refine va_get (D := (dC, dI)) (ci := 1) (v := .int o_kind) (C := RX1) (T := TX1) (N := 6) hx hb hts hin1 hown hK hP 0 rfl rfl 2 (by decide) k24 (fun _ h9 => h9) rfl dX1_size_1 ?_
  refine lv_iconst (v := 4) hx hb dX1_size_4 (by decide) ?_
  obtain ⟨z1, hz1, hf⟩ := bs_b hf
  refine bs_cSn ⟨hx, hb, hml, hown, hts⟩ (k_X6_isOfKind l dC dI cI cZ cS cG o_kind (4 : Int32) z1 hz1) ⟨va_cnB 2 hts gX1_size_X6_isOfKind_n44 rfl rfl rfl hE.2.2.2 (hts (.initialized RX6) (by decide +kernel)) (by decide +kernel) ⟨Nat.le_of_ble_eq_true rfl, Nat.le_of_ble_eq_true rfl⟩, (hts (.static yX6_isOfKind) (by decide +kernel)), trivial⟩ hE hP hD hA hS rfl rfl hl.1 (Nat.le_of_ble_eq_true rfl) dX1_size_5 (fun H locs hP hS => ?_)
  refine lv_if_eq (tgt := 18) hx hb dX1_size_8 (by decide) (fun c2 => ?_) (fun c2 => ?_)
  · have hf := bs_t hf c2
    refine lv_aload_n hx hb dX1_size_18 rfl (lv_at hl 0 rfl) ?_
    obtain ⟨z3, hz3, hf⟩ := bs_b hf
    refine bs_cVi (ws1 := [(oh, .inr (1, [.ref oq_bodies, .int z3.2.2, .int o_kind, .int o_number, .int o_likely, .int o_weight])), (oq_bodies, .inl (cI, 16, .inl z3.2.1))]) ⟨hx, hb, hml, hown, hts⟩ (k_X1_sizeOfPlain l dC dI cI cZ cS cG oh oq_bodies o_bodies o_begun o_kind o_number o_likely o_weight z3 hz3) (cwV 0 hts gX1_size_X1_sizeOfPlain rfl rfl rfl (by decide +kernel) ⟨Nat.le_of_ble_eq_true rfl, Nat.le_of_ble_eq_true rfl⟩) hE hP hD hA hS [0, 1] rfl rfl 1 0 rfl rfl rfl rfl rfl rfl rfl hl.1 (Nat.le_of_ble_eq_true rfl) dX1_size_19 (fun H locs hP hD hS => ?_)
    obtain rfl := Option.some.inj hf
    exact hret H locs _ _ hP hS rfl dX1_size_22
  · have hf := bs_f hf c2
    refine lv_aload_n hx hb dX1_size_11 rfl (lv_at hl 0 rfl) ?_
    obtain ⟨z4, hz4, hf⟩ := bs_b hf
    refine bs_cVi (ws1 := [(oh, .inr (1, [.ref oq_bodies, .int z4.2.2, .int o_kind, .int o_number, .int o_likely, .int o_weight])), (oq_bodies, .inl (cI, 16, .inl z4.2.1))]) ⟨hx, hb, hml, hown, hts⟩ (k_X1_sizeOfOath l dC dI cI cZ cS cG oh oq_bodies o_bodies o_begun o_kind o_number o_likely o_weight z4 hz4) (cwV 0 hts gX1_size_X1_sizeOfOath rfl rfl rfl (by decide +kernel) ⟨Nat.le_of_ble_eq_true rfl, Nat.le_of_ble_eq_true rfl⟩) hE hP hD hA hS [0, 1] rfl rfl 1 0 rfl rfl rfl rfl rfl rfl rfl hl.1 (Nat.le_of_ble_eq_true rfl) dX1_size_12 (fun H locs hP hD hS => ?_)
    refine lv_goto (tgt := 22) hx hb dX1_size_15 (by decide) ?_
    obtain rfl := Option.some.inj hf
    exact hret H locs _ _ hP hS rfl dX1_size_22
set_option maxHeartbeats 4000000 in
set_option maxRecDepth 100000 in
theorem k_X1_markOfOath (l : Launch) (dC : Nat → ClassId) (dI : Nat → Nat → Nat) (cI cZ cS cG : ClassId) (oh : Nat) (oq_bodies : Nat) (o_bodies : Nat → Int32) (o_begun : Int32) (o_kind : Int32) (o_number : Int32) (o_likely : Int32) (o_weight : Int32) (out : Int32 × (Nat → Int32) × Int32) (hf : f_X1_markOfOath o_bodies o_begun o_kind o_number o_likely = some out) : bs_C l dC dI cI cZ cS cG yX1_markOfOath wsX1_markOfOath ({ frames := 2, cells := 0, slots := 0, locals := 42 } : Room) [.ref oh] ([(oh, .inr (1, [.ref oq_bodies, .int o_begun, .int o_kind, .int o_number, .int o_likely, .int o_weight])), (oq_bodies, .inl (cI, 16, .inl o_bodies))]) out.1 ([(oh, .inr (1, [.ref oq_bodies, .int out.2.2, .int o_kind, .int o_number, .int o_likely, .int o_weight])), (oq_bodies, .inl (cI, 16, .inl out.2.1))]) := by
  refine bs_ofI (cc := cX1_markOfOath) (maxL := 1) (by decide) rfl (Nat.le_of_ble_eq_true rfl) ?_
  intro p e s m below meth c A Q hx hb hown hml hts hE H locs hP hD hA hS ls hl hret
  have hK := hE.1
  have hl : lv_has ls 1 [(0, .ref oh)] := hl
  have hin1 : ∀ w ∈ u_ws RX1 TX1 6, w ∈ wsX1_markOfOath := by decide +kernel
  have k27 := hts (.fieldLink RX1 27 "PromiseScales$Asks" "number" "I") (by decide +kernel)
  unfold f_X1_markOfOath at hf
  refine lv_aload_n hx hb dX1_markOfOath_0 rfl (lv_at hl 0 rfl) ?_
  refine lv_bipush (v := 23) hx hb dX1_markOfOath_1 (by decide) ?_
  obtain ⟨z1, hz1, hf⟩ := bs_b hf
  refine bs_cVv (ws1 := [(oh, .inr (1, [.ref oq_bodies, .int z1.2, .int o_kind, .int o_number, .int o_likely, .int o_weight])), (oq_bodies, .inl (cI, 16, .inl z1.1))]) ⟨hx, hb, hml, hown, hts⟩ (k_X1_enter l dC dI cI cZ cS cG oh oq_bodies o_bodies o_begun o_kind o_number o_likely o_weight (23 : Int32) z1 hz1) (cwV 1 hts gX1_markOfOath_X1_enter rfl rfl rfl (by decide +kernel) ⟨Nat.le_of_ble_eq_true rfl, Nat.le_of_ble_eq_true rfl⟩) hE hP hD hA hS [0, 1] rfl rfl 1 0 rfl rfl rfl rfl rfl rfl rfl hl.1 (Nat.le_of_ble_eq_true rfl) dX1_markOfOath_3 (fun H locs hP hD hS => ?_)
  refine lv_aload_n hx hb dX1_markOfOath_6 rfl (lv_at hl 0 rfl) ?_
  refine lv_bipush (v := 20) hx hb dX1_markOfOath_7 (by decide) ?_
  obtain ⟨z2, hz2, hf⟩ := bs_b hf
  refine bs_cVv (ws1 := [(oh, .inr (1, [.ref oq_bodies, .int z2.2, .int o_kind, .int o_number, .int o_likely, .int o_weight])), (oq_bodies, .inl (cI, 16, .inl z2.1))]) ⟨hx, hb, hml, hown, hts⟩ (k_X1_enter l dC dI cI cZ cS cG oh oq_bodies z1.1 z1.2 o_kind o_number o_likely o_weight (20 : Int32) z2 hz2) (cwV 1 hts gX1_markOfOath_X1_enter rfl rfl rfl (by decide +kernel) ⟨Nat.le_of_ble_eq_true rfl, Nat.le_of_ble_eq_true rfl⟩) hE hP hD hA hS [0, 1] rfl rfl 1 0 rfl rfl rfl rfl rfl rfl rfl hl.1 (Nat.le_of_ble_eq_true rfl) dX1_markOfOath_9 (fun H locs hP hD hS => ?_)
  refine lv_aload_n hx hb dX1_markOfOath_12 rfl (lv_at hl 0 rfl) ?_
  refine va_get (D := (dC, dI)) (ci := 1) (v := .int o_number) (C := RX1) (T := TX1) (N := 6) hx hb hts hin1 hown hK hP 0 rfl rfl 3 (by decide) k27 (fun _ h9 => h9) rfl dX1_markOfOath_13 ?_
  refine lv_aload_n hx hb dX1_markOfOath_16 rfl (lv_at hl 0 rfl) ?_
  obtain ⟨z3, hz3, hf⟩ := bs_b hf
  refine bs_cVi (ws1 := [(oh, .inr (1, [.ref oq_bodies, .int z3.2.2, .int o_kind, .int o_number, .int o_likely, .int o_weight])), (oq_bodies, .inl (cI, 16, .inl z3.2.1))]) ⟨hx, hb, hml, hown, hts⟩ (k_X1_sizeOfOath l dC dI cI cZ cS cG oh oq_bodies z2.1 z2.2 o_kind o_number o_likely o_weight z3 hz3) (cwV 0 hts gX1_markOfOath_X1_sizeOfOath rfl rfl rfl (by decide +kernel) ⟨Nat.le_of_ble_eq_true rfl, Nat.le_of_ble_eq_true rfl⟩) hE hP hD hA hS [0, 1] rfl rfl 1 0 rfl rfl rfl rfl rfl rfl rfl hl.1 (Nat.le_of_ble_eq_true rfl) dX1_markOfOath_17 (fun H locs hP hD hS => ?_)
  refine lv_isub hx hb dX1_markOfOath_20 ?_
  obtain rfl := Option.some.inj hf
  exact hret H locs _ _ hP hS rfl dX1_markOfOath_21
set_option maxHeartbeats 4000000 in
set_option maxRecDepth 100000 in
theorem k_X1_mark (l : Launch) (dC : Nat → ClassId) (dI : Nat → Nat → Nat) (cI cZ cS cG : ClassId) (oh : Nat) (oq_bodies : Nat) (o_bodies : Nat → Int32) (o_begun : Int32) (o_kind : Int32) (o_number : Int32) (o_likely : Int32) (o_weight : Int32) (out : Int32 × (Nat → Int32) × Int32) (hf : f_X1_mark o_bodies o_begun o_kind o_number o_likely o_weight = some out) : bs_C l dC dI cI cZ cS cG yX1_mark wsX1_mark ({ frames := 3, cells := 0, slots := 0, locals := 62 } : Room) [.ref oh] ([(oh, .inr (1, [.ref oq_bodies, .int o_begun, .int o_kind, .int o_number, .int o_likely, .int o_weight])), (oq_bodies, .inl (cI, 16, .inl o_bodies))]) out.1 ([(oh, .inr (1, [.ref oq_bodies, .int out.2.2, .int o_kind, .int o_number, .int o_likely, .int o_weight])), (oq_bodies, .inl (cI, 16, .inl out.2.1))]) := by
  refine bs_ofI (cc := cX1_mark) (maxL := 1) (by decide) rfl (Nat.le_of_ble_eq_true rfl) ?_
  intro p e s m below meth c A Q hx hb hown hml hts hE H locs hP hD hA hS ls hl hret
  have hK := hE.1
  have hl : lv_has ls 1 [(0, .ref oh)] := hl
  have hin1 : ∀ w ∈ u_ws RX1 TX1 6, w ∈ wsX1_mark := by decide +kernel
  have k24 := hts (.fieldLink RX1 24 "PromiseScales$Asks" "kind" "I") (by decide +kernel)
  unfold f_X1_mark at hf
  refine lv_aload_n hx hb dX1_mark_0 rfl (lv_at hl 0 rfl) ?_
  refine va_get (D := (dC, dI)) (ci := 1) (v := .int o_kind) (C := RX1) (T := TX1) (N := 6) hx hb hts hin1 hown hK hP 0 rfl rfl 2 (by decide) k24 (fun _ h9 => h9) rfl dX1_mark_1 ?_
  refine lv_iconst (v := 4) hx hb dX1_mark_4 (by decide) ?_
  obtain ⟨z1, hz1, hf⟩ := bs_b hf
  refine bs_cSn ⟨hx, hb, hml, hown, hts⟩ (k_X6_isOfKind l dC dI cI cZ cS cG o_kind (4 : Int32) z1 hz1) ⟨va_cnB 2 hts gX1_mark_X6_isOfKind_n44 rfl rfl rfl hE.2.2.2 (hts (.initialized RX6) (by decide +kernel)) (by decide +kernel) ⟨Nat.le_of_ble_eq_true rfl, Nat.le_of_ble_eq_true rfl⟩, (hts (.static yX6_isOfKind) (by decide +kernel)), trivial⟩ hE hP hD hA hS rfl rfl hl.1 (Nat.le_of_ble_eq_true rfl) dX1_mark_5 (fun H locs hP hS => ?_)
  refine lv_if_eq (tgt := 18) hx hb dX1_mark_8 (by decide) (fun c2 => ?_) (fun c2 => ?_)
  · have hf := bs_t hf c2
    refine lv_aload_n hx hb dX1_mark_18 rfl (lv_at hl 0 rfl) ?_
    obtain ⟨z3, hz3, hf⟩ := bs_b hf
    refine bs_cVi (ws1 := [(oh, .inr (1, [.ref oq_bodies, .int z3.2.2, .int o_kind, .int o_number, .int o_likely, .int o_weight])), (oq_bodies, .inl (cI, 16, .inl z3.2.1))]) ⟨hx, hb, hml, hown, hts⟩ (k_X1_markOfPlain l dC dI cI cZ cS cG oh oq_bodies o_bodies o_begun o_kind o_number o_likely o_weight z3 hz3) (cwV 0 hts gX1_mark_X1_markOfPlain rfl rfl rfl (by decide +kernel) ⟨Nat.le_of_ble_eq_true rfl, Nat.le_of_ble_eq_true rfl⟩) hE hP hD hA hS [0, 1] rfl rfl 1 0 rfl rfl rfl rfl rfl rfl rfl hl.1 (Nat.le_of_ble_eq_true rfl) dX1_mark_19 (fun H locs hP hD hS => ?_)
    obtain rfl := Option.some.inj hf
    exact hret H locs _ _ hP hS rfl dX1_mark_22
  · have hf := bs_f hf c2
    refine lv_aload_n hx hb dX1_mark_11 rfl (lv_at hl 0 rfl) ?_
    obtain ⟨z4, hz4, hf⟩ := bs_b hf
    refine bs_cVi (ws1 := [(oh, .inr (1, [.ref oq_bodies, .int z4.2.2, .int o_kind, .int o_number, .int o_likely, .int o_weight])), (oq_bodies, .inl (cI, 16, .inl z4.2.1))]) ⟨hx, hb, hml, hown, hts⟩ (k_X1_markOfOath l dC dI cI cZ cS cG oh oq_bodies o_bodies o_begun o_kind o_number o_likely o_weight z4 hz4) (cwV 0 hts gX1_mark_X1_markOfOath rfl rfl rfl (by decide +kernel) ⟨Nat.le_of_ble_eq_true rfl, Nat.le_of_ble_eq_true rfl⟩) hE hP hD hA hS [0, 1] rfl rfl 1 0 rfl rfl rfl rfl rfl rfl rfl hl.1 (Nat.le_of_ble_eq_true rfl) dX1_mark_12 (fun H locs hP hD hS => ?_)
    refine lv_goto (tgt := 22) hx hb dX1_mark_15 (by decide) ?_
    obtain rfl := Option.some.inj hf
    exact hret H locs _ _ hP hS rfl dX1_mark_22
set_option maxHeartbeats 4000000 in
set_option maxRecDepth 100000 in
theorem k_X4_doClash (l : Launch) (dC : Nat → ClassId) (dI : Nat → Nat → Nat) (cI cZ cS cG : ClassId) (oh : Nat) (oq_keeping : Nat) (oq_giverOf : Nat) (oq_deedOf : Nat) (oq_dayOf : Nat) (oq_likelyOf : Nat) (oq_kindOf : Nat) (oq_settledOf : Nat) (o_told : Int32) (o_wax : Int32) (o_stick : Int32) (o_givers : Int32) (o_promises : Int32) (o_pan : Int32) (o_keeping : Nat → Int32) (o_giverOf : Nat → Int32) (o_deedOf : Nat → Int32) (o_dayOf : Nat → Int32) (o_likelyOf : Nat → Int32) (o_kindOf : Nat → Int32) (o_settledOf : Nat → Int32) (p1 : Int32) (p2 : Int32) (out : Int32) (hf : f_X4_doClash o_giverOf o_deedOf o_dayOf o_settledOf p1 p2 = some out) : bs_C l dC dI cI cZ cS cG yX4_doClash wsX4_doClash ({ frames := 1, cells := 0, slots := 0, locals := 21 } : Room) [.ref oh, .int p1, .int p2] ([(oh, .inr (4, [.int o_told, .int o_wax, .int o_stick, .int o_givers, .int o_promises, .int o_pan, .ref oq_keeping, .ref oq_giverOf, .ref oq_deedOf, .ref oq_dayOf, .ref oq_likelyOf, .ref oq_kindOf, .ref oq_settledOf])), (oq_keeping, .inl (cI, 4, .inl o_keeping)), (oq_giverOf, .inl (cI, 8, .inl o_giverOf)), (oq_deedOf, .inl (cI, 8, .inl o_deedOf)), (oq_dayOf, .inl (cI, 8, .inl o_dayOf)), (oq_likelyOf, .inl (cI, 8, .inl o_likelyOf)), (oq_kindOf, .inl (cI, 8, .inl o_kindOf)), (oq_settledOf, .inl (cI, 8, .inl o_settledOf))]) out ([(oh, .inr (4, [.int o_told, .int o_wax, .int o_stick, .int o_givers, .int o_promises, .int o_pan, .ref oq_keeping, .ref oq_giverOf, .ref oq_deedOf, .ref oq_dayOf, .ref oq_likelyOf, .ref oq_kindOf, .ref oq_settledOf])), (oq_keeping, .inl (cI, 4, .inl o_keeping)), (oq_giverOf, .inl (cI, 8, .inl o_giverOf)), (oq_deedOf, .inl (cI, 8, .inl o_deedOf)), (oq_dayOf, .inl (cI, 8, .inl o_dayOf)), (oq_likelyOf, .inl (cI, 8, .inl o_likelyOf)), (oq_kindOf, .inl (cI, 8, .inl o_kindOf)), (oq_settledOf, .inl (cI, 8, .inl o_settledOf))]) := by
  refine bs_ofI (cc := cX4_doClash) (maxL := 3) (by decide) rfl (Nat.le_of_ble_eq_true rfl) ?_
  intro p e s m below meth c A Q hx hb hown hml hts hE H locs hP hD hA hS ls hl hret
  have hK := hE.1
  have hl : lv_has ls 3 [(0, .ref oh), (1, .int p1), (2, .int p2)] := hl
  have hin4 : ∀ w ∈ u_ws RX4 TX4 13, w ∈ wsX4_doClash := by decide +kernel
  have k15 := hts (.fieldLink RX4 15 "PromiseScales$Scales" "giverOf" "[I") (by decide +kernel)
  have k18 := hts (.fieldLink RX4 18 "PromiseScales$Scales" "deedOf" "[I") (by decide +kernel)
  have k21 := hts (.fieldLink RX4 21 "PromiseScales$Scales" "dayOf" "[I") (by decide +kernel)
  unfold f_X4_doClash at hf
  refine lv_aload_n hx hb dX4_doClash_0 rfl (lv_at hl 0 rfl) ?_
  refine lv_iload_n hx hb dX4_doClash_1 rfl (lv_at hl 1 rfl) ?_
  obtain ⟨z1, hz1, hf⟩ := bs_b hf
  refine bs_cViR ⟨hx, hb, hml, hown, hts⟩ (k_X4_isSettled l dC dI cI cZ cS cG oh oq_keeping oq_giverOf oq_deedOf oq_dayOf oq_likelyOf oq_kindOf oq_settledOf o_told o_wax o_stick o_givers o_promises o_pan o_keeping o_giverOf o_deedOf o_dayOf o_likelyOf o_kindOf o_settledOf p1 z1 hz1) (cwV 1 hts gX4_doClash_X4_isSettled rfl rfl rfl (by decide +kernel) ⟨Nat.le_of_ble_eq_true rfl, Nat.le_of_ble_eq_true rfl⟩) hE hP hD hA hS [0, 1, 2, 3, 4, 5, 6, 7] rfl rfl 4 0 rfl rfl rfl rfl hl.1 (Nat.le_of_ble_eq_true rfl) dX4_doClash_2 (fun H locs hP hS => ?_)
  refine lv_if_ne (tgt := 65) hx hb dX4_doClash_5 (by decide) (fun c2 => ?_) (fun c2 => ?_)
  · have hf := bs_f hf c2
    refine lv_iconst (v := 0) hx hb dX4_doClash_65 (by decide) ?_
    obtain rfl := Option.some.inj hf
    exact hret H locs _ _ hP hS bs_n0 dX4_doClash_66
  · have hf := bs_t hf c2
    refine lv_aload_n hx hb dX4_doClash_8 rfl (lv_at hl 0 rfl) ?_
    refine lv_iload_n hx hb dX4_doClash_9 rfl (lv_at hl 2 rfl) ?_
    obtain ⟨z3, hz3, hf⟩ := bs_b hf
    refine bs_cViR ⟨hx, hb, hml, hown, hts⟩ (k_X4_isSettled l dC dI cI cZ cS cG oh oq_keeping oq_giverOf oq_deedOf oq_dayOf oq_likelyOf oq_kindOf oq_settledOf o_told o_wax o_stick o_givers o_promises o_pan o_keeping o_giverOf o_deedOf o_dayOf o_likelyOf o_kindOf o_settledOf p2 z3 hz3) (cwV 1 hts gX4_doClash_X4_isSettled rfl rfl rfl (by decide +kernel) ⟨Nat.le_of_ble_eq_true rfl, Nat.le_of_ble_eq_true rfl⟩) hE hP hD hA hS [0, 1, 2, 3, 4, 5, 6, 7] rfl rfl 4 0 rfl rfl rfl rfl hl.1 (Nat.le_of_ble_eq_true rfl) dX4_doClash_10 (fun H locs hP hS => ?_)
    refine lv_if_ne (tgt := 65) hx hb dX4_doClash_13 (by decide) (fun c4 => ?_) (fun c4 => ?_)
    · have hf := bs_f hf c4
      refine lv_iconst (v := 0) hx hb dX4_doClash_65 (by decide) ?_
      obtain rfl := Option.some.inj hf
      exact hret H locs _ _ hP hS bs_n0 dX4_doClash_66
    · have hf := bs_t hf c4
      refine lv_aload_n hx hb dX4_doClash_16 rfl (lv_at hl 0 rfl) ?_
      refine va_get (D := (dC, dI)) (ci := 4) (v := .ref oq_giverOf) (C := RX4) (T := TX4) (N := 13) hx hb hts hin4 hown hK hP 0 rfl rfl 7 (by decide) k15 (fun _ h9 => h9) rfl dX4_doClash_17 ?_
      refine lv_iload_n hx hb dX4_doClash_20 rfl (lv_at hl 1 rfl) ?_
      obtain ⟨g5, hf⟩ := bs_g hf
      refine va_iald hx hb hK hP 2 0 rfl rfl (bs_inV g5) dX4_doClash_21 ?_
      refine lv_aload_n hx hb dX4_doClash_22 rfl (lv_at hl 0 rfl) ?_
      refine va_get (D := (dC, dI)) (ci := 4) (v := .ref oq_giverOf) (C := RX4) (T := TX4) (N := 13) hx hb hts hin4 hown hK hP 0 rfl rfl 7 (by decide) k15 (fun _ h9 => h9) rfl dX4_doClash_23 ?_
      refine lv_iload_n hx hb dX4_doClash_26 rfl (lv_at hl 2 rfl) ?_
      obtain ⟨g6, hf⟩ := bs_g hf
      refine va_iald hx hb hK hP 2 0 rfl rfl (bs_inV g6) dX4_doClash_27 ?_
      refine lv_icmp_ne (tgt := 65) hx hb dX4_doClash_28 (by decide) (fun c7 => ?_) (fun c7 => ?_)
      · have hf := bs_f hf c7
        refine lv_iconst (v := 0) hx hb dX4_doClash_65 (by decide) ?_
        obtain rfl := Option.some.inj hf
        exact hret H locs _ _ hP hS bs_n0 dX4_doClash_66
      · have hf := bs_t hf c7
        refine lv_aload_n hx hb dX4_doClash_31 rfl (lv_at hl 0 rfl) ?_
        refine va_get (D := (dC, dI)) (ci := 4) (v := .ref oq_dayOf) (C := RX4) (T := TX4) (N := 13) hx hb hts hin4 hown hK hP 0 rfl rfl 9 (by decide) k21 (fun _ h9 => h9) rfl dX4_doClash_32 ?_
        refine lv_iload_n hx hb dX4_doClash_35 rfl (lv_at hl 1 rfl) ?_
        obtain ⟨g8, hf⟩ := bs_g hf
        refine va_iald hx hb hK hP 4 0 rfl rfl (bs_inV g8) dX4_doClash_36 ?_
        refine lv_aload_n hx hb dX4_doClash_37 rfl (lv_at hl 0 rfl) ?_
        refine va_get (D := (dC, dI)) (ci := 4) (v := .ref oq_dayOf) (C := RX4) (T := TX4) (N := 13) hx hb hts hin4 hown hK hP 0 rfl rfl 9 (by decide) k21 (fun _ h9 => h9) rfl dX4_doClash_38 ?_
        refine lv_iload_n hx hb dX4_doClash_41 rfl (lv_at hl 2 rfl) ?_
        obtain ⟨g9, hf⟩ := bs_g hf
        refine va_iald hx hb hK hP 4 0 rfl rfl (bs_inV g9) dX4_doClash_42 ?_
        refine lv_icmp_ne (tgt := 65) hx hb dX4_doClash_43 (by decide) (fun c10 => ?_) (fun c10 => ?_)
        · have hf := bs_f hf c10
          refine lv_iconst (v := 0) hx hb dX4_doClash_65 (by decide) ?_
          obtain rfl := Option.some.inj hf
          exact hret H locs _ _ hP hS bs_n0 dX4_doClash_66
        · have hf := bs_t hf c10
          refine lv_aload_n hx hb dX4_doClash_46 rfl (lv_at hl 0 rfl) ?_
          refine va_get (D := (dC, dI)) (ci := 4) (v := .ref oq_deedOf) (C := RX4) (T := TX4) (N := 13) hx hb hts hin4 hown hK hP 0 rfl rfl 8 (by decide) k18 (fun _ h9 => h9) rfl dX4_doClash_47 ?_
          refine lv_iload_n hx hb dX4_doClash_50 rfl (lv_at hl 1 rfl) ?_
          obtain ⟨g11, hf⟩ := bs_g hf
          refine va_iald hx hb hK hP 3 0 rfl rfl (bs_inV g11) dX4_doClash_51 ?_
          refine lv_aload_n hx hb dX4_doClash_52 rfl (lv_at hl 0 rfl) ?_
          refine va_get (D := (dC, dI)) (ci := 4) (v := .ref oq_deedOf) (C := RX4) (T := TX4) (N := 13) hx hb hts hin4 hown hK hP 0 rfl rfl 8 (by decide) k18 (fun _ h9 => h9) rfl dX4_doClash_53 ?_
          refine lv_iload_n hx hb dX4_doClash_56 rfl (lv_at hl 2 rfl) ?_
          obtain ⟨g12, hf⟩ := bs_g hf
          refine va_iald hx hb hK hP 3 0 rfl rfl (bs_inV g12) dX4_doClash_57 ?_
          refine lv_icmp_eq (tgt := 65) hx hb dX4_doClash_58 (by decide) (fun c13 => ?_) (fun c13 => ?_)
          · have hf := bs_t hf c13
            refine lv_iconst (v := 0) hx hb dX4_doClash_65 (by decide) ?_
            obtain rfl := Option.some.inj hf
            exact hret H locs _ _ hP hS bs_n0 dX4_doClash_66
          · have hf := bs_f hf c13
            refine lv_iconst (v := 1) hx hb dX4_doClash_61 (by decide) ?_
            refine lv_goto (tgt := 66) hx hb dX4_doClash_62 (by decide) ?_
            obtain rfl := Option.some.inj hf
            exact hret H locs _ _ hP hS bs_n1 dX4_doClash_66
set_option maxHeartbeats 4000000 in
set_option maxRecDepth 100000 in
theorem k_X2_lookAt (l : Launch) (dC : Nat → ClassId) (dI : Nat → Nat → Nat) (cI cZ cS cG : ClassId) (oh : Nat) (oq_weights : Nat) (oq_rivals : Nat) (bh : Nat) (bq_keeping : Nat) (bq_giverOf : Nat) (bq_deedOf : Nat) (bq_dayOf : Nat) (bq_likelyOf : Nat) (bq_kindOf : Nat) (bq_settledOf : Nat) (o_weights : Nat → Int32) (o_rivals : Nat → Int32) (o_promises : Int32) (o_sets : Int32) (o_wax : Int32) (o_stick : Int32) (o_settled : Int32) (b_told : Int32) (b_wax : Int32) (b_stick : Int32) (b_givers : Int32) (b_promises : Int32) (b_pan : Int32) (b_keeping : Nat → Int32) (b_giverOf : Nat → Int32) (b_deedOf : Nat → Int32) (b_dayOf : Nat → Int32) (b_likelyOf : Nat → Int32) (b_kindOf : Nat → Int32) (b_settledOf : Nat → Int32) (out : (Nat → Int32) × (Nat → Int32) × Int32 × Int32 × Int32 × Int32 × Int32) (hf : f_X2_lookAt o_weights o_rivals o_promises o_sets o_wax o_stick o_settled b_wax b_stick b_promises b_keeping b_giverOf b_deedOf b_dayOf b_likelyOf b_kindOf b_settledOf = some out) : bs_CV l dC dI cI cZ cS cG yX2_lookAt wsX2_lookAt ({ frames := 3, cells := 0, slots := 0, locals := 68 } : Room) [.ref oh, .ref bh] ([(oh, .inr (2, [.ref oq_weights, .ref oq_rivals, .int o_promises, .int o_sets, .int o_wax, .int o_stick, .int o_settled])), (oq_weights, .inl (cI, 8, .inl o_weights)), (oq_rivals, .inl (cI, 8, .inl o_rivals)), (bh, .inr (4, [.int b_told, .int b_wax, .int b_stick, .int b_givers, .int b_promises, .int b_pan, .ref bq_keeping, .ref bq_giverOf, .ref bq_deedOf, .ref bq_dayOf, .ref bq_likelyOf, .ref bq_kindOf, .ref bq_settledOf])), (bq_keeping, .inl (cI, 4, .inl b_keeping)), (bq_giverOf, .inl (cI, 8, .inl b_giverOf)), (bq_deedOf, .inl (cI, 8, .inl b_deedOf)), (bq_dayOf, .inl (cI, 8, .inl b_dayOf)), (bq_likelyOf, .inl (cI, 8, .inl b_likelyOf)), (bq_kindOf, .inl (cI, 8, .inl b_kindOf)), (bq_settledOf, .inl (cI, 8, .inl b_settledOf))]) ([(oh, .inr (2, [.ref oq_weights, .ref oq_rivals, .int out.2.2.1, .int out.2.2.2.1, .int out.2.2.2.2.1, .int out.2.2.2.2.2.1, .int out.2.2.2.2.2.2])), (oq_weights, .inl (cI, 8, .inl out.1)), (oq_rivals, .inl (cI, 8, .inl out.2.1)), (bh, .inr (4, [.int b_told, .int b_wax, .int b_stick, .int b_givers, .int b_promises, .int b_pan, .ref bq_keeping, .ref bq_giverOf, .ref bq_deedOf, .ref bq_dayOf, .ref bq_likelyOf, .ref bq_kindOf, .ref bq_settledOf])), (bq_keeping, .inl (cI, 4, .inl b_keeping)), (bq_giverOf, .inl (cI, 8, .inl b_giverOf)), (bq_deedOf, .inl (cI, 8, .inl b_deedOf)), (bq_dayOf, .inl (cI, 8, .inl b_dayOf)), (bq_likelyOf, .inl (cI, 8, .inl b_likelyOf)), (bq_kindOf, .inl (cI, 8, .inl b_kindOf)), (bq_settledOf, .inl (cI, 8, .inl b_settledOf))]) := by
  refine bs_ofV (cc := cX2_lookAt) (maxL := 5) (by decide) rfl (Nat.le_of_ble_eq_true rfl) ?_
  intro p e s m below meth c A Q hx hb hown hml hts hE H locs hP hD hA hS ls hl hret
  have hK := hE.1
  have hl : lv_has ls 5 [(0, .ref oh), (1, .ref bh)] := hl
  have hin2 : ∀ w ∈ u_ws RX2 TX2 7, w ∈ wsX2_lookAt := by decide +kernel
  have hin4 : ∀ w ∈ u_ws RX4 TX4 13, w ∈ wsX2_lookAt := by decide +kernel
  have k9 := hts (.fieldLink RX2 9 "PromiseScales$Bags" "weights" "[I") (by decide +kernel)
  have k15 := hts (.fieldLink RX2 15 "PromiseScales$Bags" "rivals" "[I") (by decide +kernel)
  have k18 := hts (.fieldLink RX2 18 "PromiseScales$Scales" "promises" "I") (by decide +kernel)
  have k24 := hts (.fieldLink RX2 24 "PromiseScales$Bags" "promises" "I") (by decide +kernel)
  have k25 := hts (.fieldLink RX2 25 "PromiseScales$Bags" "sets" "I") (by decide +kernel)
  have k28 := hts (.fieldLink RX2 28 "PromiseScales$Scales" "wax" "I") (by decide +kernel)
  have k31 := hts (.fieldLink RX2 31 "PromiseScales$Bags" "wax" "I") (by decide +kernel)
  have k32 := hts (.fieldLink RX2 32 "PromiseScales$Scales" "stick" "I") (by decide +kernel)
  have k35 := hts (.fieldLink RX2 35 "PromiseScales$Bags" "stick" "I") (by decide +kernel)
  have k36 := hts (.fieldLink RX2 36 "PromiseScales$Bags" "settled" "I") (by decide +kernel)
  unfold f_X2_lookAt at hf
  refine lv_aload_n hx hb dX2_lookAt_0 rfl (lv_at hl 0 rfl) ?_
  refine lv_aload_n hx hb dX2_lookAt_1 rfl (lv_at hl 1 rfl) ?_
  refine va_get (D := (dC, dI)) (ci := 4) (v := .int b_promises) (C := RX4) (T := TX4) (N := 13) hx hb hts hin4 hown hK hP 3 rfl rfl 4 (by decide) k18 (fun _ h9 => h9) rfl dX2_lookAt_2 ?_
  refine va_put (D := (dC, dI)) (ci := 2) (v := .int b_promises) (ty := .int) (C := RX2) (T := TX2) (N := 7) hx hb hts hin2 tyX2 tyX2_ok nmX2 hown hK hP hD hS 0 rfl rfl 2 (by decide) k24 (fun _ h9 => h9) rfl (by decide +kernel) rfl rfl (Nat.le_of_ble_eq_true rfl) dX2_lookAt_5 (fun H locs hP hD hS => ?_)
  have hP : va_P (dC, dI) vwCl ([(oh, .inr (2, [.ref oq_weights, .ref oq_rivals, .int b_promises, .int o_sets, .int o_wax, .int o_stick, .int o_settled])), (oq_weights, .inl (cI, 8, .inl o_weights)), (oq_rivals, .inl (cI, 8, .inl o_rivals)), (bh, .inr (4, [.int b_told, .int b_wax, .int b_stick, .int b_givers, .int b_promises, .int b_pan, .ref bq_keeping, .ref bq_giverOf, .ref bq_deedOf, .ref bq_dayOf, .ref bq_likelyOf, .ref bq_kindOf, .ref bq_settledOf])), (bq_keeping, .inl (cI, 4, .inl b_keeping)), (bq_giverOf, .inl (cI, 8, .inl b_giverOf)), (bq_deedOf, .inl (cI, 8, .inl b_deedOf)), (bq_dayOf, .inl (cI, 8, .inl b_dayOf)), (bq_likelyOf, .inl (cI, 8, .inl b_likelyOf)), (bq_kindOf, .inl (cI, 8, .inl b_kindOf)), (bq_settledOf, .inl (cI, 8, .inl b_settledOf))]) H := hP
  have hD : va_D A ([(oh, .inr (2, [.ref oq_weights, .ref oq_rivals, .int b_promises, .int o_sets, .int o_wax, .int o_stick, .int o_settled])), (oq_weights, .inl (cI, 8, .inl o_weights)), (oq_rivals, .inl (cI, 8, .inl o_rivals)), (bh, .inr (4, [.int b_told, .int b_wax, .int b_stick, .int b_givers, .int b_promises, .int b_pan, .ref bq_keeping, .ref bq_giverOf, .ref bq_deedOf, .ref bq_dayOf, .ref bq_likelyOf, .ref bq_kindOf, .ref bq_settledOf])), (bq_keeping, .inl (cI, 4, .inl b_keeping)), (bq_giverOf, .inl (cI, 8, .inl b_giverOf)), (bq_deedOf, .inl (cI, 8, .inl b_deedOf)), (bq_dayOf, .inl (cI, 8, .inl b_dayOf)), (bq_likelyOf, .inl (cI, 8, .inl b_likelyOf)), (bq_kindOf, .inl (cI, 8, .inl b_kindOf)), (bq_settledOf, .inl (cI, 8, .inl b_settledOf))]) := hD
  refine lv_aload_n hx hb dX2_lookAt_8 rfl (lv_at hl 0 rfl) ?_
  refine lv_iconst (v := 1) hx hb dX2_lookAt_9 (by decide) ?_
  refine lv_aload_n hx hb dX2_lookAt_10 rfl (lv_at hl 0 rfl) ?_
  refine va_get (D := (dC, dI)) (ci := 2) (v := .int b_promises) (C := RX2) (T := TX2) (N := 7) hx hb hts hin2 hown hK hP 0 rfl rfl 2 (by decide) k24 (fun _ h9 => h9) rfl dX2_lookAt_11 ?_
  refine lv_ishl hx hb dX2_lookAt_14 ?_
  refine va_put (D := (dC, dI)) (ci := 2) (v := .int (1 <<< (b_promises &&& 31))) (ty := .int) (C := RX2) (T := TX2) (N := 7) hx hb hts hin2 tyX2 tyX2_ok nmX2 hown hK hP hD hS 0 rfl rfl 3 (by decide) k25 (fun _ h9 => h9) rfl (by decide +kernel) rfl rfl (Nat.le_of_ble_eq_true rfl) dX2_lookAt_15 (fun H locs hP hD hS => ?_)
  have hP : va_P (dC, dI) vwCl ([(oh, .inr (2, [.ref oq_weights, .ref oq_rivals, .int b_promises, .int (1 <<< (b_promises &&& 31)), .int o_wax, .int o_stick, .int o_settled])), (oq_weights, .inl (cI, 8, .inl o_weights)), (oq_rivals, .inl (cI, 8, .inl o_rivals)), (bh, .inr (4, [.int b_told, .int b_wax, .int b_stick, .int b_givers, .int b_promises, .int b_pan, .ref bq_keeping, .ref bq_giverOf, .ref bq_deedOf, .ref bq_dayOf, .ref bq_likelyOf, .ref bq_kindOf, .ref bq_settledOf])), (bq_keeping, .inl (cI, 4, .inl b_keeping)), (bq_giverOf, .inl (cI, 8, .inl b_giverOf)), (bq_deedOf, .inl (cI, 8, .inl b_deedOf)), (bq_dayOf, .inl (cI, 8, .inl b_dayOf)), (bq_likelyOf, .inl (cI, 8, .inl b_likelyOf)), (bq_kindOf, .inl (cI, 8, .inl b_kindOf)), (bq_settledOf, .inl (cI, 8, .inl b_settledOf))]) H := hP
  have hD : va_D A ([(oh, .inr (2, [.ref oq_weights, .ref oq_rivals, .int b_promises, .int (1 <<< (b_promises &&& 31)), .int o_wax, .int o_stick, .int o_settled])), (oq_weights, .inl (cI, 8, .inl o_weights)), (oq_rivals, .inl (cI, 8, .inl o_rivals)), (bh, .inr (4, [.int b_told, .int b_wax, .int b_stick, .int b_givers, .int b_promises, .int b_pan, .ref bq_keeping, .ref bq_giverOf, .ref bq_deedOf, .ref bq_dayOf, .ref bq_likelyOf, .ref bq_kindOf, .ref bq_settledOf])), (bq_keeping, .inl (cI, 4, .inl b_keeping)), (bq_giverOf, .inl (cI, 8, .inl b_giverOf)), (bq_deedOf, .inl (cI, 8, .inl b_deedOf)), (bq_dayOf, .inl (cI, 8, .inl b_dayOf)), (bq_likelyOf, .inl (cI, 8, .inl b_likelyOf)), (bq_kindOf, .inl (cI, 8, .inl b_kindOf)), (bq_settledOf, .inl (cI, 8, .inl b_settledOf))]) := hD
  refine lv_aload_n hx hb dX2_lookAt_18 rfl (lv_at hl 0 rfl) ?_
  refine lv_aload_n hx hb dX2_lookAt_19 rfl (lv_at hl 1 rfl) ?_
  refine va_get (D := (dC, dI)) (ci := 4) (v := .int b_wax) (C := RX4) (T := TX4) (N := 13) hx hb hts hin4 hown hK hP 3 rfl rfl 1 (by decide) k28 (fun _ h9 => h9) rfl dX2_lookAt_20 ?_
  refine va_put (D := (dC, dI)) (ci := 2) (v := .int b_wax) (ty := .int) (C := RX2) (T := TX2) (N := 7) hx hb hts hin2 tyX2 tyX2_ok nmX2 hown hK hP hD hS 0 rfl rfl 4 (by decide) k31 (fun _ h9 => h9) rfl (by decide +kernel) rfl rfl (Nat.le_of_ble_eq_true rfl) dX2_lookAt_23 (fun H locs hP hD hS => ?_)
  have hP : va_P (dC, dI) vwCl ([(oh, .inr (2, [.ref oq_weights, .ref oq_rivals, .int b_promises, .int (1 <<< (b_promises &&& 31)), .int b_wax, .int o_stick, .int o_settled])), (oq_weights, .inl (cI, 8, .inl o_weights)), (oq_rivals, .inl (cI, 8, .inl o_rivals)), (bh, .inr (4, [.int b_told, .int b_wax, .int b_stick, .int b_givers, .int b_promises, .int b_pan, .ref bq_keeping, .ref bq_giverOf, .ref bq_deedOf, .ref bq_dayOf, .ref bq_likelyOf, .ref bq_kindOf, .ref bq_settledOf])), (bq_keeping, .inl (cI, 4, .inl b_keeping)), (bq_giverOf, .inl (cI, 8, .inl b_giverOf)), (bq_deedOf, .inl (cI, 8, .inl b_deedOf)), (bq_dayOf, .inl (cI, 8, .inl b_dayOf)), (bq_likelyOf, .inl (cI, 8, .inl b_likelyOf)), (bq_kindOf, .inl (cI, 8, .inl b_kindOf)), (bq_settledOf, .inl (cI, 8, .inl b_settledOf))]) H := hP
  have hD : va_D A ([(oh, .inr (2, [.ref oq_weights, .ref oq_rivals, .int b_promises, .int (1 <<< (b_promises &&& 31)), .int b_wax, .int o_stick, .int o_settled])), (oq_weights, .inl (cI, 8, .inl o_weights)), (oq_rivals, .inl (cI, 8, .inl o_rivals)), (bh, .inr (4, [.int b_told, .int b_wax, .int b_stick, .int b_givers, .int b_promises, .int b_pan, .ref bq_keeping, .ref bq_giverOf, .ref bq_deedOf, .ref bq_dayOf, .ref bq_likelyOf, .ref bq_kindOf, .ref bq_settledOf])), (bq_keeping, .inl (cI, 4, .inl b_keeping)), (bq_giverOf, .inl (cI, 8, .inl b_giverOf)), (bq_deedOf, .inl (cI, 8, .inl b_deedOf)), (bq_dayOf, .inl (cI, 8, .inl b_dayOf)), (bq_likelyOf, .inl (cI, 8, .inl b_likelyOf)), (bq_kindOf, .inl (cI, 8, .inl b_kindOf)), (bq_settledOf, .inl (cI, 8, .inl b_settledOf))]) := hD
  refine lv_aload_n hx hb dX2_lookAt_26 rfl (lv_at hl 0 rfl) ?_
  refine lv_aload_n hx hb dX2_lookAt_27 rfl (lv_at hl 1 rfl) ?_
  refine va_get (D := (dC, dI)) (ci := 4) (v := .int b_stick) (C := RX4) (T := TX4) (N := 13) hx hb hts hin4 hown hK hP 3 rfl rfl 2 (by decide) k32 (fun _ h9 => h9) rfl dX2_lookAt_28 ?_
  refine va_put (D := (dC, dI)) (ci := 2) (v := .int b_stick) (ty := .int) (C := RX2) (T := TX2) (N := 7) hx hb hts hin2 tyX2 tyX2_ok nmX2 hown hK hP hD hS 0 rfl rfl 5 (by decide) k35 (fun _ h9 => h9) rfl (by decide +kernel) rfl rfl (Nat.le_of_ble_eq_true rfl) dX2_lookAt_31 (fun H locs hP hD hS => ?_)
  have hP : va_P (dC, dI) vwCl ([(oh, .inr (2, [.ref oq_weights, .ref oq_rivals, .int b_promises, .int (1 <<< (b_promises &&& 31)), .int b_wax, .int b_stick, .int o_settled])), (oq_weights, .inl (cI, 8, .inl o_weights)), (oq_rivals, .inl (cI, 8, .inl o_rivals)), (bh, .inr (4, [.int b_told, .int b_wax, .int b_stick, .int b_givers, .int b_promises, .int b_pan, .ref bq_keeping, .ref bq_giverOf, .ref bq_deedOf, .ref bq_dayOf, .ref bq_likelyOf, .ref bq_kindOf, .ref bq_settledOf])), (bq_keeping, .inl (cI, 4, .inl b_keeping)), (bq_giverOf, .inl (cI, 8, .inl b_giverOf)), (bq_deedOf, .inl (cI, 8, .inl b_deedOf)), (bq_dayOf, .inl (cI, 8, .inl b_dayOf)), (bq_likelyOf, .inl (cI, 8, .inl b_likelyOf)), (bq_kindOf, .inl (cI, 8, .inl b_kindOf)), (bq_settledOf, .inl (cI, 8, .inl b_settledOf))]) H := hP
  have hD : va_D A ([(oh, .inr (2, [.ref oq_weights, .ref oq_rivals, .int b_promises, .int (1 <<< (b_promises &&& 31)), .int b_wax, .int b_stick, .int o_settled])), (oq_weights, .inl (cI, 8, .inl o_weights)), (oq_rivals, .inl (cI, 8, .inl o_rivals)), (bh, .inr (4, [.int b_told, .int b_wax, .int b_stick, .int b_givers, .int b_promises, .int b_pan, .ref bq_keeping, .ref bq_giverOf, .ref bq_deedOf, .ref bq_dayOf, .ref bq_likelyOf, .ref bq_kindOf, .ref bq_settledOf])), (bq_keeping, .inl (cI, 4, .inl b_keeping)), (bq_giverOf, .inl (cI, 8, .inl b_giverOf)), (bq_deedOf, .inl (cI, 8, .inl b_deedOf)), (bq_dayOf, .inl (cI, 8, .inl b_dayOf)), (bq_likelyOf, .inl (cI, 8, .inl b_likelyOf)), (bq_kindOf, .inl (cI, 8, .inl b_kindOf)), (bq_settledOf, .inl (cI, 8, .inl b_settledOf))]) := hD
  refine lv_aload_n hx hb dX2_lookAt_34 rfl (lv_at hl 0 rfl) ?_
  refine lv_iconst (v := 0) hx hb dX2_lookAt_35 (by decide) ?_
  refine va_put (D := (dC, dI)) (ci := 2) (v := .int 0) (ty := .int) (C := RX2) (T := TX2) (N := 7) hx hb hts hin2 tyX2 tyX2_ok nmX2 hown hK hP hD hS 0 rfl rfl 6 (by decide) k36 (fun _ h9 => h9) rfl (by decide +kernel) rfl rfl (Nat.le_of_ble_eq_true rfl) dX2_lookAt_36 (fun H locs hP hD hS => ?_)
  have hP : va_P (dC, dI) vwCl ([(oh, .inr (2, [.ref oq_weights, .ref oq_rivals, .int b_promises, .int (1 <<< (b_promises &&& 31)), .int b_wax, .int b_stick, .int 0])), (oq_weights, .inl (cI, 8, .inl o_weights)), (oq_rivals, .inl (cI, 8, .inl o_rivals)), (bh, .inr (4, [.int b_told, .int b_wax, .int b_stick, .int b_givers, .int b_promises, .int b_pan, .ref bq_keeping, .ref bq_giverOf, .ref bq_deedOf, .ref bq_dayOf, .ref bq_likelyOf, .ref bq_kindOf, .ref bq_settledOf])), (bq_keeping, .inl (cI, 4, .inl b_keeping)), (bq_giverOf, .inl (cI, 8, .inl b_giverOf)), (bq_deedOf, .inl (cI, 8, .inl b_deedOf)), (bq_dayOf, .inl (cI, 8, .inl b_dayOf)), (bq_likelyOf, .inl (cI, 8, .inl b_likelyOf)), (bq_kindOf, .inl (cI, 8, .inl b_kindOf)), (bq_settledOf, .inl (cI, 8, .inl b_settledOf))]) H := hP
  have hD : va_D A ([(oh, .inr (2, [.ref oq_weights, .ref oq_rivals, .int b_promises, .int (1 <<< (b_promises &&& 31)), .int b_wax, .int b_stick, .int 0])), (oq_weights, .inl (cI, 8, .inl o_weights)), (oq_rivals, .inl (cI, 8, .inl o_rivals)), (bh, .inr (4, [.int b_told, .int b_wax, .int b_stick, .int b_givers, .int b_promises, .int b_pan, .ref bq_keeping, .ref bq_giverOf, .ref bq_deedOf, .ref bq_dayOf, .ref bq_likelyOf, .ref bq_kindOf, .ref bq_settledOf])), (bq_keeping, .inl (cI, 4, .inl b_keeping)), (bq_giverOf, .inl (cI, 8, .inl b_giverOf)), (bq_deedOf, .inl (cI, 8, .inl b_deedOf)), (bq_dayOf, .inl (cI, 8, .inl b_dayOf)), (bq_likelyOf, .inl (cI, 8, .inl b_likelyOf)), (bq_kindOf, .inl (cI, 8, .inl b_kindOf)), (bq_settledOf, .inl (cI, 8, .inl b_settledOf))]) := hD
  refine lv_iconst (v := 0) hx hb dX2_lookAt_39 (by decide) ?_
  refine lv_istore_n (lv' := [(2, .int 0), (0, .ref oh), (1, .ref bh)]) hx hb dX2_lookAt_40 rfl hl (by decide) rfl (fun ls hl => ?_)
  refine lv_iconst (v := 0) hx hb dX2_lookAt_41 (by decide) ?_
  refine lv_istore_n (lv' := [(3, .int 0), (2, .int 0), (0, .ref oh), (1, .ref bh)]) hx hb dX2_lookAt_42 rfl hl (by decide) rfl (fun ls hl => ?_)
  have L_43 : ∀ (fuel : Nat) (o_weights_43 : Nat → Int32) (o_rivals_43 : Nat → Int32) (o_settled_43 : Int32) (x2_43 : Int32) (x3_43 : Int32) (H : Heap) (locs : List Loc) (ls : Array Slot), va_P (dC, dI) vwCl ([(oh, .inr (2, [.ref oq_weights, .ref oq_rivals, .int b_promises, .int (1 <<< (b_promises &&& 31)), .int b_wax, .int b_stick, .int o_settled_43])), (oq_weights, .inl (cI, 8, .inl o_weights_43)), (oq_rivals, .inl (cI, 8, .inl o_rivals_43)), (bh, .inr (4, [.int b_told, .int b_wax, .int b_stick, .int b_givers, .int b_promises, .int b_pan, .ref bq_keeping, .ref bq_giverOf, .ref bq_deedOf, .ref bq_dayOf, .ref bq_likelyOf, .ref bq_kindOf, .ref bq_settledOf])), (bq_keeping, .inl (cI, 4, .inl b_keeping)), (bq_giverOf, .inl (cI, 8, .inl b_giverOf)), (bq_deedOf, .inl (cI, 8, .inl b_deedOf)), (bq_dayOf, .inl (cI, 8, .inl b_dayOf)), (bq_likelyOf, .inl (cI, 8, .inl b_likelyOf)), (bq_kindOf, .inl (cI, 8, .inl b_kindOf)), (bq_settledOf, .inl (cI, 8, .inl b_settledOf))]) H → va_D A ([(oh, .inr (2, [.ref oq_weights, .ref oq_rivals, .int b_promises, .int (1 <<< (b_promises &&& 31)), .int b_wax, .int b_stick, .int o_settled_43])), (oq_weights, .inl (cI, 8, .inl o_weights_43)), (oq_rivals, .inl (cI, 8, .inl o_rivals_43)), (bh, .inr (4, [.int b_told, .int b_wax, .int b_stick, .int b_givers, .int b_promises, .int b_pan, .ref bq_keeping, .ref bq_giverOf, .ref bq_deedOf, .ref bq_dayOf, .ref bq_likelyOf, .ref bq_kindOf, .ref bq_settledOf])), (bq_keeping, .inl (cI, 4, .inl b_keeping)), (bq_giverOf, .inl (cI, 8, .inl b_giverOf)), (bq_deedOf, .inl (cI, 8, .inl b_deedOf)), (bq_dayOf, .inl (cI, 8, .inl b_dayOf)), (bq_likelyOf, .inl (cI, 8, .inl b_likelyOf)), (bq_kindOf, .inl (cI, 8, .inl b_kindOf)), (bq_settledOf, .inl (cI, 8, .inl b_settledOf))]) → va_S A s.heap H locs → lv_has ls 5 [(0, .ref oh), (1, .ref bh), (2, .int x2_43), (3, .int x3_43)] → f_X2_lookAt_L43 b_promises (1 <<< (b_promises &&& 31)) b_wax b_stick b_wax b_stick b_promises b_keeping b_giverOf b_deedOf b_dayOf b_likelyOf b_kindOf b_settledOf fuel o_weights_43 o_rivals_43 o_settled_43 x2_43 x3_43 = some out → W p l e ({ frames := 3, cells := 0, slots := 0, locals := 68 } : Room) s m ([.ref oh, .ref bh] : List Value).toArray below meth c H locs 0 0 Q (F0 m 43 ls []) := by
    intro fuel
    induction fuel with
    | zero =>
      intro o_weights_43 o_rivals_43 o_settled_43 x2_43 x3_43 H locs ls hP hD hS hl hf
      cases (show (none : Option ((Nat → Int32) × (Nat → Int32) × Int32 × Int32 × Int32 × Int32 × Int32)) = some out from hf)
    | succ n_43 ih_43 =>
      intro o_weights_43 o_rivals_43 o_settled_43 x2_43 x3_43 H locs ls hP hD hS hl hf
      have hf := (f_X2_lookAt_L43_s b_promises (1 <<< (b_promises &&& 31)) b_wax b_stick b_wax b_stick b_promises b_keeping b_giverOf b_deedOf b_dayOf b_likelyOf b_kindOf b_settledOf n_43 o_weights_43 o_rivals_43 o_settled_43 x2_43 x3_43).symm.trans hf
      refine lv_iload_n hx hb dX2_lookAt_43 rfl (lv_at hl 3 rfl) ?_
      refine lv_aload_n hx hb dX2_lookAt_44 rfl (lv_at hl 0 rfl) ?_
      refine va_get (D := (dC, dI)) (ci := 2) (v := .int b_promises) (C := RX2) (T := TX2) (N := 7) hx hb hts hin2 hown hK hP 0 rfl rfl 2 (by decide) k24 (fun _ h9 => h9) rfl dX2_lookAt_45 ?_
      refine lv_icmp_ge (tgt := 147) hx hb dX2_lookAt_48 (by decide) (fun c1 => ?_) (fun c1 => ?_)
      · have hf := bs_t hf c1
        obtain rfl := Option.some.inj hf
        exact hret H locs _ _ hP hS dX2_lookAt_147
      · have hf := bs_f hf c1
        refine lv_aload_n hx hb dX2_lookAt_51 rfl (lv_at hl 1 rfl) ?_
        refine lv_iload_n hx hb dX2_lookAt_52 rfl (lv_at hl 3 rfl) ?_
        refine lv_iload_n hx hb dX2_lookAt_53 rfl (lv_at hl 2 rfl) ?_
        obtain ⟨z2, hz2, hf⟩ := bs_b hf
        refine bs_cViR ⟨hx, hb, hml, hown, hts⟩ (k_X4_weightAfter l dC dI cI cZ cS cG bh bq_keeping bq_giverOf bq_deedOf bq_dayOf bq_likelyOf bq_kindOf bq_settledOf b_told b_wax b_stick b_givers b_promises b_pan b_keeping b_giverOf b_deedOf b_dayOf b_likelyOf b_kindOf b_settledOf x3_43 x2_43 z2 hz2) (cwV 2 hts gX2_lookAt_X4_weightAfter rfl rfl rfl (by decide +kernel) ⟨Nat.le_of_ble_eq_true rfl, Nat.le_of_ble_eq_true rfl⟩) hE hP hD hA hS [3, 4, 5, 6, 7, 8, 9, 10] rfl rfl 4 0 rfl rfl rfl rfl hl.1 (Nat.le_of_ble_eq_true rfl) dX2_lookAt_54 (fun H locs hP hS => ?_)
        refine lv_istore_n (lv' := [(2, .int z2), (0, .ref oh), (1, .ref bh), (3, .int x3_43)]) hx hb dX2_lookAt_57 rfl hl (by decide) rfl (fun ls hl => ?_)
        refine lv_aload_n hx hb dX2_lookAt_58 rfl (lv_at hl 1 rfl) ?_
        refine va_get (D := (dC, dI)) (ci := 2) (v := .ref oq_weights) (C := RX2) (T := TX2) (N := 7) hx hb hts hin2 hown hK hP 0 rfl rfl 0 (by decide) k9 (fun _ h9 => h9) rfl dX2_lookAt_59 ?_
        refine lv_iload_n hx hb dX2_lookAt_62 rfl (lv_at hl 3 rfl) ?_
        refine lv_iload_n hx hb dX2_lookAt_63 rfl (lv_at hl 0 rfl) ?_
        obtain ⟨g3, hf⟩ := bs_g hf
        refine va_iast hx hb hK hP hD hS 1 0 rfl rfl (bs_inV g3) dX2_lookAt_64 (fun H locs hP hD hS => ?_)
        have hP : va_P (dC, dI) vwCl ([(oh, .inr (2, [.ref oq_weights, .ref oq_rivals, .int b_promises, .int (1 <<< (b_promises &&& 31)), .int b_wax, .int b_stick, .int o_settled_43])), (oq_weights, .inl (cI, 8, .inl (upd o_weights_43 x3_43.toNatClampNeg z2))), (oq_rivals, .inl (cI, 8, .inl o_rivals_43)), (bh, .inr (4, [.int b_told, .int b_wax, .int b_stick, .int b_givers, .int b_promises, .int b_pan, .ref bq_keeping, .ref bq_giverOf, .ref bq_deedOf, .ref bq_dayOf, .ref bq_likelyOf, .ref bq_kindOf, .ref bq_settledOf])), (bq_keeping, .inl (cI, 4, .inl b_keeping)), (bq_giverOf, .inl (cI, 8, .inl b_giverOf)), (bq_deedOf, .inl (cI, 8, .inl b_deedOf)), (bq_dayOf, .inl (cI, 8, .inl b_dayOf)), (bq_likelyOf, .inl (cI, 8, .inl b_likelyOf)), (bq_kindOf, .inl (cI, 8, .inl b_kindOf)), (bq_settledOf, .inl (cI, 8, .inl b_settledOf))]) H := hP
        have hD : va_D A ([(oh, .inr (2, [.ref oq_weights, .ref oq_rivals, .int b_promises, .int (1 <<< (b_promises &&& 31)), .int b_wax, .int b_stick, .int o_settled_43])), (oq_weights, .inl (cI, 8, .inl (upd o_weights_43 x3_43.toNatClampNeg z2))), (oq_rivals, .inl (cI, 8, .inl o_rivals_43)), (bh, .inr (4, [.int b_told, .int b_wax, .int b_stick, .int b_givers, .int b_promises, .int b_pan, .ref bq_keeping, .ref bq_giverOf, .ref bq_deedOf, .ref bq_dayOf, .ref bq_likelyOf, .ref bq_kindOf, .ref bq_settledOf])), (bq_keeping, .inl (cI, 4, .inl b_keeping)), (bq_giverOf, .inl (cI, 8, .inl b_giverOf)), (bq_deedOf, .inl (cI, 8, .inl b_deedOf)), (bq_dayOf, .inl (cI, 8, .inl b_dayOf)), (bq_likelyOf, .inl (cI, 8, .inl b_likelyOf)), (bq_kindOf, .inl (cI, 8, .inl b_kindOf)), (bq_settledOf, .inl (cI, 8, .inl b_settledOf))]) := hD
        refine lv_aload_n hx hb dX2_lookAt_65 rfl (lv_at hl 1 rfl) ?_
        refine lv_dup hx hb dX2_lookAt_66 rfl ?_
        refine va_get (D := (dC, dI)) (ci := 2) (v := .int o_settled_43) (C := RX2) (T := TX2) (N := 7) hx hb hts hin2 hown hK hP 0 rfl rfl 6 (by decide) k36 (fun _ h9 => h9) rfl dX2_lookAt_67 ?_
        refine lv_aload_n hx hb dX2_lookAt_70 rfl (lv_at hl 2 rfl) ?_
        refine lv_iload_n hx hb dX2_lookAt_71 rfl (lv_at hl 3 rfl) ?_
        obtain ⟨z4, hz4, hf⟩ := bs_b hf
        refine bs_cViR ⟨hx, hb, hml, hown, hts⟩ (k_X4_isSettled l dC dI cI cZ cS cG bh bq_keeping bq_giverOf bq_deedOf bq_dayOf bq_likelyOf bq_kindOf bq_settledOf b_told b_wax b_stick b_givers b_promises b_pan b_keeping b_giverOf b_deedOf b_dayOf b_likelyOf b_kindOf b_settledOf x3_43 z4 hz4) (cwV 1 hts gX2_lookAt_X4_isSettled rfl rfl rfl (by decide +kernel) ⟨Nat.le_of_ble_eq_true rfl, Nat.le_of_ble_eq_true rfl⟩) hE hP hD hA hS [3, 4, 5, 6, 7, 8, 9, 10] rfl rfl 4 0 rfl rfl rfl rfl hl.1 (Nat.le_of_ble_eq_true rfl) dX2_lookAt_72 (fun H locs hP hS => ?_)
        refine lv_if_eq (tgt := 84) hx hb dX2_lookAt_75 (by decide) (fun c5 => ?_) (fun c5 => ?_)
        · have hf := bs_t hf c5
          refine lv_iconst (v := 0) hx hb dX2_lookAt_84 (by decide) ?_
          refine lv_ior hx hb dX2_lookAt_85 ?_
          refine va_put (D := (dC, dI)) (ci := 2) (v := .int (o_settled_43 ||| 0)) (ty := .int) (C := RX2) (T := TX2) (N := 7) hx hb hts hin2 tyX2 tyX2_ok nmX2 hown hK hP hD hS 0 rfl rfl 6 (by decide) k36 (fun _ h9 => h9) rfl (by decide +kernel) rfl rfl (Nat.le_of_ble_eq_true rfl) dX2_lookAt_86 (fun H locs hP hD hS => ?_)
          have hP : va_P (dC, dI) vwCl ([(oh, .inr (2, [.ref oq_weights, .ref oq_rivals, .int b_promises, .int (1 <<< (b_promises &&& 31)), .int b_wax, .int b_stick, .int (o_settled_43 ||| 0)])), (oq_weights, .inl (cI, 8, .inl (upd o_weights_43 x3_43.toNatClampNeg z2))), (oq_rivals, .inl (cI, 8, .inl o_rivals_43)), (bh, .inr (4, [.int b_told, .int b_wax, .int b_stick, .int b_givers, .int b_promises, .int b_pan, .ref bq_keeping, .ref bq_giverOf, .ref bq_deedOf, .ref bq_dayOf, .ref bq_likelyOf, .ref bq_kindOf, .ref bq_settledOf])), (bq_keeping, .inl (cI, 4, .inl b_keeping)), (bq_giverOf, .inl (cI, 8, .inl b_giverOf)), (bq_deedOf, .inl (cI, 8, .inl b_deedOf)), (bq_dayOf, .inl (cI, 8, .inl b_dayOf)), (bq_likelyOf, .inl (cI, 8, .inl b_likelyOf)), (bq_kindOf, .inl (cI, 8, .inl b_kindOf)), (bq_settledOf, .inl (cI, 8, .inl b_settledOf))]) H := hP
          have hD : va_D A ([(oh, .inr (2, [.ref oq_weights, .ref oq_rivals, .int b_promises, .int (1 <<< (b_promises &&& 31)), .int b_wax, .int b_stick, .int (o_settled_43 ||| 0)])), (oq_weights, .inl (cI, 8, .inl (upd o_weights_43 x3_43.toNatClampNeg z2))), (oq_rivals, .inl (cI, 8, .inl o_rivals_43)), (bh, .inr (4, [.int b_told, .int b_wax, .int b_stick, .int b_givers, .int b_promises, .int b_pan, .ref bq_keeping, .ref bq_giverOf, .ref bq_deedOf, .ref bq_dayOf, .ref bq_likelyOf, .ref bq_kindOf, .ref bq_settledOf])), (bq_keeping, .inl (cI, 4, .inl b_keeping)), (bq_giverOf, .inl (cI, 8, .inl b_giverOf)), (bq_deedOf, .inl (cI, 8, .inl b_deedOf)), (bq_dayOf, .inl (cI, 8, .inl b_dayOf)), (bq_likelyOf, .inl (cI, 8, .inl b_likelyOf)), (bq_kindOf, .inl (cI, 8, .inl b_kindOf)), (bq_settledOf, .inl (cI, 8, .inl b_settledOf))]) := hD
          refine lv_aload_n hx hb dX2_lookAt_89 rfl (lv_at hl 1 rfl) ?_
          refine va_get (D := (dC, dI)) (ci := 2) (v := .ref oq_rivals) (C := RX2) (T := TX2) (N := 7) hx hb hts hin2 hown hK hP 0 rfl rfl 1 (by decide) k15 (fun _ h9 => h9) rfl dX2_lookAt_90 ?_
          refine lv_iload_n hx hb dX2_lookAt_93 rfl (lv_at hl 3 rfl) ?_
          refine lv_iconst (v := 0) hx hb dX2_lookAt_94 (by decide) ?_
          obtain ⟨g6, hf⟩ := bs_g hf
          refine va_iast hx hb hK hP hD hS 2 0 rfl rfl (bs_inV g6) dX2_lookAt_95 (fun H locs hP hD hS => ?_)
          have hP : va_P (dC, dI) vwCl ([(oh, .inr (2, [.ref oq_weights, .ref oq_rivals, .int b_promises, .int (1 <<< (b_promises &&& 31)), .int b_wax, .int b_stick, .int (o_settled_43 ||| 0)])), (oq_weights, .inl (cI, 8, .inl (upd o_weights_43 x3_43.toNatClampNeg z2))), (oq_rivals, .inl (cI, 8, .inl (upd o_rivals_43 x3_43.toNatClampNeg 0))), (bh, .inr (4, [.int b_told, .int b_wax, .int b_stick, .int b_givers, .int b_promises, .int b_pan, .ref bq_keeping, .ref bq_giverOf, .ref bq_deedOf, .ref bq_dayOf, .ref bq_likelyOf, .ref bq_kindOf, .ref bq_settledOf])), (bq_keeping, .inl (cI, 4, .inl b_keeping)), (bq_giverOf, .inl (cI, 8, .inl b_giverOf)), (bq_deedOf, .inl (cI, 8, .inl b_deedOf)), (bq_dayOf, .inl (cI, 8, .inl b_dayOf)), (bq_likelyOf, .inl (cI, 8, .inl b_likelyOf)), (bq_kindOf, .inl (cI, 8, .inl b_kindOf)), (bq_settledOf, .inl (cI, 8, .inl b_settledOf))]) H := hP
          have hD : va_D A ([(oh, .inr (2, [.ref oq_weights, .ref oq_rivals, .int b_promises, .int (1 <<< (b_promises &&& 31)), .int b_wax, .int b_stick, .int (o_settled_43 ||| 0)])), (oq_weights, .inl (cI, 8, .inl (upd o_weights_43 x3_43.toNatClampNeg z2))), (oq_rivals, .inl (cI, 8, .inl (upd o_rivals_43 x3_43.toNatClampNeg 0))), (bh, .inr (4, [.int b_told, .int b_wax, .int b_stick, .int b_givers, .int b_promises, .int b_pan, .ref bq_keeping, .ref bq_giverOf, .ref bq_deedOf, .ref bq_dayOf, .ref bq_likelyOf, .ref bq_kindOf, .ref bq_settledOf])), (bq_keeping, .inl (cI, 4, .inl b_keeping)), (bq_giverOf, .inl (cI, 8, .inl b_giverOf)), (bq_deedOf, .inl (cI, 8, .inl b_deedOf)), (bq_dayOf, .inl (cI, 8, .inl b_dayOf)), (bq_likelyOf, .inl (cI, 8, .inl b_likelyOf)), (bq_kindOf, .inl (cI, 8, .inl b_kindOf)), (bq_settledOf, .inl (cI, 8, .inl b_settledOf))]) := hD
          refine lv_iconst (v := 0) hx hb dX2_lookAt_96 (by decide) ?_
          refine lv_istore (lv' := [(4, .int 0), (2, .int z2), (0, .ref oh), (1, .ref bh), (3, .int x3_43)]) hx hb dX2_lookAt_97 hl (by decide) rfl (fun ls hl => ?_)
          have L_99 : ∀ (fuel : Nat) (o_rivals_99 : Nat → Int32) (x4_99 : Int32) (H : Heap) (locs : List Loc) (ls : Array Slot), va_P (dC, dI) vwCl ([(oh, .inr (2, [.ref oq_weights, .ref oq_rivals, .int b_promises, .int (1 <<< (b_promises &&& 31)), .int b_wax, .int b_stick, .int (o_settled_43 ||| 0)])), (oq_weights, .inl (cI, 8, .inl (upd o_weights_43 x3_43.toNatClampNeg z2))), (oq_rivals, .inl (cI, 8, .inl o_rivals_99)), (bh, .inr (4, [.int b_told, .int b_wax, .int b_stick, .int b_givers, .int b_promises, .int b_pan, .ref bq_keeping, .ref bq_giverOf, .ref bq_deedOf, .ref bq_dayOf, .ref bq_likelyOf, .ref bq_kindOf, .ref bq_settledOf])), (bq_keeping, .inl (cI, 4, .inl b_keeping)), (bq_giverOf, .inl (cI, 8, .inl b_giverOf)), (bq_deedOf, .inl (cI, 8, .inl b_deedOf)), (bq_dayOf, .inl (cI, 8, .inl b_dayOf)), (bq_likelyOf, .inl (cI, 8, .inl b_likelyOf)), (bq_kindOf, .inl (cI, 8, .inl b_kindOf)), (bq_settledOf, .inl (cI, 8, .inl b_settledOf))]) H → va_D A ([(oh, .inr (2, [.ref oq_weights, .ref oq_rivals, .int b_promises, .int (1 <<< (b_promises &&& 31)), .int b_wax, .int b_stick, .int (o_settled_43 ||| 0)])), (oq_weights, .inl (cI, 8, .inl (upd o_weights_43 x3_43.toNatClampNeg z2))), (oq_rivals, .inl (cI, 8, .inl o_rivals_99)), (bh, .inr (4, [.int b_told, .int b_wax, .int b_stick, .int b_givers, .int b_promises, .int b_pan, .ref bq_keeping, .ref bq_giverOf, .ref bq_deedOf, .ref bq_dayOf, .ref bq_likelyOf, .ref bq_kindOf, .ref bq_settledOf])), (bq_keeping, .inl (cI, 4, .inl b_keeping)), (bq_giverOf, .inl (cI, 8, .inl b_giverOf)), (bq_deedOf, .inl (cI, 8, .inl b_deedOf)), (bq_dayOf, .inl (cI, 8, .inl b_dayOf)), (bq_likelyOf, .inl (cI, 8, .inl b_likelyOf)), (bq_kindOf, .inl (cI, 8, .inl b_kindOf)), (bq_settledOf, .inl (cI, 8, .inl b_settledOf))]) → va_S A s.heap H locs → lv_has ls 5 [(0, .ref oh), (1, .ref bh), (2, .int z2), (3, .int x3_43), (4, .int x4_99)] → f_X2_lookAt_L99 (f_X2_lookAt_L43 b_promises (1 <<< (b_promises &&& 31)) b_wax b_stick b_wax b_stick b_promises b_keeping b_giverOf b_deedOf b_dayOf b_likelyOf b_kindOf b_settledOf n_43) (upd o_weights_43 x3_43.toNatClampNeg z2) b_promises (1 <<< (b_promises &&& 31)) b_wax b_stick (o_settled_43 ||| 0) b_wax b_stick b_promises b_keeping b_giverOf b_deedOf b_dayOf b_likelyOf b_kindOf b_settledOf z2 x3_43 fuel o_rivals_99 x4_99 = some out → W p l e ({ frames := 3, cells := 0, slots := 0, locals := 68 } : Room) s m ([.ref oh, .ref bh] : List Value).toArray below meth c H locs 0 0 Q (F0 m 99 ls []) := by
            intro fuel
            induction fuel with
            | zero =>
              intro o_rivals_99 x4_99 H locs ls hP hD hS hl hf
              cases (show (none : Option ((Nat → Int32) × (Nat → Int32) × Int32 × Int32 × Int32 × Int32 × Int32)) = some out from hf)
            | succ n_99 ih_99 =>
              intro o_rivals_99 x4_99 H locs ls hP hD hS hl hf
              have hf := (f_X2_lookAt_L99_s (f_X2_lookAt_L43 b_promises (1 <<< (b_promises &&& 31)) b_wax b_stick b_wax b_stick b_promises b_keeping b_giverOf b_deedOf b_dayOf b_likelyOf b_kindOf b_settledOf n_43) (upd o_weights_43 x3_43.toNatClampNeg z2) b_promises (1 <<< (b_promises &&& 31)) b_wax b_stick (o_settled_43 ||| 0) b_wax b_stick b_promises b_keeping b_giverOf b_deedOf b_dayOf b_likelyOf b_kindOf b_settledOf z2 x3_43 n_99 o_rivals_99 x4_99).symm.trans hf
              refine lv_iload hx hb dX2_lookAt_99 (lv_at hl 4 rfl) ?_
              refine lv_aload_n hx hb dX2_lookAt_101 rfl (lv_at hl 0 rfl) ?_
              refine va_get (D := (dC, dI)) (ci := 2) (v := .int b_promises) (C := RX2) (T := TX2) (N := 7) hx hb hts hin2 hown hK hP 0 rfl rfl 2 (by decide) k24 (fun _ h9 => h9) rfl dX2_lookAt_102 ?_
              refine lv_icmp_ge (tgt := 141) hx hb dX2_lookAt_105 (by decide) (fun c7 => ?_) (fun c7 => ?_)
              · have hf := bs_t hf c7
                refine lv_iinc (v := x3_43 + 1) (lv' := [(3, .int (x3_43 + 1)), (0, .ref oh), (1, .ref bh), (2, .int z2), (4, .int x4_99)]) hx hb dX2_lookAt_141 hl (k := 3) rfl rfl (by decide) rfl (fun ls hl => ?_)
                refine lv_goto (tgt := 43) hx hb dX2_lookAt_144 (by decide) ?_
                exact ih_43 (upd o_weights_43 x3_43.toNatClampNeg z2) o_rivals_99 (o_settled_43 ||| 0) z2 (x3_43 + 1) H locs ls hP hD hS (lv_sub hl [1, 2, 3, 0] rfl) hf
              · have hf := bs_f hf c7
                refine lv_aload_n hx hb dX2_lookAt_108 rfl (lv_at hl 0 rfl) ?_
                refine va_get (D := (dC, dI)) (ci := 2) (v := .ref oq_rivals) (C := RX2) (T := TX2) (N := 7) hx hb hts hin2 hown hK hP 0 rfl rfl 1 (by decide) k15 (fun _ h9 => h9) rfl dX2_lookAt_109 ?_
                refine lv_iload_n hx hb dX2_lookAt_112 rfl (lv_at hl 3 rfl) ?_
                refine lv_dup2_11 hx hb dX2_lookAt_113 rfl rfl ?_
                obtain ⟨g8, hf⟩ := bs_g hf
                refine va_iald hx hb hK hP 2 0 rfl rfl (bs_inV g8) dX2_lookAt_114 ?_
                refine lv_aload_n hx hb dX2_lookAt_115 rfl (lv_at hl 1 rfl) ?_
                refine lv_iload_n hx hb dX2_lookAt_116 rfl (lv_at hl 3 rfl) ?_
                refine lv_iload hx hb dX2_lookAt_117 (lv_at hl 4 rfl) ?_
                obtain ⟨z9, hz9, hf⟩ := bs_b hf
                refine bs_cViR ⟨hx, hb, hml, hown, hts⟩ (k_X4_doClash l dC dI cI cZ cS cG bh bq_keeping bq_giverOf bq_deedOf bq_dayOf bq_likelyOf bq_kindOf bq_settledOf b_told b_wax b_stick b_givers b_promises b_pan b_keeping b_giverOf b_deedOf b_dayOf b_likelyOf b_kindOf b_settledOf x3_43 x4_99 z9 hz9) (cwV 2 hts gX2_lookAt_X4_doClash rfl rfl rfl (by decide +kernel) ⟨Nat.le_of_ble_eq_true rfl, Nat.le_of_ble_eq_true rfl⟩) hE hP hD hA hS [3, 4, 5, 6, 7, 8, 9, 10] rfl rfl 4 0 rfl rfl rfl rfl hl.1 (Nat.le_of_ble_eq_true rfl) dX2_lookAt_119 (fun H locs hP hS => ?_)
                refine lv_if_eq (tgt := 132) hx hb dX2_lookAt_122 (by decide) (fun c10 => ?_) (fun c10 => ?_)
                · have hf := bs_t hf c10
                  refine lv_iconst (v := 0) hx hb dX2_lookAt_132 (by decide) ?_
                  refine lv_ior hx hb dX2_lookAt_133 ?_
                  obtain ⟨g11, hf⟩ := bs_g hf
                  refine va_iast hx hb hK hP hD hS 2 0 rfl rfl (bs_inV g11) dX2_lookAt_134 (fun H locs hP hD hS => ?_)
                  have hP : va_P (dC, dI) vwCl ([(oh, .inr (2, [.ref oq_weights, .ref oq_rivals, .int b_promises, .int (1 <<< (b_promises &&& 31)), .int b_wax, .int b_stick, .int (o_settled_43 ||| 0)])), (oq_weights, .inl (cI, 8, .inl (upd o_weights_43 x3_43.toNatClampNeg z2))), (oq_rivals, .inl (cI, 8, .inl (upd o_rivals_99 x3_43.toNatClampNeg ((o_rivals_99 x3_43.toNatClampNeg) ||| 0)))), (bh, .inr (4, [.int b_told, .int b_wax, .int b_stick, .int b_givers, .int b_promises, .int b_pan, .ref bq_keeping, .ref bq_giverOf, .ref bq_deedOf, .ref bq_dayOf, .ref bq_likelyOf, .ref bq_kindOf, .ref bq_settledOf])), (bq_keeping, .inl (cI, 4, .inl b_keeping)), (bq_giverOf, .inl (cI, 8, .inl b_giverOf)), (bq_deedOf, .inl (cI, 8, .inl b_deedOf)), (bq_dayOf, .inl (cI, 8, .inl b_dayOf)), (bq_likelyOf, .inl (cI, 8, .inl b_likelyOf)), (bq_kindOf, .inl (cI, 8, .inl b_kindOf)), (bq_settledOf, .inl (cI, 8, .inl b_settledOf))]) H := hP
                  have hD : va_D A ([(oh, .inr (2, [.ref oq_weights, .ref oq_rivals, .int b_promises, .int (1 <<< (b_promises &&& 31)), .int b_wax, .int b_stick, .int (o_settled_43 ||| 0)])), (oq_weights, .inl (cI, 8, .inl (upd o_weights_43 x3_43.toNatClampNeg z2))), (oq_rivals, .inl (cI, 8, .inl (upd o_rivals_99 x3_43.toNatClampNeg ((o_rivals_99 x3_43.toNatClampNeg) ||| 0)))), (bh, .inr (4, [.int b_told, .int b_wax, .int b_stick, .int b_givers, .int b_promises, .int b_pan, .ref bq_keeping, .ref bq_giverOf, .ref bq_deedOf, .ref bq_dayOf, .ref bq_likelyOf, .ref bq_kindOf, .ref bq_settledOf])), (bq_keeping, .inl (cI, 4, .inl b_keeping)), (bq_giverOf, .inl (cI, 8, .inl b_giverOf)), (bq_deedOf, .inl (cI, 8, .inl b_deedOf)), (bq_dayOf, .inl (cI, 8, .inl b_dayOf)), (bq_likelyOf, .inl (cI, 8, .inl b_likelyOf)), (bq_kindOf, .inl (cI, 8, .inl b_kindOf)), (bq_settledOf, .inl (cI, 8, .inl b_settledOf))]) := hD
                  refine lv_iinc (v := x4_99 + 1) (lv' := [(4, .int (x4_99 + 1)), (0, .ref oh), (1, .ref bh), (2, .int z2), (3, .int x3_43)]) hx hb dX2_lookAt_135 hl (k := 4) rfl rfl (by decide) rfl (fun ls hl => ?_)
                  refine lv_goto (tgt := 99) hx hb dX2_lookAt_138 (by decide) ?_
                  exact ih_99 (upd o_rivals_99 x3_43.toNatClampNeg ((o_rivals_99 x3_43.toNatClampNeg) ||| 0)) (x4_99 + 1) H locs ls hP hD hS (lv_sub hl [1, 2, 3, 4, 0] rfl) hf
                · have hf := bs_f hf c10
                  refine lv_iconst (v := 1) hx hb dX2_lookAt_125 (by decide) ?_
                  refine lv_iload hx hb dX2_lookAt_126 (lv_at hl 4 rfl) ?_
                  refine lv_ishl hx hb dX2_lookAt_128 ?_
                  refine lv_goto (tgt := 133) hx hb dX2_lookAt_129 (by decide) ?_
                  refine lv_ior hx hb dX2_lookAt_133 ?_
                  obtain ⟨g12, hf⟩ := bs_g hf
                  refine va_iast hx hb hK hP hD hS 2 0 rfl rfl (bs_inV g12) dX2_lookAt_134 (fun H locs hP hD hS => ?_)
                  have hP : va_P (dC, dI) vwCl ([(oh, .inr (2, [.ref oq_weights, .ref oq_rivals, .int b_promises, .int (1 <<< (b_promises &&& 31)), .int b_wax, .int b_stick, .int (o_settled_43 ||| 0)])), (oq_weights, .inl (cI, 8, .inl (upd o_weights_43 x3_43.toNatClampNeg z2))), (oq_rivals, .inl (cI, 8, .inl (upd o_rivals_99 x3_43.toNatClampNeg ((o_rivals_99 x3_43.toNatClampNeg) ||| (1 <<< (x4_99 &&& 31)))))), (bh, .inr (4, [.int b_told, .int b_wax, .int b_stick, .int b_givers, .int b_promises, .int b_pan, .ref bq_keeping, .ref bq_giverOf, .ref bq_deedOf, .ref bq_dayOf, .ref bq_likelyOf, .ref bq_kindOf, .ref bq_settledOf])), (bq_keeping, .inl (cI, 4, .inl b_keeping)), (bq_giverOf, .inl (cI, 8, .inl b_giverOf)), (bq_deedOf, .inl (cI, 8, .inl b_deedOf)), (bq_dayOf, .inl (cI, 8, .inl b_dayOf)), (bq_likelyOf, .inl (cI, 8, .inl b_likelyOf)), (bq_kindOf, .inl (cI, 8, .inl b_kindOf)), (bq_settledOf, .inl (cI, 8, .inl b_settledOf))]) H := hP
                  have hD : va_D A ([(oh, .inr (2, [.ref oq_weights, .ref oq_rivals, .int b_promises, .int (1 <<< (b_promises &&& 31)), .int b_wax, .int b_stick, .int (o_settled_43 ||| 0)])), (oq_weights, .inl (cI, 8, .inl (upd o_weights_43 x3_43.toNatClampNeg z2))), (oq_rivals, .inl (cI, 8, .inl (upd o_rivals_99 x3_43.toNatClampNeg ((o_rivals_99 x3_43.toNatClampNeg) ||| (1 <<< (x4_99 &&& 31)))))), (bh, .inr (4, [.int b_told, .int b_wax, .int b_stick, .int b_givers, .int b_promises, .int b_pan, .ref bq_keeping, .ref bq_giverOf, .ref bq_deedOf, .ref bq_dayOf, .ref bq_likelyOf, .ref bq_kindOf, .ref bq_settledOf])), (bq_keeping, .inl (cI, 4, .inl b_keeping)), (bq_giverOf, .inl (cI, 8, .inl b_giverOf)), (bq_deedOf, .inl (cI, 8, .inl b_deedOf)), (bq_dayOf, .inl (cI, 8, .inl b_dayOf)), (bq_likelyOf, .inl (cI, 8, .inl b_likelyOf)), (bq_kindOf, .inl (cI, 8, .inl b_kindOf)), (bq_settledOf, .inl (cI, 8, .inl b_settledOf))]) := hD
                  refine lv_iinc (v := x4_99 + 1) (lv' := [(4, .int (x4_99 + 1)), (0, .ref oh), (1, .ref bh), (2, .int z2), (3, .int x3_43)]) hx hb dX2_lookAt_135 hl (k := 4) rfl rfl (by decide) rfl (fun ls hl => ?_)
                  refine lv_goto (tgt := 99) hx hb dX2_lookAt_138 (by decide) ?_
                  exact ih_99 (upd o_rivals_99 x3_43.toNatClampNeg ((o_rivals_99 x3_43.toNatClampNeg) ||| (1 <<< (x4_99 &&& 31)))) (x4_99 + 1) H locs ls hP hD hS (lv_sub hl [1, 2, 3, 4, 0] rfl) hf
          exact L_99 bs_F (upd o_rivals_43 x3_43.toNatClampNeg 0) (0 : Int32) H locs ls hP hD hS (lv_sub hl [2, 3, 1, 4, 0] rfl) hf
        · have hf := bs_f hf c5
          refine lv_iconst (v := 1) hx hb dX2_lookAt_78 (by decide) ?_
          refine lv_iload_n hx hb dX2_lookAt_79 rfl (lv_at hl 3 rfl) ?_
          refine lv_ishl hx hb dX2_lookAt_80 ?_
          refine lv_goto (tgt := 85) hx hb dX2_lookAt_81 (by decide) ?_
          refine lv_ior hx hb dX2_lookAt_85 ?_
          refine va_put (D := (dC, dI)) (ci := 2) (v := .int (o_settled_43 ||| (1 <<< (x3_43 &&& 31)))) (ty := .int) (C := RX2) (T := TX2) (N := 7) hx hb hts hin2 tyX2 tyX2_ok nmX2 hown hK hP hD hS 0 rfl rfl 6 (by decide) k36 (fun _ h9 => h9) rfl (by decide +kernel) rfl rfl (Nat.le_of_ble_eq_true rfl) dX2_lookAt_86 (fun H locs hP hD hS => ?_)
          have hP : va_P (dC, dI) vwCl ([(oh, .inr (2, [.ref oq_weights, .ref oq_rivals, .int b_promises, .int (1 <<< (b_promises &&& 31)), .int b_wax, .int b_stick, .int (o_settled_43 ||| (1 <<< (x3_43 &&& 31)))])), (oq_weights, .inl (cI, 8, .inl (upd o_weights_43 x3_43.toNatClampNeg z2))), (oq_rivals, .inl (cI, 8, .inl o_rivals_43)), (bh, .inr (4, [.int b_told, .int b_wax, .int b_stick, .int b_givers, .int b_promises, .int b_pan, .ref bq_keeping, .ref bq_giverOf, .ref bq_deedOf, .ref bq_dayOf, .ref bq_likelyOf, .ref bq_kindOf, .ref bq_settledOf])), (bq_keeping, .inl (cI, 4, .inl b_keeping)), (bq_giverOf, .inl (cI, 8, .inl b_giverOf)), (bq_deedOf, .inl (cI, 8, .inl b_deedOf)), (bq_dayOf, .inl (cI, 8, .inl b_dayOf)), (bq_likelyOf, .inl (cI, 8, .inl b_likelyOf)), (bq_kindOf, .inl (cI, 8, .inl b_kindOf)), (bq_settledOf, .inl (cI, 8, .inl b_settledOf))]) H := hP
          have hD : va_D A ([(oh, .inr (2, [.ref oq_weights, .ref oq_rivals, .int b_promises, .int (1 <<< (b_promises &&& 31)), .int b_wax, .int b_stick, .int (o_settled_43 ||| (1 <<< (x3_43 &&& 31)))])), (oq_weights, .inl (cI, 8, .inl (upd o_weights_43 x3_43.toNatClampNeg z2))), (oq_rivals, .inl (cI, 8, .inl o_rivals_43)), (bh, .inr (4, [.int b_told, .int b_wax, .int b_stick, .int b_givers, .int b_promises, .int b_pan, .ref bq_keeping, .ref bq_giverOf, .ref bq_deedOf, .ref bq_dayOf, .ref bq_likelyOf, .ref bq_kindOf, .ref bq_settledOf])), (bq_keeping, .inl (cI, 4, .inl b_keeping)), (bq_giverOf, .inl (cI, 8, .inl b_giverOf)), (bq_deedOf, .inl (cI, 8, .inl b_deedOf)), (bq_dayOf, .inl (cI, 8, .inl b_dayOf)), (bq_likelyOf, .inl (cI, 8, .inl b_likelyOf)), (bq_kindOf, .inl (cI, 8, .inl b_kindOf)), (bq_settledOf, .inl (cI, 8, .inl b_settledOf))]) := hD
          refine lv_aload_n hx hb dX2_lookAt_89 rfl (lv_at hl 1 rfl) ?_
          refine va_get (D := (dC, dI)) (ci := 2) (v := .ref oq_rivals) (C := RX2) (T := TX2) (N := 7) hx hb hts hin2 hown hK hP 0 rfl rfl 1 (by decide) k15 (fun _ h9 => h9) rfl dX2_lookAt_90 ?_
          refine lv_iload_n hx hb dX2_lookAt_93 rfl (lv_at hl 3 rfl) ?_
          refine lv_iconst (v := 0) hx hb dX2_lookAt_94 (by decide) ?_
          obtain ⟨g13, hf⟩ := bs_g hf
          refine va_iast hx hb hK hP hD hS 2 0 rfl rfl (bs_inV g13) dX2_lookAt_95 (fun H locs hP hD hS => ?_)
          have hP : va_P (dC, dI) vwCl ([(oh, .inr (2, [.ref oq_weights, .ref oq_rivals, .int b_promises, .int (1 <<< (b_promises &&& 31)), .int b_wax, .int b_stick, .int (o_settled_43 ||| (1 <<< (x3_43 &&& 31)))])), (oq_weights, .inl (cI, 8, .inl (upd o_weights_43 x3_43.toNatClampNeg z2))), (oq_rivals, .inl (cI, 8, .inl (upd o_rivals_43 x3_43.toNatClampNeg 0))), (bh, .inr (4, [.int b_told, .int b_wax, .int b_stick, .int b_givers, .int b_promises, .int b_pan, .ref bq_keeping, .ref bq_giverOf, .ref bq_deedOf, .ref bq_dayOf, .ref bq_likelyOf, .ref bq_kindOf, .ref bq_settledOf])), (bq_keeping, .inl (cI, 4, .inl b_keeping)), (bq_giverOf, .inl (cI, 8, .inl b_giverOf)), (bq_deedOf, .inl (cI, 8, .inl b_deedOf)), (bq_dayOf, .inl (cI, 8, .inl b_dayOf)), (bq_likelyOf, .inl (cI, 8, .inl b_likelyOf)), (bq_kindOf, .inl (cI, 8, .inl b_kindOf)), (bq_settledOf, .inl (cI, 8, .inl b_settledOf))]) H := hP
          have hD : va_D A ([(oh, .inr (2, [.ref oq_weights, .ref oq_rivals, .int b_promises, .int (1 <<< (b_promises &&& 31)), .int b_wax, .int b_stick, .int (o_settled_43 ||| (1 <<< (x3_43 &&& 31)))])), (oq_weights, .inl (cI, 8, .inl (upd o_weights_43 x3_43.toNatClampNeg z2))), (oq_rivals, .inl (cI, 8, .inl (upd o_rivals_43 x3_43.toNatClampNeg 0))), (bh, .inr (4, [.int b_told, .int b_wax, .int b_stick, .int b_givers, .int b_promises, .int b_pan, .ref bq_keeping, .ref bq_giverOf, .ref bq_deedOf, .ref bq_dayOf, .ref bq_likelyOf, .ref bq_kindOf, .ref bq_settledOf])), (bq_keeping, .inl (cI, 4, .inl b_keeping)), (bq_giverOf, .inl (cI, 8, .inl b_giverOf)), (bq_deedOf, .inl (cI, 8, .inl b_deedOf)), (bq_dayOf, .inl (cI, 8, .inl b_dayOf)), (bq_likelyOf, .inl (cI, 8, .inl b_likelyOf)), (bq_kindOf, .inl (cI, 8, .inl b_kindOf)), (bq_settledOf, .inl (cI, 8, .inl b_settledOf))]) := hD
          refine lv_iconst (v := 0) hx hb dX2_lookAt_96 (by decide) ?_
          refine lv_istore (lv' := [(4, .int 0), (2, .int z2), (0, .ref oh), (1, .ref bh), (3, .int x3_43)]) hx hb dX2_lookAt_97 hl (by decide) rfl (fun ls hl => ?_)
          have L_99 : ∀ (fuel : Nat) (o_rivals_99 : Nat → Int32) (x4_99 : Int32) (H : Heap) (locs : List Loc) (ls : Array Slot), va_P (dC, dI) vwCl ([(oh, .inr (2, [.ref oq_weights, .ref oq_rivals, .int b_promises, .int (1 <<< (b_promises &&& 31)), .int b_wax, .int b_stick, .int (o_settled_43 ||| (1 <<< (x3_43 &&& 31)))])), (oq_weights, .inl (cI, 8, .inl (upd o_weights_43 x3_43.toNatClampNeg z2))), (oq_rivals, .inl (cI, 8, .inl o_rivals_99)), (bh, .inr (4, [.int b_told, .int b_wax, .int b_stick, .int b_givers, .int b_promises, .int b_pan, .ref bq_keeping, .ref bq_giverOf, .ref bq_deedOf, .ref bq_dayOf, .ref bq_likelyOf, .ref bq_kindOf, .ref bq_settledOf])), (bq_keeping, .inl (cI, 4, .inl b_keeping)), (bq_giverOf, .inl (cI, 8, .inl b_giverOf)), (bq_deedOf, .inl (cI, 8, .inl b_deedOf)), (bq_dayOf, .inl (cI, 8, .inl b_dayOf)), (bq_likelyOf, .inl (cI, 8, .inl b_likelyOf)), (bq_kindOf, .inl (cI, 8, .inl b_kindOf)), (bq_settledOf, .inl (cI, 8, .inl b_settledOf))]) H → va_D A ([(oh, .inr (2, [.ref oq_weights, .ref oq_rivals, .int b_promises, .int (1 <<< (b_promises &&& 31)), .int b_wax, .int b_stick, .int (o_settled_43 ||| (1 <<< (x3_43 &&& 31)))])), (oq_weights, .inl (cI, 8, .inl (upd o_weights_43 x3_43.toNatClampNeg z2))), (oq_rivals, .inl (cI, 8, .inl o_rivals_99)), (bh, .inr (4, [.int b_told, .int b_wax, .int b_stick, .int b_givers, .int b_promises, .int b_pan, .ref bq_keeping, .ref bq_giverOf, .ref bq_deedOf, .ref bq_dayOf, .ref bq_likelyOf, .ref bq_kindOf, .ref bq_settledOf])), (bq_keeping, .inl (cI, 4, .inl b_keeping)), (bq_giverOf, .inl (cI, 8, .inl b_giverOf)), (bq_deedOf, .inl (cI, 8, .inl b_deedOf)), (bq_dayOf, .inl (cI, 8, .inl b_dayOf)), (bq_likelyOf, .inl (cI, 8, .inl b_likelyOf)), (bq_kindOf, .inl (cI, 8, .inl b_kindOf)), (bq_settledOf, .inl (cI, 8, .inl b_settledOf))]) → va_S A s.heap H locs → lv_has ls 5 [(0, .ref oh), (1, .ref bh), (2, .int z2), (3, .int x3_43), (4, .int x4_99)] → f_X2_lookAt_L99 (f_X2_lookAt_L43 b_promises (1 <<< (b_promises &&& 31)) b_wax b_stick b_wax b_stick b_promises b_keeping b_giverOf b_deedOf b_dayOf b_likelyOf b_kindOf b_settledOf n_43) (upd o_weights_43 x3_43.toNatClampNeg z2) b_promises (1 <<< (b_promises &&& 31)) b_wax b_stick (o_settled_43 ||| (1 <<< (x3_43 &&& 31))) b_wax b_stick b_promises b_keeping b_giverOf b_deedOf b_dayOf b_likelyOf b_kindOf b_settledOf z2 x3_43 fuel o_rivals_99 x4_99 = some out → W p l e ({ frames := 3, cells := 0, slots := 0, locals := 68 } : Room) s m ([.ref oh, .ref bh] : List Value).toArray below meth c H locs 0 0 Q (F0 m 99 ls []) := by
            intro fuel
            induction fuel with
            | zero =>
              intro o_rivals_99 x4_99 H locs ls hP hD hS hl hf
              cases (show (none : Option ((Nat → Int32) × (Nat → Int32) × Int32 × Int32 × Int32 × Int32 × Int32)) = some out from hf)
            | succ n_99 ih_99 =>
              intro o_rivals_99 x4_99 H locs ls hP hD hS hl hf
              have hf := (f_X2_lookAt_L99_s (f_X2_lookAt_L43 b_promises (1 <<< (b_promises &&& 31)) b_wax b_stick b_wax b_stick b_promises b_keeping b_giverOf b_deedOf b_dayOf b_likelyOf b_kindOf b_settledOf n_43) (upd o_weights_43 x3_43.toNatClampNeg z2) b_promises (1 <<< (b_promises &&& 31)) b_wax b_stick (o_settled_43 ||| (1 <<< (x3_43 &&& 31))) b_wax b_stick b_promises b_keeping b_giverOf b_deedOf b_dayOf b_likelyOf b_kindOf b_settledOf z2 x3_43 n_99 o_rivals_99 x4_99).symm.trans hf
              refine lv_iload hx hb dX2_lookAt_99 (lv_at hl 4 rfl) ?_
              refine lv_aload_n hx hb dX2_lookAt_101 rfl (lv_at hl 0 rfl) ?_
              refine va_get (D := (dC, dI)) (ci := 2) (v := .int b_promises) (C := RX2) (T := TX2) (N := 7) hx hb hts hin2 hown hK hP 0 rfl rfl 2 (by decide) k24 (fun _ h9 => h9) rfl dX2_lookAt_102 ?_
              refine lv_icmp_ge (tgt := 141) hx hb dX2_lookAt_105 (by decide) (fun c14 => ?_) (fun c14 => ?_)
              · have hf := bs_t hf c14
                refine lv_iinc (v := x3_43 + 1) (lv' := [(3, .int (x3_43 + 1)), (0, .ref oh), (1, .ref bh), (2, .int z2), (4, .int x4_99)]) hx hb dX2_lookAt_141 hl (k := 3) rfl rfl (by decide) rfl (fun ls hl => ?_)
                refine lv_goto (tgt := 43) hx hb dX2_lookAt_144 (by decide) ?_
                exact ih_43 (upd o_weights_43 x3_43.toNatClampNeg z2) o_rivals_99 (o_settled_43 ||| (1 <<< (x3_43 &&& 31))) z2 (x3_43 + 1) H locs ls hP hD hS (lv_sub hl [1, 2, 3, 0] rfl) hf
              · have hf := bs_f hf c14
                refine lv_aload_n hx hb dX2_lookAt_108 rfl (lv_at hl 0 rfl) ?_
                refine va_get (D := (dC, dI)) (ci := 2) (v := .ref oq_rivals) (C := RX2) (T := TX2) (N := 7) hx hb hts hin2 hown hK hP 0 rfl rfl 1 (by decide) k15 (fun _ h9 => h9) rfl dX2_lookAt_109 ?_
                refine lv_iload_n hx hb dX2_lookAt_112 rfl (lv_at hl 3 rfl) ?_
                refine lv_dup2_11 hx hb dX2_lookAt_113 rfl rfl ?_
                obtain ⟨g15, hf⟩ := bs_g hf
                refine va_iald hx hb hK hP 2 0 rfl rfl (bs_inV g15) dX2_lookAt_114 ?_
                refine lv_aload_n hx hb dX2_lookAt_115 rfl (lv_at hl 1 rfl) ?_
                refine lv_iload_n hx hb dX2_lookAt_116 rfl (lv_at hl 3 rfl) ?_
                refine lv_iload hx hb dX2_lookAt_117 (lv_at hl 4 rfl) ?_
                obtain ⟨z16, hz16, hf⟩ := bs_b hf
                refine bs_cViR ⟨hx, hb, hml, hown, hts⟩ (k_X4_doClash l dC dI cI cZ cS cG bh bq_keeping bq_giverOf bq_deedOf bq_dayOf bq_likelyOf bq_kindOf bq_settledOf b_told b_wax b_stick b_givers b_promises b_pan b_keeping b_giverOf b_deedOf b_dayOf b_likelyOf b_kindOf b_settledOf x3_43 x4_99 z16 hz16) (cwV 2 hts gX2_lookAt_X4_doClash rfl rfl rfl (by decide +kernel) ⟨Nat.le_of_ble_eq_true rfl, Nat.le_of_ble_eq_true rfl⟩) hE hP hD hA hS [3, 4, 5, 6, 7, 8, 9, 10] rfl rfl 4 0 rfl rfl rfl rfl hl.1 (Nat.le_of_ble_eq_true rfl) dX2_lookAt_119 (fun H locs hP hS => ?_)
                refine lv_if_eq (tgt := 132) hx hb dX2_lookAt_122 (by decide) (fun c17 => ?_) (fun c17 => ?_)
                · have hf := bs_t hf c17
                  refine lv_iconst (v := 0) hx hb dX2_lookAt_132 (by decide) ?_
                  refine lv_ior hx hb dX2_lookAt_133 ?_
                  obtain ⟨g18, hf⟩ := bs_g hf
                  refine va_iast hx hb hK hP hD hS 2 0 rfl rfl (bs_inV g18) dX2_lookAt_134 (fun H locs hP hD hS => ?_)
                  have hP : va_P (dC, dI) vwCl ([(oh, .inr (2, [.ref oq_weights, .ref oq_rivals, .int b_promises, .int (1 <<< (b_promises &&& 31)), .int b_wax, .int b_stick, .int (o_settled_43 ||| (1 <<< (x3_43 &&& 31)))])), (oq_weights, .inl (cI, 8, .inl (upd o_weights_43 x3_43.toNatClampNeg z2))), (oq_rivals, .inl (cI, 8, .inl (upd o_rivals_99 x3_43.toNatClampNeg ((o_rivals_99 x3_43.toNatClampNeg) ||| 0)))), (bh, .inr (4, [.int b_told, .int b_wax, .int b_stick, .int b_givers, .int b_promises, .int b_pan, .ref bq_keeping, .ref bq_giverOf, .ref bq_deedOf, .ref bq_dayOf, .ref bq_likelyOf, .ref bq_kindOf, .ref bq_settledOf])), (bq_keeping, .inl (cI, 4, .inl b_keeping)), (bq_giverOf, .inl (cI, 8, .inl b_giverOf)), (bq_deedOf, .inl (cI, 8, .inl b_deedOf)), (bq_dayOf, .inl (cI, 8, .inl b_dayOf)), (bq_likelyOf, .inl (cI, 8, .inl b_likelyOf)), (bq_kindOf, .inl (cI, 8, .inl b_kindOf)), (bq_settledOf, .inl (cI, 8, .inl b_settledOf))]) H := hP
                  have hD : va_D A ([(oh, .inr (2, [.ref oq_weights, .ref oq_rivals, .int b_promises, .int (1 <<< (b_promises &&& 31)), .int b_wax, .int b_stick, .int (o_settled_43 ||| (1 <<< (x3_43 &&& 31)))])), (oq_weights, .inl (cI, 8, .inl (upd o_weights_43 x3_43.toNatClampNeg z2))), (oq_rivals, .inl (cI, 8, .inl (upd o_rivals_99 x3_43.toNatClampNeg ((o_rivals_99 x3_43.toNatClampNeg) ||| 0)))), (bh, .inr (4, [.int b_told, .int b_wax, .int b_stick, .int b_givers, .int b_promises, .int b_pan, .ref bq_keeping, .ref bq_giverOf, .ref bq_deedOf, .ref bq_dayOf, .ref bq_likelyOf, .ref bq_kindOf, .ref bq_settledOf])), (bq_keeping, .inl (cI, 4, .inl b_keeping)), (bq_giverOf, .inl (cI, 8, .inl b_giverOf)), (bq_deedOf, .inl (cI, 8, .inl b_deedOf)), (bq_dayOf, .inl (cI, 8, .inl b_dayOf)), (bq_likelyOf, .inl (cI, 8, .inl b_likelyOf)), (bq_kindOf, .inl (cI, 8, .inl b_kindOf)), (bq_settledOf, .inl (cI, 8, .inl b_settledOf))]) := hD
                  refine lv_iinc (v := x4_99 + 1) (lv' := [(4, .int (x4_99 + 1)), (0, .ref oh), (1, .ref bh), (2, .int z2), (3, .int x3_43)]) hx hb dX2_lookAt_135 hl (k := 4) rfl rfl (by decide) rfl (fun ls hl => ?_)
                  refine lv_goto (tgt := 99) hx hb dX2_lookAt_138 (by decide) ?_
                  exact ih_99 (upd o_rivals_99 x3_43.toNatClampNeg ((o_rivals_99 x3_43.toNatClampNeg) ||| 0)) (x4_99 + 1) H locs ls hP hD hS (lv_sub hl [1, 2, 3, 4, 0] rfl) hf
                · have hf := bs_f hf c17
                  refine lv_iconst (v := 1) hx hb dX2_lookAt_125 (by decide) ?_
                  refine lv_iload hx hb dX2_lookAt_126 (lv_at hl 4 rfl) ?_
                  refine lv_ishl hx hb dX2_lookAt_128 ?_
                  refine lv_goto (tgt := 133) hx hb dX2_lookAt_129 (by decide) ?_
                  refine lv_ior hx hb dX2_lookAt_133 ?_
                  obtain ⟨g19, hf⟩ := bs_g hf
                  refine va_iast hx hb hK hP hD hS 2 0 rfl rfl (bs_inV g19) dX2_lookAt_134 (fun H locs hP hD hS => ?_)
                  have hP : va_P (dC, dI) vwCl ([(oh, .inr (2, [.ref oq_weights, .ref oq_rivals, .int b_promises, .int (1 <<< (b_promises &&& 31)), .int b_wax, .int b_stick, .int (o_settled_43 ||| (1 <<< (x3_43 &&& 31)))])), (oq_weights, .inl (cI, 8, .inl (upd o_weights_43 x3_43.toNatClampNeg z2))), (oq_rivals, .inl (cI, 8, .inl (upd o_rivals_99 x3_43.toNatClampNeg ((o_rivals_99 x3_43.toNatClampNeg) ||| (1 <<< (x4_99 &&& 31)))))), (bh, .inr (4, [.int b_told, .int b_wax, .int b_stick, .int b_givers, .int b_promises, .int b_pan, .ref bq_keeping, .ref bq_giverOf, .ref bq_deedOf, .ref bq_dayOf, .ref bq_likelyOf, .ref bq_kindOf, .ref bq_settledOf])), (bq_keeping, .inl (cI, 4, .inl b_keeping)), (bq_giverOf, .inl (cI, 8, .inl b_giverOf)), (bq_deedOf, .inl (cI, 8, .inl b_deedOf)), (bq_dayOf, .inl (cI, 8, .inl b_dayOf)), (bq_likelyOf, .inl (cI, 8, .inl b_likelyOf)), (bq_kindOf, .inl (cI, 8, .inl b_kindOf)), (bq_settledOf, .inl (cI, 8, .inl b_settledOf))]) H := hP
                  have hD : va_D A ([(oh, .inr (2, [.ref oq_weights, .ref oq_rivals, .int b_promises, .int (1 <<< (b_promises &&& 31)), .int b_wax, .int b_stick, .int (o_settled_43 ||| (1 <<< (x3_43 &&& 31)))])), (oq_weights, .inl (cI, 8, .inl (upd o_weights_43 x3_43.toNatClampNeg z2))), (oq_rivals, .inl (cI, 8, .inl (upd o_rivals_99 x3_43.toNatClampNeg ((o_rivals_99 x3_43.toNatClampNeg) ||| (1 <<< (x4_99 &&& 31)))))), (bh, .inr (4, [.int b_told, .int b_wax, .int b_stick, .int b_givers, .int b_promises, .int b_pan, .ref bq_keeping, .ref bq_giverOf, .ref bq_deedOf, .ref bq_dayOf, .ref bq_likelyOf, .ref bq_kindOf, .ref bq_settledOf])), (bq_keeping, .inl (cI, 4, .inl b_keeping)), (bq_giverOf, .inl (cI, 8, .inl b_giverOf)), (bq_deedOf, .inl (cI, 8, .inl b_deedOf)), (bq_dayOf, .inl (cI, 8, .inl b_dayOf)), (bq_likelyOf, .inl (cI, 8, .inl b_likelyOf)), (bq_kindOf, .inl (cI, 8, .inl b_kindOf)), (bq_settledOf, .inl (cI, 8, .inl b_settledOf))]) := hD
                  refine lv_iinc (v := x4_99 + 1) (lv' := [(4, .int (x4_99 + 1)), (0, .ref oh), (1, .ref bh), (2, .int z2), (3, .int x3_43)]) hx hb dX2_lookAt_135 hl (k := 4) rfl rfl (by decide) rfl (fun ls hl => ?_)
                  refine lv_goto (tgt := 99) hx hb dX2_lookAt_138 (by decide) ?_
                  exact ih_99 (upd o_rivals_99 x3_43.toNatClampNeg ((o_rivals_99 x3_43.toNatClampNeg) ||| (1 <<< (x4_99 &&& 31)))) (x4_99 + 1) H locs ls hP hD hS (lv_sub hl [1, 2, 3, 4, 0] rfl) hf
          exact L_99 bs_F (upd o_rivals_43 x3_43.toNatClampNeg 0) (0 : Int32) H locs ls hP hD hS (lv_sub hl [2, 3, 1, 4, 0] rfl) hf
  exact L_43 bs_F o_weights o_rivals 0 (0 : Int32) (0 : Int32) H locs ls hP hD hS (lv_sub hl [2, 3, 1, 0] rfl) hf
set_option maxHeartbeats 4000000 in
set_option maxRecDepth 100000 in
theorem k_X2_weightOf (l : Launch) (dC : Nat → ClassId) (dI : Nat → Nat → Nat) (cI cZ cS cG : ClassId) (oh : Nat) (oq_weights : Nat) (oq_rivals : Nat) (o_weights : Nat → Int32) (o_rivals : Nat → Int32) (o_promises : Int32) (o_sets : Int32) (o_wax : Int32) (o_stick : Int32) (o_settled : Int32) (p1 : Int32) (out : Int32) (hf : f_X2_weightOf o_weights o_promises p1 = some out) : bs_C l dC dI cI cZ cS cG yX2_weightOf wsX2_weightOf ({ frames := 0, cells := 0, slots := 0, locals := 0 } : Room) [.ref oh, .int p1] ([(oh, .inr (2, [.ref oq_weights, .ref oq_rivals, .int o_promises, .int o_sets, .int o_wax, .int o_stick, .int o_settled])), (oq_weights, .inl (cI, 8, .inl o_weights)), (oq_rivals, .inl (cI, 8, .inl o_rivals))]) out ([(oh, .inr (2, [.ref oq_weights, .ref oq_rivals, .int o_promises, .int o_sets, .int o_wax, .int o_stick, .int o_settled])), (oq_weights, .inl (cI, 8, .inl o_weights)), (oq_rivals, .inl (cI, 8, .inl o_rivals))]) := by
  refine bs_ofI (cc := cX2_weightOf) (maxL := 4) (by decide) rfl (Nat.le_of_ble_eq_true rfl) ?_
  intro p e s m below meth c A Q hx hb hown hml hts hE H locs hP hD hA hS ls hl hret
  have hK := hE.1
  have hl : lv_has ls 4 [(0, .ref oh), (1, .int p1)] := hl
  have hin2 : ∀ w ∈ u_ws RX2 TX2 7, w ∈ wsX2_weightOf := by decide +kernel
  have k9 := hts (.fieldLink RX2 9 "PromiseScales$Bags" "weights" "[I") (by decide +kernel)
  have k24 := hts (.fieldLink RX2 24 "PromiseScales$Bags" "promises" "I") (by decide +kernel)
  unfold f_X2_weightOf at hf
  refine lv_iconst (v := 0) hx hb dX2_weightOf_0 (by decide) ?_
  refine lv_istore_n (lv' := [(2, .int 0), (0, .ref oh), (1, .int p1)]) hx hb dX2_weightOf_1 rfl hl (by decide) rfl (fun ls hl => ?_)
  refine lv_iconst (v := 0) hx hb dX2_weightOf_2 (by decide) ?_
  refine lv_istore_n (lv' := [(3, .int 0), (2, .int 0), (0, .ref oh), (1, .int p1)]) hx hb dX2_weightOf_3 rfl hl (by decide) rfl (fun ls hl => ?_)
  have L_4 : ∀ (fuel : Nat) (x2_4 : Int32) (x3_4 : Int32) (H : Heap) (locs : List Loc) (ls : Array Slot), va_P (dC, dI) vwCl ([(oh, .inr (2, [.ref oq_weights, .ref oq_rivals, .int o_promises, .int o_sets, .int o_wax, .int o_stick, .int o_settled])), (oq_weights, .inl (cI, 8, .inl o_weights)), (oq_rivals, .inl (cI, 8, .inl o_rivals))]) H → va_D A ([(oh, .inr (2, [.ref oq_weights, .ref oq_rivals, .int o_promises, .int o_sets, .int o_wax, .int o_stick, .int o_settled])), (oq_weights, .inl (cI, 8, .inl o_weights)), (oq_rivals, .inl (cI, 8, .inl o_rivals))]) → va_S A s.heap H locs → lv_has ls 4 [(0, .ref oh), (1, .int p1), (2, .int x2_4), (3, .int x3_4)] → f_X2_weightOf_L4 o_weights o_promises p1 fuel x2_4 x3_4 = some out → W p l e ({ frames := 0, cells := 0, slots := 0, locals := 0 } : Room) s m ([.ref oh, .int p1] : List Value).toArray below meth c H locs 0 0 Q (F0 m 4 ls []) := by
    intro fuel
    induction fuel with
    | zero =>
      intro x2_4 x3_4 H locs ls hP hD hS hl hf
      cases (show (none : Option (Int32)) = some out from hf)
    | succ n_4 ih_4 =>
      intro x2_4 x3_4 H locs ls hP hD hS hl hf
      have hf := (f_X2_weightOf_L4_s o_weights o_promises p1 n_4 x2_4 x3_4).symm.trans hf
      refine lv_iload_n hx hb dX2_weightOf_4 rfl (lv_at hl 3 rfl) ?_
      refine lv_aload_n hx hb dX2_weightOf_5 rfl (lv_at hl 0 rfl) ?_
      refine va_get (D := (dC, dI)) (ci := 2) (v := .int o_promises) (C := RX2) (T := TX2) (N := 7) hx hb hts hin2 hown hK hP 0 rfl rfl 2 (by decide) k24 (fun _ h9 => h9) rfl dX2_weightOf_6 ?_
      refine lv_icmp_ge (tgt := 40) hx hb dX2_weightOf_9 (by decide) (fun c1 => ?_) (fun c1 => ?_)
      · have hf := bs_t hf c1
        refine lv_iload_n hx hb dX2_weightOf_40 rfl (lv_at hl 2 rfl) ?_
        obtain rfl := Option.some.inj hf
        exact hret H locs _ _ hP hS rfl dX2_weightOf_41
      · have hf := bs_f hf c1
        refine lv_iload_n hx hb dX2_weightOf_12 rfl (lv_at hl 2 rfl) ?_
        refine lv_iload_n hx hb dX2_weightOf_13 rfl (lv_at hl 1 rfl) ?_
        refine lv_iload_n hx hb dX2_weightOf_14 rfl (lv_at hl 3 rfl) ?_
        refine lv_ishr hx hb dX2_weightOf_15 ?_
        refine lv_iconst (v := 1) hx hb dX2_weightOf_16 (by decide) ?_
        refine lv_iand hx hb dX2_weightOf_17 ?_
        refine lv_iconst (v := 1) hx hb dX2_weightOf_18 (by decide) ?_
        refine lv_icmp_ne (tgt := 31) hx hb dX2_weightOf_19 (by decide) (fun c2 => ?_) (fun c2 => ?_)
        · have hf := bs_f hf c2
          refine lv_iconst (v := 0) hx hb dX2_weightOf_31 (by decide) ?_
          refine lv_iadd hx hb dX2_weightOf_32 ?_
          refine lv_istore_n (lv' := [(2, .int (x2_4 + 0)), (0, .ref oh), (1, .int p1), (3, .int x3_4)]) hx hb dX2_weightOf_33 rfl hl (by decide) rfl (fun ls hl => ?_)
          refine lv_iinc (v := x3_4 + 1) (lv' := [(3, .int (x3_4 + 1)), (2, .int (x2_4 + 0)), (0, .ref oh), (1, .int p1)]) hx hb dX2_weightOf_34 hl (k := 3) rfl rfl (by decide) rfl (fun ls hl => ?_)
          refine lv_goto (tgt := 4) hx hb dX2_weightOf_37 (by decide) ?_
          exact ih_4 (x2_4 + 0) (x3_4 + 1) H locs ls hP hD hS (lv_sub hl [2, 3, 1, 0] rfl) hf
        · have hf := bs_t hf c2
          refine lv_aload_n hx hb dX2_weightOf_22 rfl (lv_at hl 0 rfl) ?_
          refine va_get (D := (dC, dI)) (ci := 2) (v := .ref oq_weights) (C := RX2) (T := TX2) (N := 7) hx hb hts hin2 hown hK hP 0 rfl rfl 0 (by decide) k9 (fun _ h9 => h9) rfl dX2_weightOf_23 ?_
          refine lv_iload_n hx hb dX2_weightOf_26 rfl (lv_at hl 3 rfl) ?_
          obtain ⟨g3, hf⟩ := bs_g hf
          refine va_iald hx hb hK hP 1 0 rfl rfl (bs_inV g3) dX2_weightOf_27 ?_
          refine lv_goto (tgt := 32) hx hb dX2_weightOf_28 (by decide) ?_
          refine lv_iadd hx hb dX2_weightOf_32 ?_
          refine lv_istore_n (lv' := [(2, .int (x2_4 + (o_weights x3_4.toNatClampNeg))), (0, .ref oh), (1, .int p1), (3, .int x3_4)]) hx hb dX2_weightOf_33 rfl hl (by decide) rfl (fun ls hl => ?_)
          refine lv_iinc (v := x3_4 + 1) (lv' := [(3, .int (x3_4 + 1)), (2, .int (x2_4 + (o_weights x3_4.toNatClampNeg))), (0, .ref oh), (1, .int p1)]) hx hb dX2_weightOf_34 hl (k := 3) rfl rfl (by decide) rfl (fun ls hl => ?_)
          refine lv_goto (tgt := 4) hx hb dX2_weightOf_37 (by decide) ?_
          exact ih_4 (x2_4 + (o_weights x3_4.toNatClampNeg)) (x3_4 + 1) H locs ls hP hD hS (lv_sub hl [2, 3, 1, 0] rfl) hf
  exact L_4 bs_F (0 : Int32) (0 : Int32) H locs ls hP hD hS (lv_sub hl [2, 3, 1, 0] rfl) hf
set_option maxHeartbeats 4000000 in
set_option maxRecDepth 100000 in
theorem k_X6_reading (l : Launch) (dC : Nat → ClassId) (dI : Nat → Nat → Nat) (cI cZ cS cG : ClassId) (p1 : Int32) (p2 : Int32) (out : Int32) (hf : f_X6_reading p1 p2 = some out) : bs_C l dC dI cI cZ cS cG yX6_reading wsX6_reading ({ frames := 0, cells := 0, slots := 0, locals := 0 } : Room) [.int p1, .int p2] ([]) out ([]) := by
  refine bs_ofI (cc := cX6_reading) (maxL := 2) (by decide) rfl (Nat.le_of_ble_eq_true rfl) ?_
  intro p e s m below meth c A Q hx hb hown hml hts hE H locs hP hD hA hS ls hl hret
  have hK := hE.1
  have hl : lv_has ls 2 [(0, .int p1), (1, .int p2)] := hl
  unfold f_X6_reading at hf
  refine lv_iload_n hx hb dX6_reading_0 rfl (lv_at hl 1 rfl) ?_
  refine lv_iconst (v := 1) hx hb dX6_reading_1 (by decide) ?_
  refine lv_icmp_ge (tgt := 9) hx hb dX6_reading_2 (by decide) (fun c1 => ?_) (fun c1 => ?_)
  · have hf := bs_t hf c1
    refine lv_iload_n hx hb dX6_reading_9 rfl (lv_at hl 0 rfl) ?_
    refine lv_iload_n hx hb dX6_reading_10 rfl (lv_at hl 0 rfl) ?_
    refine lv_iload_n hx hb dX6_reading_11 rfl (lv_at hl 1 rfl) ?_
    obtain ⟨g2, hf⟩ := bs_g hf
    refine lv_irem hx hb dX6_reading_12 g2 ?_
    refine lv_isub hx hb dX6_reading_13 ?_
    obtain rfl := Option.some.inj hf
    exact hret H locs _ _ hP hS rfl dX6_reading_14
  · have hf := bs_f hf c1
    refine lv_iload_n hx hb dX6_reading_5 rfl (lv_at hl 0 rfl) ?_
    refine lv_goto (tgt := 14) hx hb dX6_reading_6 (by decide) ?_
    obtain rfl := Option.some.inj hf
    exact hret H locs _ _ hP hS rfl dX6_reading_14
set_option maxHeartbeats 4000000 in
set_option maxRecDepth 100000 in
theorem k_X2_readingOf (l : Launch) (dC : Nat → ClassId) (dI : Nat → Nat → Nat) (cI cZ cS cG : ClassId) (oh : Nat) (oq_weights : Nat) (oq_rivals : Nat) (o_weights : Nat → Int32) (o_rivals : Nat → Int32) (o_promises : Int32) (o_sets : Int32) (o_wax : Int32) (o_stick : Int32) (o_settled : Int32) (p1 : Int32) (out : Int32) (hf : f_X2_readingOf o_weights o_promises o_wax o_stick p1 = some out) : bs_C l dC dI cI cZ cS cG yX2_readingOf wsX2_readingOf ({ frames := 1, cells := 0, slots := 0, locals := 23 } : Room) [.ref oh, .int p1] ([(oh, .inr (2, [.ref oq_weights, .ref oq_rivals, .int o_promises, .int o_sets, .int o_wax, .int o_stick, .int o_settled])), (oq_weights, .inl (cI, 8, .inl o_weights)), (oq_rivals, .inl (cI, 8, .inl o_rivals))]) out ([(oh, .inr (2, [.ref oq_weights, .ref oq_rivals, .int o_promises, .int o_sets, .int o_wax, .int o_stick, .int o_settled])), (oq_weights, .inl (cI, 8, .inl o_weights)), (oq_rivals, .inl (cI, 8, .inl o_rivals))]) := by
  refine bs_ofI (cc := cX2_readingOf) (maxL := 2) (by decide) rfl (Nat.le_of_ble_eq_true rfl) ?_
  intro p e s m below meth c A Q hx hb hown hml hts hE H locs hP hD hA hS ls hl hret
  have hK := hE.1
  have hl : lv_has ls 2 [(0, .ref oh), (1, .int p1)] := hl
  have hin2 : ∀ w ∈ u_ws RX2 TX2 7, w ∈ wsX2_readingOf := by decide +kernel
  have k31 := hts (.fieldLink RX2 31 "PromiseScales$Bags" "wax" "I") (by decide +kernel)
  have k35 := hts (.fieldLink RX2 35 "PromiseScales$Bags" "stick" "I") (by decide +kernel)
  unfold f_X2_readingOf at hf
  refine lv_aload_n hx hb dX2_readingOf_0 rfl (lv_at hl 0 rfl) ?_
  refine lv_iload_n hx hb dX2_readingOf_1 rfl (lv_at hl 1 rfl) ?_
  obtain ⟨z1, hz1, hf⟩ := bs_b hf
  refine bs_cViR ⟨hx, hb, hml, hown, hts⟩ (k_X2_weightOf l dC dI cI cZ cS cG oh oq_weights oq_rivals o_weights o_rivals o_promises o_sets o_wax o_stick o_settled p1 z1 hz1) (cwV 1 hts gX2_readingOf_X2_weightOf rfl rfl rfl (by decide +kernel) ⟨Nat.le_of_ble_eq_true rfl, Nat.le_of_ble_eq_true rfl⟩) hE hP hD hA hS [0, 1, 2] rfl rfl 2 0 rfl rfl rfl rfl hl.1 (Nat.le_of_ble_eq_true rfl) dX2_readingOf_2 (fun H locs hP hS => ?_)
  refine lv_aload_n hx hb dX2_readingOf_5 rfl (lv_at hl 0 rfl) ?_
  refine va_get (D := (dC, dI)) (ci := 2) (v := .int o_wax) (C := RX2) (T := TX2) (N := 7) hx hb hts hin2 hown hK hP 0 rfl rfl 4 (by decide) k31 (fun _ h9 => h9) rfl dX2_readingOf_6 ?_
  refine lv_iadd hx hb dX2_readingOf_9 ?_
  refine lv_aload_n hx hb dX2_readingOf_10 rfl (lv_at hl 0 rfl) ?_
  refine va_get (D := (dC, dI)) (ci := 2) (v := .int o_stick) (C := RX2) (T := TX2) (N := 7) hx hb hts hin2 hown hK hP 0 rfl rfl 5 (by decide) k35 (fun _ h9 => h9) rfl dX2_readingOf_11 ?_
  obtain ⟨z2, hz2, hf⟩ := bs_b hf
  refine bs_cSn ⟨hx, hb, hml, hown, hts⟩ (k_X6_reading l dC dI cI cZ cS cG (z1 + o_wax) o_stick z2 hz2) ⟨va_cnB 2 hts gX2_readingOf_X6_reading_n55 rfl rfl rfl hE.2.2.1 (hts (.initialized RX6) (by decide +kernel)) (by decide +kernel) ⟨Nat.le_of_ble_eq_true rfl, Nat.le_of_ble_eq_true rfl⟩, (hts (.static yX6_reading) (by decide +kernel)), trivial⟩ hE hP hD hA hS rfl rfl hl.1 (Nat.le_of_ble_eq_true rfl) dX2_readingOf_14 (fun H locs hP hS => ?_)
  obtain rfl := Option.some.inj hf
  exact hret H locs _ _ hP hS rfl dX2_readingOf_17
set_option maxHeartbeats 4000000 in
set_option maxRecDepth 100000 in
theorem k_X2_isBag (l : Launch) (dC : Nat → ClassId) (dI : Nat → Nat → Nat) (cI cZ cS cG : ClassId) (oh : Nat) (oq_weights : Nat) (oq_rivals : Nat) (o_weights : Nat → Int32) (o_rivals : Nat → Int32) (o_promises : Int32) (o_sets : Int32) (o_wax : Int32) (o_stick : Int32) (o_settled : Int32) (p1 : Int32) (out : Int32) (hf : f_X2_isBag o_rivals o_promises o_settled p1 = some out) : bs_C l dC dI cI cZ cS cG yX2_isBag wsX2_isBag ({ frames := 0, cells := 0, slots := 0, locals := 0 } : Room) [.ref oh, .int p1] ([(oh, .inr (2, [.ref oq_weights, .ref oq_rivals, .int o_promises, .int o_sets, .int o_wax, .int o_stick, .int o_settled])), (oq_weights, .inl (cI, 8, .inl o_weights)), (oq_rivals, .inl (cI, 8, .inl o_rivals))]) out ([(oh, .inr (2, [.ref oq_weights, .ref oq_rivals, .int o_promises, .int o_sets, .int o_wax, .int o_stick, .int o_settled])), (oq_weights, .inl (cI, 8, .inl o_weights)), (oq_rivals, .inl (cI, 8, .inl o_rivals))]) := by
  refine bs_ofI (cc := cX2_isBag) (maxL := 3) (by decide) rfl (Nat.le_of_ble_eq_true rfl) ?_
  intro p e s m below meth c A Q hx hb hown hml hts hE H locs hP hD hA hS ls hl hret
  have hK := hE.1
  have hl : lv_has ls 3 [(0, .ref oh), (1, .int p1)] := hl
  have hin2 : ∀ w ∈ u_ws RX2 TX2 7, w ∈ wsX2_isBag := by decide +kernel
  have k15 := hts (.fieldLink RX2 15 "PromiseScales$Bags" "rivals" "[I") (by decide +kernel)
  have k24 := hts (.fieldLink RX2 24 "PromiseScales$Bags" "promises" "I") (by decide +kernel)
  have k36 := hts (.fieldLink RX2 36 "PromiseScales$Bags" "settled" "I") (by decide +kernel)
  unfold f_X2_isBag at hf
  refine lv_iload_n hx hb dX2_isBag_0 rfl (lv_at hl 1 rfl) ?_
  refine lv_aload_n hx hb dX2_isBag_1 rfl (lv_at hl 0 rfl) ?_
  refine va_get (D := (dC, dI)) (ci := 2) (v := .int o_settled) (C := RX2) (T := TX2) (N := 7) hx hb hts hin2 hown hK hP 0 rfl rfl 6 (by decide) k36 (fun _ h9 => h9) rfl dX2_isBag_2 ?_
  refine lv_iand hx hb dX2_isBag_5 ?_
  refine lv_if_eq (tgt := 11) hx hb dX2_isBag_6 (by decide) (fun c1 => ?_) (fun c1 => ?_)
  · have hf := bs_t hf c1
    refine lv_iconst (v := 0) hx hb dX2_isBag_11 (by decide) ?_
    refine lv_istore_n (lv' := [(2, .int 0), (0, .ref oh), (1, .int p1)]) hx hb dX2_isBag_12 rfl hl (by decide) rfl (fun ls hl => ?_)
    have L_13 : ∀ (fuel : Nat) (x2_13 : Int32) (H : Heap) (locs : List Loc) (ls : Array Slot), va_P (dC, dI) vwCl ([(oh, .inr (2, [.ref oq_weights, .ref oq_rivals, .int o_promises, .int o_sets, .int o_wax, .int o_stick, .int o_settled])), (oq_weights, .inl (cI, 8, .inl o_weights)), (oq_rivals, .inl (cI, 8, .inl o_rivals))]) H → va_D A ([(oh, .inr (2, [.ref oq_weights, .ref oq_rivals, .int o_promises, .int o_sets, .int o_wax, .int o_stick, .int o_settled])), (oq_weights, .inl (cI, 8, .inl o_weights)), (oq_rivals, .inl (cI, 8, .inl o_rivals))]) → va_S A s.heap H locs → lv_has ls 3 [(0, .ref oh), (1, .int p1), (2, .int x2_13)] → f_X2_isBag_L13 o_rivals o_promises o_settled p1 fuel x2_13 = some out → W p l e ({ frames := 0, cells := 0, slots := 0, locals := 0 } : Room) s m ([.ref oh, .int p1] : List Value).toArray below meth c H locs 0 0 Q (F0 m 13 ls []) := by
      intro fuel
      induction fuel with
      | zero =>
        intro x2_13 H locs ls hP hD hS hl hf
        cases (show (none : Option (Int32)) = some out from hf)
      | succ n_13 ih_13 =>
        intro x2_13 H locs ls hP hD hS hl hf
        have hf := (f_X2_isBag_L13_s o_rivals o_promises o_settled p1 n_13 x2_13).symm.trans hf
        refine lv_iload_n hx hb dX2_isBag_13 rfl (lv_at hl 2 rfl) ?_
        refine lv_aload_n hx hb dX2_isBag_14 rfl (lv_at hl 0 rfl) ?_
        refine va_get (D := (dC, dI)) (ci := 2) (v := .int o_promises) (C := RX2) (T := TX2) (N := 7) hx hb hts hin2 hown hK hP 0 rfl rfl 2 (by decide) k24 (fun _ h9 => h9) rfl dX2_isBag_15 ?_
        refine lv_icmp_ge (tgt := 49) hx hb dX2_isBag_18 (by decide) (fun c2 => ?_) (fun c2 => ?_)
        · have hf := bs_t hf c2
          refine lv_iconst (v := 1) hx hb dX2_isBag_49 (by decide) ?_
          obtain rfl := Option.some.inj hf
          exact hret H locs _ _ hP hS bs_n1 dX2_isBag_50
        · have hf := bs_f hf c2
          refine lv_iload_n hx hb dX2_isBag_21 rfl (lv_at hl 1 rfl) ?_
          refine lv_iload_n hx hb dX2_isBag_22 rfl (lv_at hl 2 rfl) ?_
          refine lv_ishr hx hb dX2_isBag_23 ?_
          refine lv_iconst (v := 1) hx hb dX2_isBag_24 (by decide) ?_
          refine lv_iand hx hb dX2_isBag_25 ?_
          refine lv_iconst (v := 1) hx hb dX2_isBag_26 (by decide) ?_
          refine lv_icmp_ne (tgt := 43) hx hb dX2_isBag_27 (by decide) (fun c3 => ?_) (fun c3 => ?_)
          · have hf := bs_f hf c3
            refine lv_iinc (v := x2_13 + 1) (lv' := [(2, .int (x2_13 + 1)), (0, .ref oh), (1, .int p1)]) hx hb dX2_isBag_43 hl (k := 2) rfl rfl (by decide) rfl (fun ls hl => ?_)
            refine lv_goto (tgt := 13) hx hb dX2_isBag_46 (by decide) ?_
            exact ih_13 (x2_13 + 1) H locs ls hP hD hS (lv_sub hl [1, 2, 0] rfl) hf
          · have hf := bs_t hf c3
            refine lv_iload_n hx hb dX2_isBag_30 rfl (lv_at hl 1 rfl) ?_
            refine lv_aload_n hx hb dX2_isBag_31 rfl (lv_at hl 0 rfl) ?_
            refine va_get (D := (dC, dI)) (ci := 2) (v := .ref oq_rivals) (C := RX2) (T := TX2) (N := 7) hx hb hts hin2 hown hK hP 0 rfl rfl 1 (by decide) k15 (fun _ h9 => h9) rfl dX2_isBag_32 ?_
            refine lv_iload_n hx hb dX2_isBag_35 rfl (lv_at hl 2 rfl) ?_
            obtain ⟨g4, hf⟩ := bs_g hf
            refine va_iald hx hb hK hP 2 0 rfl rfl (bs_inV g4) dX2_isBag_36 ?_
            refine lv_iand hx hb dX2_isBag_37 ?_
            refine lv_if_eq (tgt := 43) hx hb dX2_isBag_38 (by decide) (fun c5 => ?_) (fun c5 => ?_)
            · have hf := bs_t hf c5
              refine lv_iinc (v := x2_13 + 1) (lv' := [(2, .int (x2_13 + 1)), (0, .ref oh), (1, .int p1)]) hx hb dX2_isBag_43 hl (k := 2) rfl rfl (by decide) rfl (fun ls hl => ?_)
              refine lv_goto (tgt := 13) hx hb dX2_isBag_46 (by decide) ?_
              exact ih_13 (x2_13 + 1) H locs ls hP hD hS (lv_sub hl [1, 2, 0] rfl) hf
            · have hf := bs_f hf c5
              refine lv_iconst (v := 0) hx hb dX2_isBag_41 (by decide) ?_
              obtain rfl := Option.some.inj hf
              exact hret H locs _ _ hP hS bs_n0 dX2_isBag_42
    exact L_13 bs_F (0 : Int32) H locs ls hP hD hS (lv_sub hl [1, 2, 0] rfl) hf
  · have hf := bs_f hf c1
    refine lv_iconst (v := 0) hx hb dX2_isBag_9 (by decide) ?_
    obtain rfl := Option.some.inj hf
    exact hret H locs _ _ hP hS bs_n0 dX2_isBag_10
set_option maxHeartbeats 4000000 in
set_option maxRecDepth 100000 in
theorem k_X2_howManyReading (l : Launch) (dC : Nat → ClassId) (dI : Nat → Nat → Nat) (cI cZ cS cG : ClassId) (oh : Nat) (oq_weights : Nat) (oq_rivals : Nat) (o_weights : Nat → Int32) (o_rivals : Nat → Int32) (o_promises : Int32) (o_sets : Int32) (o_wax : Int32) (o_stick : Int32) (o_settled : Int32) (p1 : Int32) (out : Int32) (hf : f_X2_howManyReading o_weights o_rivals o_promises o_sets o_wax o_stick o_settled p1 = some out) : bs_C l dC dI cI cZ cS cG yX2_howManyReading wsX2_howManyReading ({ frames := 2, cells := 0, slots := 0, locals := 44 } : Room) [.ref oh, .int p1] ([(oh, .inr (2, [.ref oq_weights, .ref oq_rivals, .int o_promises, .int o_sets, .int o_wax, .int o_stick, .int o_settled])), (oq_weights, .inl (cI, 8, .inl o_weights)), (oq_rivals, .inl (cI, 8, .inl o_rivals))]) out ([(oh, .inr (2, [.ref oq_weights, .ref oq_rivals, .int o_promises, .int o_sets, .int o_wax, .int o_stick, .int o_settled])), (oq_weights, .inl (cI, 8, .inl o_weights)), (oq_rivals, .inl (cI, 8, .inl o_rivals))]) := by
  refine bs_ofI (cc := cX2_howManyReading) (maxL := 4) (by decide) rfl (Nat.le_of_ble_eq_true rfl) ?_
  intro p e s m below meth c A Q hx hb hown hml hts hE H locs hP hD hA hS ls hl hret
  have hK := hE.1
  have hl : lv_has ls 4 [(0, .ref oh), (1, .int p1)] := hl
  have hin2 : ∀ w ∈ u_ws RX2 TX2 7, w ∈ wsX2_howManyReading := by decide +kernel
  have k25 := hts (.fieldLink RX2 25 "PromiseScales$Bags" "sets" "I") (by decide +kernel)
  unfold f_X2_howManyReading at hf
  refine lv_iconst (v := 0) hx hb dX2_howManyReading_0 (by decide) ?_
  refine lv_istore_n (lv' := [(2, .int 0), (0, .ref oh), (1, .int p1)]) hx hb dX2_howManyReading_1 rfl hl (by decide) rfl (fun ls hl => ?_)
  refine lv_iconst (v := 0) hx hb dX2_howManyReading_2 (by decide) ?_
  refine lv_istore_n (lv' := [(3, .int 0), (2, .int 0), (0, .ref oh), (1, .int p1)]) hx hb dX2_howManyReading_3 rfl hl (by decide) rfl (fun ls hl => ?_)
  have L_4 : ∀ (fuel : Nat) (x2_4 : Int32) (x3_4 : Int32) (H : Heap) (locs : List Loc) (ls : Array Slot), va_P (dC, dI) vwCl ([(oh, .inr (2, [.ref oq_weights, .ref oq_rivals, .int o_promises, .int o_sets, .int o_wax, .int o_stick, .int o_settled])), (oq_weights, .inl (cI, 8, .inl o_weights)), (oq_rivals, .inl (cI, 8, .inl o_rivals))]) H → va_D A ([(oh, .inr (2, [.ref oq_weights, .ref oq_rivals, .int o_promises, .int o_sets, .int o_wax, .int o_stick, .int o_settled])), (oq_weights, .inl (cI, 8, .inl o_weights)), (oq_rivals, .inl (cI, 8, .inl o_rivals))]) → va_S A s.heap H locs → lv_has ls 4 [(0, .ref oh), (1, .int p1), (2, .int x2_4), (3, .int x3_4)] → f_X2_howManyReading_L4 o_weights o_rivals o_promises o_sets o_wax o_stick o_settled p1 fuel x2_4 x3_4 = some out → W p l e ({ frames := 2, cells := 0, slots := 0, locals := 44 } : Room) s m ([.ref oh, .int p1] : List Value).toArray below meth c H locs 0 0 Q (F0 m 4 ls []) := by
    intro fuel
    induction fuel with
    | zero =>
      intro x2_4 x3_4 H locs ls hP hD hS hl hf
      cases (show (none : Option (Int32)) = some out from hf)
    | succ n_4 ih_4 =>
      intro x2_4 x3_4 H locs ls hP hD hS hl hf
      have hf := (f_X2_howManyReading_L4_s o_weights o_rivals o_promises o_sets o_wax o_stick o_settled p1 n_4 x2_4 x3_4).symm.trans hf
      refine lv_iload_n hx hb dX2_howManyReading_4 rfl (lv_at hl 3 rfl) ?_
      refine lv_aload_n hx hb dX2_howManyReading_5 rfl (lv_at hl 0 rfl) ?_
      refine va_get (D := (dC, dI)) (ci := 2) (v := .int o_sets) (C := RX2) (T := TX2) (N := 7) hx hb hts hin2 hown hK hP 0 rfl rfl 3 (by decide) k25 (fun _ h9 => h9) rfl dX2_howManyReading_6 ?_
      refine lv_icmp_ge (tgt := 43) hx hb dX2_howManyReading_9 (by decide) (fun c1 => ?_) (fun c1 => ?_)
      · have hf := bs_t hf c1
        refine lv_iload_n hx hb dX2_howManyReading_43 rfl (lv_at hl 2 rfl) ?_
        obtain rfl := Option.some.inj hf
        exact hret H locs _ _ hP hS rfl dX2_howManyReading_44
      · have hf := bs_f hf c1
        refine lv_iload_n hx hb dX2_howManyReading_12 rfl (lv_at hl 2 rfl) ?_
        refine lv_aload_n hx hb dX2_howManyReading_13 rfl (lv_at hl 0 rfl) ?_
        refine lv_iload_n hx hb dX2_howManyReading_14 rfl (lv_at hl 3 rfl) ?_
        obtain ⟨z2, hz2, hf⟩ := bs_b hf
        refine bs_cViR ⟨hx, hb, hml, hown, hts⟩ (k_X2_isBag l dC dI cI cZ cS cG oh oq_weights oq_rivals o_weights o_rivals o_promises o_sets o_wax o_stick o_settled x3_4 z2 hz2) (cwV 1 hts gX2_howManyReading_X2_isBag rfl rfl rfl (by decide +kernel) ⟨Nat.le_of_ble_eq_true rfl, Nat.le_of_ble_eq_true rfl⟩) hE hP hD hA hS [0, 1, 2] rfl rfl 2 0 rfl rfl rfl rfl hl.1 (Nat.le_of_ble_eq_true rfl) dX2_howManyReading_15 (fun H locs hP hS => ?_)
        refine lv_if_eq (tgt := 34) hx hb dX2_howManyReading_18 (by decide) (fun c3 => ?_) (fun c3 => ?_)
        · have hf := bs_t hf c3
          refine lv_iconst (v := 0) hx hb dX2_howManyReading_34 (by decide) ?_
          refine lv_iadd hx hb dX2_howManyReading_35 ?_
          refine lv_istore_n (lv' := [(2, .int (x2_4 + 0)), (0, .ref oh), (1, .int p1), (3, .int x3_4)]) hx hb dX2_howManyReading_36 rfl hl (by decide) rfl (fun ls hl => ?_)
          refine lv_iinc (v := x3_4 + 1) (lv' := [(3, .int (x3_4 + 1)), (2, .int (x2_4 + 0)), (0, .ref oh), (1, .int p1)]) hx hb dX2_howManyReading_37 hl (k := 3) rfl rfl (by decide) rfl (fun ls hl => ?_)
          refine lv_goto (tgt := 4) hx hb dX2_howManyReading_40 (by decide) ?_
          exact ih_4 (x2_4 + 0) (x3_4 + 1) H locs ls hP hD hS (lv_sub hl [2, 3, 1, 0] rfl) hf
        · have hf := bs_f hf c3
          refine lv_aload_n hx hb dX2_howManyReading_21 rfl (lv_at hl 0 rfl) ?_
          refine lv_iload_n hx hb dX2_howManyReading_22 rfl (lv_at hl 3 rfl) ?_
          obtain ⟨z4, hz4, hf⟩ := bs_b hf
          refine bs_cViR ⟨hx, hb, hml, hown, hts⟩ (k_X2_readingOf l dC dI cI cZ cS cG oh oq_weights oq_rivals o_weights o_rivals o_promises o_sets o_wax o_stick o_settled x3_4 z4 hz4) (cwV 1 hts gX2_howManyReading_X2_readingOf rfl rfl rfl (by decide +kernel) ⟨Nat.le_of_ble_eq_true rfl, Nat.le_of_ble_eq_true rfl⟩) hE hP hD hA hS [0, 1, 2] rfl rfl 2 0 rfl rfl rfl rfl hl.1 (Nat.le_of_ble_eq_true rfl) dX2_howManyReading_23 (fun H locs hP hS => ?_)
          refine lv_iload_n hx hb dX2_howManyReading_26 rfl (lv_at hl 1 rfl) ?_
          refine lv_icmp_ne (tgt := 34) hx hb dX2_howManyReading_27 (by decide) (fun c5 => ?_) (fun c5 => ?_)
          · have hf := bs_f hf c5
            refine lv_iconst (v := 0) hx hb dX2_howManyReading_34 (by decide) ?_
            refine lv_iadd hx hb dX2_howManyReading_35 ?_
            refine lv_istore_n (lv' := [(2, .int (x2_4 + 0)), (0, .ref oh), (1, .int p1), (3, .int x3_4)]) hx hb dX2_howManyReading_36 rfl hl (by decide) rfl (fun ls hl => ?_)
            refine lv_iinc (v := x3_4 + 1) (lv' := [(3, .int (x3_4 + 1)), (2, .int (x2_4 + 0)), (0, .ref oh), (1, .int p1)]) hx hb dX2_howManyReading_37 hl (k := 3) rfl rfl (by decide) rfl (fun ls hl => ?_)
            refine lv_goto (tgt := 4) hx hb dX2_howManyReading_40 (by decide) ?_
            exact ih_4 (x2_4 + 0) (x3_4 + 1) H locs ls hP hD hS (lv_sub hl [2, 3, 1, 0] rfl) hf
          · have hf := bs_t hf c5
            refine lv_iconst (v := 1) hx hb dX2_howManyReading_30 (by decide) ?_
            refine lv_goto (tgt := 35) hx hb dX2_howManyReading_31 (by decide) ?_
            refine lv_iadd hx hb dX2_howManyReading_35 ?_
            refine lv_istore_n (lv' := [(2, .int (x2_4 + 1)), (0, .ref oh), (1, .int p1), (3, .int x3_4)]) hx hb dX2_howManyReading_36 rfl hl (by decide) rfl (fun ls hl => ?_)
            refine lv_iinc (v := x3_4 + 1) (lv' := [(3, .int (x3_4 + 1)), (2, .int (x2_4 + 1)), (0, .ref oh), (1, .int p1)]) hx hb dX2_howManyReading_37 hl (k := 3) rfl rfl (by decide) rfl (fun ls hl => ?_)
            refine lv_goto (tgt := 4) hx hb dX2_howManyReading_40 (by decide) ?_
            exact ih_4 (x2_4 + 1) (x3_4 + 1) H locs ls hP hD hS (lv_sub hl [2, 3, 1, 0] rfl) hf
  exact L_4 bs_F (0 : Int32) (0 : Int32) H locs ls hP hD hS (lv_sub hl [2, 3, 1, 0] rfl) hf
set_option maxHeartbeats 4000000 in
set_option maxRecDepth 100000 in
theorem k_J6_bitCount_0f7a4 (l : Launch) (dC : Nat → ClassId) (dI : Nat → Nat → Nat) (cI cZ cS cG : ClassId) (p1 : Int32) (out : Int32) (hf : f_J6_bitCount_0f7a4 p1 = some out) : bs_C l dC dI cI cZ cS cG yJ6_bitCount_0f7a4 wsJ6_bitCount_0f7a4 ({ frames := 0, cells := 0, slots := 0, locals := 0 } : Room) [.int p1] ([]) out ([]) := by
  refine bs_ofI (cc := cJ6_bitCount_0f7a4) (maxL := 1) (by decide) rfl (Nat.le_of_ble_eq_true rfl) ?_
  intro p e s m below meth c A Q hx hb hown hml hts hE H locs hP hD hA hS ls hl hret
  have hK := hE.1
  have hl : lv_has ls 1 [(0, .int p1)] := hl
  unfold f_J6_bitCount_0f7a4 at hf
  refine lv_iload_n hx hb dJ6_bitCount_0f7a4_0 rfl (lv_at hl 0 rfl) ?_
  refine lv_iload_n hx hb dJ6_bitCount_0f7a4_1 rfl (lv_at hl 0 rfl) ?_
  refine lv_iconst (v := 1) hx hb dJ6_bitCount_0f7a4_2 (by decide) ?_
  refine lv_iushr (v := (p1.toUInt32 >>> ((1 : Int32).toUInt32 &&& Int32.toUInt32 31)).toInt32) hx hb dJ6_bitCount_0f7a4_3 rfl ?_
  refine lv_ldcw hx hb hown (hts (.constant RJ6 265 (1431655765)) (by decide +kernel)) dJ6_bitCount_0f7a4_4 ?_
  refine lv_iand hx hb dJ6_bitCount_0f7a4_7 ?_
  refine lv_isub hx hb dJ6_bitCount_0f7a4_8 ?_
  refine lv_istore_n (lv' := [(0, .int (p1 - (((p1.toUInt32 >>> ((1 : Int32).toUInt32 &&& Int32.toUInt32 31)).toInt32) &&& 1431655765)))]) hx hb dJ6_bitCount_0f7a4_9 rfl hl (by decide) rfl (fun ls hl => ?_)
  refine lv_iload_n hx hb dJ6_bitCount_0f7a4_10 rfl (lv_at hl 0 rfl) ?_
  refine lv_ldcw hx hb hown (hts (.constant RJ6 266 (858993459)) (by decide +kernel)) dJ6_bitCount_0f7a4_11 ?_
  refine lv_iand hx hb dJ6_bitCount_0f7a4_14 ?_
  refine lv_iload_n hx hb dJ6_bitCount_0f7a4_15 rfl (lv_at hl 0 rfl) ?_
  refine lv_iconst (v := 2) hx hb dJ6_bitCount_0f7a4_16 (by decide) ?_
  refine lv_iushr (v := ((p1 - (((p1.toUInt32 >>> ((1 : Int32).toUInt32 &&& Int32.toUInt32 31)).toInt32) &&& 1431655765)).toUInt32 >>> ((2 : Int32).toUInt32 &&& Int32.toUInt32 31)).toInt32) hx hb dJ6_bitCount_0f7a4_17 rfl ?_
  refine lv_ldcw hx hb hown (hts (.constant RJ6 266 (858993459)) (by decide +kernel)) dJ6_bitCount_0f7a4_18 ?_
  refine lv_iand hx hb dJ6_bitCount_0f7a4_21 ?_
  refine lv_iadd hx hb dJ6_bitCount_0f7a4_22 ?_
  refine lv_istore_n (lv' := [(0, .int (((p1 - (((p1.toUInt32 >>> ((1 : Int32).toUInt32 &&& Int32.toUInt32 31)).toInt32) &&& 1431655765)) &&& 858993459) + ((((p1 - (((p1.toUInt32 >>> ((1 : Int32).toUInt32 &&& Int32.toUInt32 31)).toInt32) &&& 1431655765)).toUInt32 >>> ((2 : Int32).toUInt32 &&& Int32.toUInt32 31)).toInt32) &&& 858993459)))]) hx hb dJ6_bitCount_0f7a4_23 rfl hl (by decide) rfl (fun ls hl => ?_)
  refine lv_iload_n hx hb dJ6_bitCount_0f7a4_24 rfl (lv_at hl 0 rfl) ?_
  refine lv_iload_n hx hb dJ6_bitCount_0f7a4_25 rfl (lv_at hl 0 rfl) ?_
  refine lv_iconst (v := 4) hx hb dJ6_bitCount_0f7a4_26 (by decide) ?_
  refine lv_iushr (v := ((((p1 - (((p1.toUInt32 >>> ((1 : Int32).toUInt32 &&& Int32.toUInt32 31)).toInt32) &&& 1431655765)) &&& 858993459) + ((((p1 - (((p1.toUInt32 >>> ((1 : Int32).toUInt32 &&& Int32.toUInt32 31)).toInt32) &&& 1431655765)).toUInt32 >>> ((2 : Int32).toUInt32 &&& Int32.toUInt32 31)).toInt32) &&& 858993459)).toUInt32 >>> ((4 : Int32).toUInt32 &&& Int32.toUInt32 31)).toInt32) hx hb dJ6_bitCount_0f7a4_27 rfl ?_
  refine lv_iadd hx hb dJ6_bitCount_0f7a4_28 ?_
  refine lv_ldcw hx hb hown (hts (.constant RJ6 267 (252645135)) (by decide +kernel)) dJ6_bitCount_0f7a4_29 ?_
  refine lv_iand hx hb dJ6_bitCount_0f7a4_32 ?_
  refine lv_istore_n (lv' := [(0, .int (((((p1 - (((p1.toUInt32 >>> ((1 : Int32).toUInt32 &&& Int32.toUInt32 31)).toInt32) &&& 1431655765)) &&& 858993459) + ((((p1 - (((p1.toUInt32 >>> ((1 : Int32).toUInt32 &&& Int32.toUInt32 31)).toInt32) &&& 1431655765)).toUInt32 >>> ((2 : Int32).toUInt32 &&& Int32.toUInt32 31)).toInt32) &&& 858993459)) + (((((p1 - (((p1.toUInt32 >>> ((1 : Int32).toUInt32 &&& Int32.toUInt32 31)).toInt32) &&& 1431655765)) &&& 858993459) + ((((p1 - (((p1.toUInt32 >>> ((1 : Int32).toUInt32 &&& Int32.toUInt32 31)).toInt32) &&& 1431655765)).toUInt32 >>> ((2 : Int32).toUInt32 &&& Int32.toUInt32 31)).toInt32) &&& 858993459)).toUInt32 >>> ((4 : Int32).toUInt32 &&& Int32.toUInt32 31)).toInt32)) &&& 252645135))]) hx hb dJ6_bitCount_0f7a4_33 rfl hl (by decide) rfl (fun ls hl => ?_)
  refine lv_iload_n hx hb dJ6_bitCount_0f7a4_34 rfl (lv_at hl 0 rfl) ?_
  refine lv_iload_n hx hb dJ6_bitCount_0f7a4_35 rfl (lv_at hl 0 rfl) ?_
  refine lv_bipush (v := 8) hx hb dJ6_bitCount_0f7a4_36 (by decide) ?_
  refine lv_iushr (v := ((((((p1 - (((p1.toUInt32 >>> ((1 : Int32).toUInt32 &&& Int32.toUInt32 31)).toInt32) &&& 1431655765)) &&& 858993459) + ((((p1 - (((p1.toUInt32 >>> ((1 : Int32).toUInt32 &&& Int32.toUInt32 31)).toInt32) &&& 1431655765)).toUInt32 >>> ((2 : Int32).toUInt32 &&& Int32.toUInt32 31)).toInt32) &&& 858993459)) + (((((p1 - (((p1.toUInt32 >>> ((1 : Int32).toUInt32 &&& Int32.toUInt32 31)).toInt32) &&& 1431655765)) &&& 858993459) + ((((p1 - (((p1.toUInt32 >>> ((1 : Int32).toUInt32 &&& Int32.toUInt32 31)).toInt32) &&& 1431655765)).toUInt32 >>> ((2 : Int32).toUInt32 &&& Int32.toUInt32 31)).toInt32) &&& 858993459)).toUInt32 >>> ((4 : Int32).toUInt32 &&& Int32.toUInt32 31)).toInt32)) &&& 252645135).toUInt32 >>> ((8 : Int32).toUInt32 &&& Int32.toUInt32 31)).toInt32) hx hb dJ6_bitCount_0f7a4_38 rfl ?_
  refine lv_iadd hx hb dJ6_bitCount_0f7a4_39 ?_
  refine lv_istore_n (lv' := [(0, .int ((((((p1 - (((p1.toUInt32 >>> ((1 : Int32).toUInt32 &&& Int32.toUInt32 31)).toInt32) &&& 1431655765)) &&& 858993459) + ((((p1 - (((p1.toUInt32 >>> ((1 : Int32).toUInt32 &&& Int32.toUInt32 31)).toInt32) &&& 1431655765)).toUInt32 >>> ((2 : Int32).toUInt32 &&& Int32.toUInt32 31)).toInt32) &&& 858993459)) + (((((p1 - (((p1.toUInt32 >>> ((1 : Int32).toUInt32 &&& Int32.toUInt32 31)).toInt32) &&& 1431655765)) &&& 858993459) + ((((p1 - (((p1.toUInt32 >>> ((1 : Int32).toUInt32 &&& Int32.toUInt32 31)).toInt32) &&& 1431655765)).toUInt32 >>> ((2 : Int32).toUInt32 &&& Int32.toUInt32 31)).toInt32) &&& 858993459)).toUInt32 >>> ((4 : Int32).toUInt32 &&& Int32.toUInt32 31)).toInt32)) &&& 252645135) + (((((((p1 - (((p1.toUInt32 >>> ((1 : Int32).toUInt32 &&& Int32.toUInt32 31)).toInt32) &&& 1431655765)) &&& 858993459) + ((((p1 - (((p1.toUInt32 >>> ((1 : Int32).toUInt32 &&& Int32.toUInt32 31)).toInt32) &&& 1431655765)).toUInt32 >>> ((2 : Int32).toUInt32 &&& Int32.toUInt32 31)).toInt32) &&& 858993459)) + (((((p1 - (((p1.toUInt32 >>> ((1 : Int32).toUInt32 &&& Int32.toUInt32 31)).toInt32) &&& 1431655765)) &&& 858993459) + ((((p1 - (((p1.toUInt32 >>> ((1 : Int32).toUInt32 &&& Int32.toUInt32 31)).toInt32) &&& 1431655765)).toUInt32 >>> ((2 : Int32).toUInt32 &&& Int32.toUInt32 31)).toInt32) &&& 858993459)).toUInt32 >>> ((4 : Int32).toUInt32 &&& Int32.toUInt32 31)).toInt32)) &&& 252645135).toUInt32 >>> ((8 : Int32).toUInt32 &&& Int32.toUInt32 31)).toInt32)))]) hx hb dJ6_bitCount_0f7a4_40 rfl hl (by decide) rfl (fun ls hl => ?_)
  refine lv_iload_n hx hb dJ6_bitCount_0f7a4_41 rfl (lv_at hl 0 rfl) ?_
  refine lv_iload_n hx hb dJ6_bitCount_0f7a4_42 rfl (lv_at hl 0 rfl) ?_
  refine lv_bipush (v := 16) hx hb dJ6_bitCount_0f7a4_43 (by decide) ?_
  refine lv_iushr (v := (((((((p1 - (((p1.toUInt32 >>> ((1 : Int32).toUInt32 &&& Int32.toUInt32 31)).toInt32) &&& 1431655765)) &&& 858993459) + ((((p1 - (((p1.toUInt32 >>> ((1 : Int32).toUInt32 &&& Int32.toUInt32 31)).toInt32) &&& 1431655765)).toUInt32 >>> ((2 : Int32).toUInt32 &&& Int32.toUInt32 31)).toInt32) &&& 858993459)) + (((((p1 - (((p1.toUInt32 >>> ((1 : Int32).toUInt32 &&& Int32.toUInt32 31)).toInt32) &&& 1431655765)) &&& 858993459) + ((((p1 - (((p1.toUInt32 >>> ((1 : Int32).toUInt32 &&& Int32.toUInt32 31)).toInt32) &&& 1431655765)).toUInt32 >>> ((2 : Int32).toUInt32 &&& Int32.toUInt32 31)).toInt32) &&& 858993459)).toUInt32 >>> ((4 : Int32).toUInt32 &&& Int32.toUInt32 31)).toInt32)) &&& 252645135) + (((((((p1 - (((p1.toUInt32 >>> ((1 : Int32).toUInt32 &&& Int32.toUInt32 31)).toInt32) &&& 1431655765)) &&& 858993459) + ((((p1 - (((p1.toUInt32 >>> ((1 : Int32).toUInt32 &&& Int32.toUInt32 31)).toInt32) &&& 1431655765)).toUInt32 >>> ((2 : Int32).toUInt32 &&& Int32.toUInt32 31)).toInt32) &&& 858993459)) + (((((p1 - (((p1.toUInt32 >>> ((1 : Int32).toUInt32 &&& Int32.toUInt32 31)).toInt32) &&& 1431655765)) &&& 858993459) + ((((p1 - (((p1.toUInt32 >>> ((1 : Int32).toUInt32 &&& Int32.toUInt32 31)).toInt32) &&& 1431655765)).toUInt32 >>> ((2 : Int32).toUInt32 &&& Int32.toUInt32 31)).toInt32) &&& 858993459)).toUInt32 >>> ((4 : Int32).toUInt32 &&& Int32.toUInt32 31)).toInt32)) &&& 252645135).toUInt32 >>> ((8 : Int32).toUInt32 &&& Int32.toUInt32 31)).toInt32)).toUInt32 >>> ((16 : Int32).toUInt32 &&& Int32.toUInt32 31)).toInt32) hx hb dJ6_bitCount_0f7a4_45 rfl ?_
  refine lv_iadd hx hb dJ6_bitCount_0f7a4_46 ?_
  refine lv_istore_n (lv' := [(0, .int (((((((p1 - (((p1.toUInt32 >>> ((1 : Int32).toUInt32 &&& Int32.toUInt32 31)).toInt32) &&& 1431655765)) &&& 858993459) + ((((p1 - (((p1.toUInt32 >>> ((1 : Int32).toUInt32 &&& Int32.toUInt32 31)).toInt32) &&& 1431655765)).toUInt32 >>> ((2 : Int32).toUInt32 &&& Int32.toUInt32 31)).toInt32) &&& 858993459)) + (((((p1 - (((p1.toUInt32 >>> ((1 : Int32).toUInt32 &&& Int32.toUInt32 31)).toInt32) &&& 1431655765)) &&& 858993459) + ((((p1 - (((p1.toUInt32 >>> ((1 : Int32).toUInt32 &&& Int32.toUInt32 31)).toInt32) &&& 1431655765)).toUInt32 >>> ((2 : Int32).toUInt32 &&& Int32.toUInt32 31)).toInt32) &&& 858993459)).toUInt32 >>> ((4 : Int32).toUInt32 &&& Int32.toUInt32 31)).toInt32)) &&& 252645135) + (((((((p1 - (((p1.toUInt32 >>> ((1 : Int32).toUInt32 &&& Int32.toUInt32 31)).toInt32) &&& 1431655765)) &&& 858993459) + ((((p1 - (((p1.toUInt32 >>> ((1 : Int32).toUInt32 &&& Int32.toUInt32 31)).toInt32) &&& 1431655765)).toUInt32 >>> ((2 : Int32).toUInt32 &&& Int32.toUInt32 31)).toInt32) &&& 858993459)) + (((((p1 - (((p1.toUInt32 >>> ((1 : Int32).toUInt32 &&& Int32.toUInt32 31)).toInt32) &&& 1431655765)) &&& 858993459) + ((((p1 - (((p1.toUInt32 >>> ((1 : Int32).toUInt32 &&& Int32.toUInt32 31)).toInt32) &&& 1431655765)).toUInt32 >>> ((2 : Int32).toUInt32 &&& Int32.toUInt32 31)).toInt32) &&& 858993459)).toUInt32 >>> ((4 : Int32).toUInt32 &&& Int32.toUInt32 31)).toInt32)) &&& 252645135).toUInt32 >>> ((8 : Int32).toUInt32 &&& Int32.toUInt32 31)).toInt32)) + ((((((((p1 - (((p1.toUInt32 >>> ((1 : Int32).toUInt32 &&& Int32.toUInt32 31)).toInt32) &&& 1431655765)) &&& 858993459) + ((((p1 - (((p1.toUInt32 >>> ((1 : Int32).toUInt32 &&& Int32.toUInt32 31)).toInt32) &&& 1431655765)).toUInt32 >>> ((2 : Int32).toUInt32 &&& Int32.toUInt32 31)).toInt32) &&& 858993459)) + (((((p1 - (((p1.toUInt32 >>> ((1 : Int32).toUInt32 &&& Int32.toUInt32 31)).toInt32) &&& 1431655765)) &&& 858993459) + ((((p1 - (((p1.toUInt32 >>> ((1 : Int32).toUInt32 &&& Int32.toUInt32 31)).toInt32) &&& 1431655765)).toUInt32 >>> ((2 : Int32).toUInt32 &&& Int32.toUInt32 31)).toInt32) &&& 858993459)).toUInt32 >>> ((4 : Int32).toUInt32 &&& Int32.toUInt32 31)).toInt32)) &&& 252645135) + (((((((p1 - (((p1.toUInt32 >>> ((1 : Int32).toUInt32 &&& Int32.toUInt32 31)).toInt32) &&& 1431655765)) &&& 858993459) + ((((p1 - (((p1.toUInt32 >>> ((1 : Int32).toUInt32 &&& Int32.toUInt32 31)).toInt32) &&& 1431655765)).toUInt32 >>> ((2 : Int32).toUInt32 &&& Int32.toUInt32 31)).toInt32) &&& 858993459)) + (((((p1 - (((p1.toUInt32 >>> ((1 : Int32).toUInt32 &&& Int32.toUInt32 31)).toInt32) &&& 1431655765)) &&& 858993459) + ((((p1 - (((p1.toUInt32 >>> ((1 : Int32).toUInt32 &&& Int32.toUInt32 31)).toInt32) &&& 1431655765)).toUInt32 >>> ((2 : Int32).toUInt32 &&& Int32.toUInt32 31)).toInt32) &&& 858993459)).toUInt32 >>> ((4 : Int32).toUInt32 &&& Int32.toUInt32 31)).toInt32)) &&& 252645135).toUInt32 >>> ((8 : Int32).toUInt32 &&& Int32.toUInt32 31)).toInt32)).toUInt32 >>> ((16 : Int32).toUInt32 &&& Int32.toUInt32 31)).toInt32)))]) hx hb dJ6_bitCount_0f7a4_47 rfl hl (by decide) rfl (fun ls hl => ?_)
  refine lv_iload_n hx hb dJ6_bitCount_0f7a4_48 rfl (lv_at hl 0 rfl) ?_
  refine lv_bipush (v := 63) hx hb dJ6_bitCount_0f7a4_49 (by decide) ?_
  refine lv_iand hx hb dJ6_bitCount_0f7a4_51 ?_
  obtain rfl := Option.some.inj hf
  exact hret H locs _ _ hP hS rfl dJ6_bitCount_0f7a4_52
set_option maxHeartbeats 4000000 in
set_option maxRecDepth 100000 in
theorem k_X2_fewestReading (l : Launch) (dC : Nat → ClassId) (dI : Nat → Nat → Nat) (cI cZ cS cG : ClassId) (oh : Nat) (oq_weights : Nat) (oq_rivals : Nat) (o_weights : Nat → Int32) (o_rivals : Nat → Int32) (o_promises : Int32) (o_sets : Int32) (o_wax : Int32) (o_stick : Int32) (o_settled : Int32) (p1 : Int32) (out : Int32) (hf : f_X2_fewestReading o_weights o_rivals o_promises o_sets o_wax o_stick o_settled p1 = some out) : bs_C l dC dI cI cZ cS cG yX2_fewestReading wsX2_fewestReading ({ frames := 2, cells := 0, slots := 0, locals := 44 } : Room) [.ref oh, .int p1] ([(oh, .inr (2, [.ref oq_weights, .ref oq_rivals, .int o_promises, .int o_sets, .int o_wax, .int o_stick, .int o_settled])), (oq_weights, .inl (cI, 8, .inl o_weights)), (oq_rivals, .inl (cI, 8, .inl o_rivals))]) out ([(oh, .inr (2, [.ref oq_weights, .ref oq_rivals, .int o_promises, .int o_sets, .int o_wax, .int o_stick, .int o_settled])), (oq_weights, .inl (cI, 8, .inl o_weights)), (oq_rivals, .inl (cI, 8, .inl o_rivals))]) := by
  refine bs_ofI (cc := cX2_fewestReading) (maxL := 5) (by decide) rfl (Nat.le_of_ble_eq_true rfl) ?_
  intro p e s m below meth c A Q hx hb hown hml hts hE H locs hP hD hA hS ls hl hret
  have hK := hE.1
  have hl : lv_has ls 5 [(0, .ref oh), (1, .int p1)] := hl
  have hin2 : ∀ w ∈ u_ws RX2 TX2 7, w ∈ wsX2_fewestReading := by decide +kernel
  have k25 := hts (.fieldLink RX2 25 "PromiseScales$Bags" "sets" "I") (by decide +kernel)
  unfold f_X2_fewestReading at hf
  refine lv_ldc hx hb hown (hts (.constant RX2 64 (-1000000)) (by decide +kernel)) dX2_fewestReading_0 ?_
  refine lv_istore_n (lv' := [(2, .int (-1000000)), (0, .ref oh), (1, .int p1)]) hx hb dX2_fewestReading_2 rfl hl (by decide) rfl (fun ls hl => ?_)
  refine lv_bipush (v := 9) hx hb dX2_fewestReading_3 (by decide) ?_
  refine lv_istore_n (lv' := [(3, .int 9), (2, .int (-1000000)), (0, .ref oh), (1, .int p1)]) hx hb dX2_fewestReading_5 rfl hl (by decide) rfl (fun ls hl => ?_)
  refine lv_iconst (v := 0) hx hb dX2_fewestReading_6 (by decide) ?_
  refine lv_istore (lv' := [(4, .int 0), (3, .int 9), (2, .int (-1000000)), (0, .ref oh), (1, .int p1)]) hx hb dX2_fewestReading_7 hl (by decide) rfl (fun ls hl => ?_)
  have L_9 : ∀ (fuel : Nat) (x2_9 : Int32) (x3_9 : Int32) (x4_9 : Int32) (H : Heap) (locs : List Loc) (ls : Array Slot), va_P (dC, dI) vwCl ([(oh, .inr (2, [.ref oq_weights, .ref oq_rivals, .int o_promises, .int o_sets, .int o_wax, .int o_stick, .int o_settled])), (oq_weights, .inl (cI, 8, .inl o_weights)), (oq_rivals, .inl (cI, 8, .inl o_rivals))]) H → va_D A ([(oh, .inr (2, [.ref oq_weights, .ref oq_rivals, .int o_promises, .int o_sets, .int o_wax, .int o_stick, .int o_settled])), (oq_weights, .inl (cI, 8, .inl o_weights)), (oq_rivals, .inl (cI, 8, .inl o_rivals))]) → va_S A s.heap H locs → lv_has ls 5 [(0, .ref oh), (1, .int p1), (2, .int x2_9), (3, .int x3_9), (4, .int x4_9)] → f_X2_fewestReading_L9 o_weights o_rivals o_promises o_sets o_wax o_stick o_settled p1 fuel x2_9 x3_9 x4_9 = some out → W p l e ({ frames := 2, cells := 0, slots := 0, locals := 44 } : Room) s m ([.ref oh, .int p1] : List Value).toArray below meth c H locs 0 0 Q (F0 m 9 ls []) := by
    intro fuel
    induction fuel with
    | zero =>
      intro x2_9 x3_9 x4_9 H locs ls hP hD hS hl hf
      cases (show (none : Option (Int32)) = some out from hf)
    | succ n_9 ih_9 =>
      intro x2_9 x3_9 x4_9 H locs ls hP hD hS hl hf
      have hf := (f_X2_fewestReading_L9_s o_weights o_rivals o_promises o_sets o_wax o_stick o_settled p1 n_9 x2_9 x3_9 x4_9).symm.trans hf
      refine lv_iload hx hb dX2_fewestReading_9 (lv_at hl 4 rfl) ?_
      refine lv_aload_n hx hb dX2_fewestReading_11 rfl (lv_at hl 0 rfl) ?_
      refine va_get (D := (dC, dI)) (ci := 2) (v := .int o_sets) (C := RX2) (T := TX2) (N := 7) hx hb hts hin2 hown hK hP 0 rfl rfl 3 (by decide) k25 (fun _ h9 => h9) rfl dX2_fewestReading_12 ?_
      refine lv_icmp_ge (tgt := 61) hx hb dX2_fewestReading_15 (by decide) (fun c1 => ?_) (fun c1 => ?_)
      · have hf := bs_t hf c1
        refine lv_iload_n hx hb dX2_fewestReading_61 rfl (lv_at hl 2 rfl) ?_
        obtain rfl := Option.some.inj hf
        exact hret H locs _ _ hP hS rfl dX2_fewestReading_62
      · have hf := bs_f hf c1
        refine lv_iload hx hb dX2_fewestReading_18 (lv_at hl 4 rfl) ?_
        obtain ⟨z2, hz2, hf⟩ := bs_b hf
        refine bs_cSi ⟨hx, hb, hml, hown, hts⟩ (k_J6_bitCount_0f7a4 l dC dI cI cZ cS cG x4_9 z2 hz2) (va_cwS 1 hts gX2_fewestReading_J6_bitCount_0f7a4 rfl rfl rfl (by decide +kernel) ⟨Nat.le_of_ble_eq_true rfl, Nat.le_of_ble_eq_true rfl⟩) hE hP hD hA hS rfl rfl hl.1 (Nat.le_of_ble_eq_true rfl) dX2_fewestReading_20 (fun H locs hP hS => ?_)
        refine lv_iload_n hx hb dX2_fewestReading_23 rfl (lv_at hl 3 rfl) ?_
        refine lv_icmp_ge (tgt := 55) hx hb dX2_fewestReading_24 (by decide) (fun c3 => ?_) (fun c3 => ?_)
        · have hf := bs_t hf c3
          refine lv_iinc (v := x4_9 + 1) (lv' := [(4, .int (x4_9 + 1)), (0, .ref oh), (1, .int p1), (2, .int x2_9), (3, .int x3_9)]) hx hb dX2_fewestReading_55 hl (k := 4) rfl rfl (by decide) rfl (fun ls hl => ?_)
          refine lv_goto (tgt := 9) hx hb dX2_fewestReading_58 (by decide) ?_
          exact ih_9 x2_9 x3_9 (x4_9 + 1) H locs ls hP hD hS (lv_sub hl [1, 2, 3, 4, 0] rfl) hf
        · have hf := bs_f hf c3
          refine lv_aload_n hx hb dX2_fewestReading_27 rfl (lv_at hl 0 rfl) ?_
          refine lv_iload hx hb dX2_fewestReading_28 (lv_at hl 4 rfl) ?_
          obtain ⟨z4, hz4, hf⟩ := bs_b hf
          refine bs_cViR ⟨hx, hb, hml, hown, hts⟩ (k_X2_isBag l dC dI cI cZ cS cG oh oq_weights oq_rivals o_weights o_rivals o_promises o_sets o_wax o_stick o_settled x4_9 z4 hz4) (cwV 1 hts gX2_fewestReading_X2_isBag rfl rfl rfl (by decide +kernel) ⟨Nat.le_of_ble_eq_true rfl, Nat.le_of_ble_eq_true rfl⟩) hE hP hD hA hS [0, 1, 2] rfl rfl 2 0 rfl rfl rfl rfl hl.1 (Nat.le_of_ble_eq_true rfl) dX2_fewestReading_30 (fun H locs hP hS => ?_)
          refine lv_if_eq (tgt := 55) hx hb dX2_fewestReading_33 (by decide) (fun c5 => ?_) (fun c5 => ?_)
          · have hf := bs_t hf c5
            refine lv_iinc (v := x4_9 + 1) (lv' := [(4, .int (x4_9 + 1)), (0, .ref oh), (1, .int p1), (2, .int x2_9), (3, .int x3_9)]) hx hb dX2_fewestReading_55 hl (k := 4) rfl rfl (by decide) rfl (fun ls hl => ?_)
            refine lv_goto (tgt := 9) hx hb dX2_fewestReading_58 (by decide) ?_
            exact ih_9 x2_9 x3_9 (x4_9 + 1) H locs ls hP hD hS (lv_sub hl [1, 2, 3, 4, 0] rfl) hf
          · have hf := bs_f hf c5
            refine lv_aload_n hx hb dX2_fewestReading_36 rfl (lv_at hl 0 rfl) ?_
            refine lv_iload hx hb dX2_fewestReading_37 (lv_at hl 4 rfl) ?_
            obtain ⟨z6, hz6, hf⟩ := bs_b hf
            refine bs_cViR ⟨hx, hb, hml, hown, hts⟩ (k_X2_readingOf l dC dI cI cZ cS cG oh oq_weights oq_rivals o_weights o_rivals o_promises o_sets o_wax o_stick o_settled x4_9 z6 hz6) (cwV 1 hts gX2_fewestReading_X2_readingOf rfl rfl rfl (by decide +kernel) ⟨Nat.le_of_ble_eq_true rfl, Nat.le_of_ble_eq_true rfl⟩) hE hP hD hA hS [0, 1, 2] rfl rfl 2 0 rfl rfl rfl rfl hl.1 (Nat.le_of_ble_eq_true rfl) dX2_fewestReading_39 (fun H locs hP hS => ?_)
            refine lv_iload_n hx hb dX2_fewestReading_42 rfl (lv_at hl 1 rfl) ?_
            refine lv_icmp_ne (tgt := 55) hx hb dX2_fewestReading_43 (by decide) (fun c7 => ?_) (fun c7 => ?_)
            · have hf := bs_f hf c7
              refine lv_iinc (v := x4_9 + 1) (lv' := [(4, .int (x4_9 + 1)), (0, .ref oh), (1, .int p1), (2, .int x2_9), (3, .int x3_9)]) hx hb dX2_fewestReading_55 hl (k := 4) rfl rfl (by decide) rfl (fun ls hl => ?_)
              refine lv_goto (tgt := 9) hx hb dX2_fewestReading_58 (by decide) ?_
              exact ih_9 x2_9 x3_9 (x4_9 + 1) H locs ls hP hD hS (lv_sub hl [1, 2, 3, 4, 0] rfl) hf
            · have hf := bs_t hf c7
              refine lv_iload hx hb dX2_fewestReading_46 (lv_at hl 4 rfl) ?_
              refine lv_istore_n (lv' := [(2, .int x4_9), (0, .ref oh), (1, .int p1), (3, .int x3_9), (4, .int x4_9)]) hx hb dX2_fewestReading_48 rfl hl (by decide) rfl (fun ls hl => ?_)
              refine lv_iload hx hb dX2_fewestReading_49 (lv_at hl 4 rfl) ?_
              obtain ⟨z8, hz8, hf⟩ := bs_b hf
              refine bs_cSi ⟨hx, hb, hml, hown, hts⟩ (k_J6_bitCount_0f7a4 l dC dI cI cZ cS cG x4_9 z8 hz8) (va_cwS 1 hts gX2_fewestReading_J6_bitCount_0f7a4 rfl rfl rfl (by decide +kernel) ⟨Nat.le_of_ble_eq_true rfl, Nat.le_of_ble_eq_true rfl⟩) hE hP hD hA hS rfl rfl hl.1 (Nat.le_of_ble_eq_true rfl) dX2_fewestReading_51 (fun H locs hP hS => ?_)
              refine lv_istore_n (lv' := [(3, .int z8), (2, .int x4_9), (0, .ref oh), (1, .int p1), (4, .int x4_9)]) hx hb dX2_fewestReading_54 rfl hl (by decide) rfl (fun ls hl => ?_)
              refine lv_iinc (v := x4_9 + 1) (lv' := [(4, .int (x4_9 + 1)), (3, .int z8), (2, .int x4_9), (0, .ref oh), (1, .int p1)]) hx hb dX2_fewestReading_55 hl (k := 4) rfl rfl (by decide) rfl (fun ls hl => ?_)
              refine lv_goto (tgt := 9) hx hb dX2_fewestReading_58 (by decide) ?_
              exact ih_9 x4_9 z8 (x4_9 + 1) H locs ls hP hD hS (lv_sub hl [3, 4, 2, 1, 0] rfl) hf
  exact L_9 bs_F (-1000000 : Int32) (9 : Int32) (0 : Int32) H locs ls hP hD hS (lv_sub hl [3, 4, 2, 1, 0] rfl) hf
set_option maxHeartbeats 4000000 in
set_option maxRecDepth 100000 in
theorem k_X2_heaviestOf (l : Launch) (dC : Nat → ClassId) (dI : Nat → Nat → Nat) (cI cZ cS cG : ClassId) (oh : Nat) (oq_weights : Nat) (oq_rivals : Nat) (o_weights : Nat → Int32) (o_rivals : Nat → Int32) (o_promises : Int32) (o_sets : Int32) (o_wax : Int32) (o_stick : Int32) (o_settled : Int32) (p1 : Int32) (out : Int32) (hf : f_X2_heaviestOf o_weights o_rivals o_promises o_sets o_wax o_stick o_settled p1 = some out) : bs_C l dC dI cI cZ cS cG yX2_heaviestOf wsX2_heaviestOf ({ frames := 2, cells := 0, slots := 0, locals := 44 } : Room) [.ref oh, .int p1] ([(oh, .inr (2, [.ref oq_weights, .ref oq_rivals, .int o_promises, .int o_sets, .int o_wax, .int o_stick, .int o_settled])), (oq_weights, .inl (cI, 8, .inl o_weights)), (oq_rivals, .inl (cI, 8, .inl o_rivals))]) out ([(oh, .inr (2, [.ref oq_weights, .ref oq_rivals, .int o_promises, .int o_sets, .int o_wax, .int o_stick, .int o_settled])), (oq_weights, .inl (cI, 8, .inl o_weights)), (oq_rivals, .inl (cI, 8, .inl o_rivals))]) := by
  refine bs_ofI (cc := cX2_heaviestOf) (maxL := 4) (by decide) rfl (Nat.le_of_ble_eq_true rfl) ?_
  intro p e s m below meth c A Q hx hb hown hml hts hE H locs hP hD hA hS ls hl hret
  have hK := hE.1
  have hl : lv_has ls 4 [(0, .ref oh), (1, .int p1)] := hl
  have hin2 : ∀ w ∈ u_ws RX2 TX2 7, w ∈ wsX2_heaviestOf := by decide +kernel
  have k25 := hts (.fieldLink RX2 25 "PromiseScales$Bags" "sets" "I") (by decide +kernel)
  unfold f_X2_heaviestOf at hf
  refine lv_iconst (v := 0) hx hb dX2_heaviestOf_0 (by decide) ?_
  refine lv_istore_n (lv' := [(2, .int 0), (0, .ref oh), (1, .int p1)]) hx hb dX2_heaviestOf_1 rfl hl (by decide) rfl (fun ls hl => ?_)
  refine lv_iconst (v := 1) hx hb dX2_heaviestOf_2 (by decide) ?_
  refine lv_istore_n (lv' := [(3, .int 1), (2, .int 0), (0, .ref oh), (1, .int p1)]) hx hb dX2_heaviestOf_3 rfl hl (by decide) rfl (fun ls hl => ?_)
  have L_4 : ∀ (fuel : Nat) (x2_4 : Int32) (x3_4 : Int32) (H : Heap) (locs : List Loc) (ls : Array Slot), va_P (dC, dI) vwCl ([(oh, .inr (2, [.ref oq_weights, .ref oq_rivals, .int o_promises, .int o_sets, .int o_wax, .int o_stick, .int o_settled])), (oq_weights, .inl (cI, 8, .inl o_weights)), (oq_rivals, .inl (cI, 8, .inl o_rivals))]) H → va_D A ([(oh, .inr (2, [.ref oq_weights, .ref oq_rivals, .int o_promises, .int o_sets, .int o_wax, .int o_stick, .int o_settled])), (oq_weights, .inl (cI, 8, .inl o_weights)), (oq_rivals, .inl (cI, 8, .inl o_rivals))]) → va_S A s.heap H locs → lv_has ls 4 [(0, .ref oh), (1, .int p1), (2, .int x2_4), (3, .int x3_4)] → f_X2_heaviestOf_L4 o_weights o_rivals o_promises o_sets o_wax o_stick o_settled p1 fuel x2_4 x3_4 = some out → W p l e ({ frames := 2, cells := 0, slots := 0, locals := 44 } : Room) s m ([.ref oh, .int p1] : List Value).toArray below meth c H locs 0 0 Q (F0 m 4 ls []) := by
    intro fuel
    induction fuel with
    | zero =>
      intro x2_4 x3_4 H locs ls hP hD hS hl hf
      cases (show (none : Option (Int32)) = some out from hf)
    | succ n_4 ih_4 =>
      intro x2_4 x3_4 H locs ls hP hD hS hl hf
      have hf := (f_X2_heaviestOf_L4_s o_weights o_rivals o_promises o_sets o_wax o_stick o_settled p1 n_4 x2_4 x3_4).symm.trans hf
      refine lv_iload_n hx hb dX2_heaviestOf_4 rfl (lv_at hl 3 rfl) ?_
      refine lv_aload_n hx hb dX2_heaviestOf_5 rfl (lv_at hl 0 rfl) ?_
      refine va_get (D := (dC, dI)) (ci := 2) (v := .int o_sets) (C := RX2) (T := TX2) (N := 7) hx hb hts hin2 hown hK hP 0 rfl rfl 3 (by decide) k25 (fun _ h9 => h9) rfl dX2_heaviestOf_6 ?_
      refine lv_icmp_ge (tgt := 49) hx hb dX2_heaviestOf_9 (by decide) (fun c1 => ?_) (fun c1 => ?_)
      · have hf := bs_t hf c1
        refine lv_iload_n hx hb dX2_heaviestOf_49 rfl (lv_at hl 2 rfl) ?_
        obtain rfl := Option.some.inj hf
        exact hret H locs _ _ hP hS rfl dX2_heaviestOf_50
      · have hf := bs_f hf c1
        refine lv_iload_n hx hb dX2_heaviestOf_12 rfl (lv_at hl 3 rfl) ?_
        obtain ⟨z2, hz2, hf⟩ := bs_b hf
        refine bs_cSi ⟨hx, hb, hml, hown, hts⟩ (k_J6_bitCount_0f7a4 l dC dI cI cZ cS cG x3_4 z2 hz2) (va_cwS 1 hts gX2_heaviestOf_J6_bitCount_0f7a4 rfl rfl rfl (by decide +kernel) ⟨Nat.le_of_ble_eq_true rfl, Nat.le_of_ble_eq_true rfl⟩) hE hP hD hA hS rfl rfl hl.1 (Nat.le_of_ble_eq_true rfl) dX2_heaviestOf_13 (fun H locs hP hS => ?_)
        refine lv_iload_n hx hb dX2_heaviestOf_16 rfl (lv_at hl 1 rfl) ?_
        refine lv_icmp_gt (tgt := 43) hx hb dX2_heaviestOf_17 (by decide) (fun c3 => ?_) (fun c3 => ?_)
        · have hf := bs_t hf c3
          refine lv_iinc (v := x3_4 + 1) (lv' := [(3, .int (x3_4 + 1)), (0, .ref oh), (1, .int p1), (2, .int x2_4)]) hx hb dX2_heaviestOf_43 hl (k := 3) rfl rfl (by decide) rfl (fun ls hl => ?_)
          refine lv_goto (tgt := 4) hx hb dX2_heaviestOf_46 (by decide) ?_
          exact ih_4 x2_4 (x3_4 + 1) H locs ls hP hD hS (lv_sub hl [1, 2, 3, 0] rfl) hf
        · have hf := bs_f hf c3
          refine lv_aload_n hx hb dX2_heaviestOf_20 rfl (lv_at hl 0 rfl) ?_
          refine lv_iload_n hx hb dX2_heaviestOf_21 rfl (lv_at hl 3 rfl) ?_
          obtain ⟨z4, hz4, hf⟩ := bs_b hf
          refine bs_cViR ⟨hx, hb, hml, hown, hts⟩ (k_X2_isBag l dC dI cI cZ cS cG oh oq_weights oq_rivals o_weights o_rivals o_promises o_sets o_wax o_stick o_settled x3_4 z4 hz4) (cwV 1 hts gX2_heaviestOf_X2_isBag rfl rfl rfl (by decide +kernel) ⟨Nat.le_of_ble_eq_true rfl, Nat.le_of_ble_eq_true rfl⟩) hE hP hD hA hS [0, 1, 2] rfl rfl 2 0 rfl rfl rfl rfl hl.1 (Nat.le_of_ble_eq_true rfl) dX2_heaviestOf_22 (fun H locs hP hS => ?_)
          refine lv_if_eq (tgt := 43) hx hb dX2_heaviestOf_25 (by decide) (fun c5 => ?_) (fun c5 => ?_)
          · have hf := bs_t hf c5
            refine lv_iinc (v := x3_4 + 1) (lv' := [(3, .int (x3_4 + 1)), (0, .ref oh), (1, .int p1), (2, .int x2_4)]) hx hb dX2_heaviestOf_43 hl (k := 3) rfl rfl (by decide) rfl (fun ls hl => ?_)
            refine lv_goto (tgt := 4) hx hb dX2_heaviestOf_46 (by decide) ?_
            exact ih_4 x2_4 (x3_4 + 1) H locs ls hP hD hS (lv_sub hl [1, 2, 3, 0] rfl) hf
          · have hf := bs_f hf c5
            refine lv_aload_n hx hb dX2_heaviestOf_28 rfl (lv_at hl 0 rfl) ?_
            refine lv_iload_n hx hb dX2_heaviestOf_29 rfl (lv_at hl 3 rfl) ?_
            obtain ⟨z6, hz6, hf⟩ := bs_b hf
            refine bs_cViR ⟨hx, hb, hml, hown, hts⟩ (k_X2_readingOf l dC dI cI cZ cS cG oh oq_weights oq_rivals o_weights o_rivals o_promises o_sets o_wax o_stick o_settled x3_4 z6 hz6) (cwV 1 hts gX2_heaviestOf_X2_readingOf rfl rfl rfl (by decide +kernel) ⟨Nat.le_of_ble_eq_true rfl, Nat.le_of_ble_eq_true rfl⟩) hE hP hD hA hS [0, 1, 2] rfl rfl 2 0 rfl rfl rfl rfl hl.1 (Nat.le_of_ble_eq_true rfl) dX2_heaviestOf_30 (fun H locs hP hS => ?_)
            refine lv_aload_n hx hb dX2_heaviestOf_33 rfl (lv_at hl 0 rfl) ?_
            refine lv_iload_n hx hb dX2_heaviestOf_34 rfl (lv_at hl 2 rfl) ?_
            obtain ⟨z7, hz7, hf⟩ := bs_b hf
            refine bs_cViR ⟨hx, hb, hml, hown, hts⟩ (k_X2_readingOf l dC dI cI cZ cS cG oh oq_weights oq_rivals o_weights o_rivals o_promises o_sets o_wax o_stick o_settled x2_4 z7 hz7) (cwV 1 hts gX2_heaviestOf_X2_readingOf rfl rfl rfl (by decide +kernel) ⟨Nat.le_of_ble_eq_true rfl, Nat.le_of_ble_eq_true rfl⟩) hE hP hD hA hS [0, 1, 2] rfl rfl 2 0 rfl rfl rfl rfl hl.1 (Nat.le_of_ble_eq_true rfl) dX2_heaviestOf_35 (fun H locs hP hS => ?_)
            refine lv_icmp_le (tgt := 43) hx hb dX2_heaviestOf_38 (by decide) (fun c8 => ?_) (fun c8 => ?_)
            · have hf := bs_t hf c8
              refine lv_iinc (v := x3_4 + 1) (lv' := [(3, .int (x3_4 + 1)), (0, .ref oh), (1, .int p1), (2, .int x2_4)]) hx hb dX2_heaviestOf_43 hl (k := 3) rfl rfl (by decide) rfl (fun ls hl => ?_)
              refine lv_goto (tgt := 4) hx hb dX2_heaviestOf_46 (by decide) ?_
              exact ih_4 x2_4 (x3_4 + 1) H locs ls hP hD hS (lv_sub hl [1, 2, 3, 0] rfl) hf
            · have hf := bs_f hf c8
              refine lv_iload_n hx hb dX2_heaviestOf_41 rfl (lv_at hl 3 rfl) ?_
              refine lv_istore_n (lv' := [(2, .int x3_4), (0, .ref oh), (1, .int p1), (3, .int x3_4)]) hx hb dX2_heaviestOf_42 rfl hl (by decide) rfl (fun ls hl => ?_)
              refine lv_iinc (v := x3_4 + 1) (lv' := [(3, .int (x3_4 + 1)), (2, .int x3_4), (0, .ref oh), (1, .int p1)]) hx hb dX2_heaviestOf_43 hl (k := 3) rfl rfl (by decide) rfl (fun ls hl => ?_)
              refine lv_goto (tgt := 4) hx hb dX2_heaviestOf_46 (by decide) ?_
              exact ih_4 x3_4 (x3_4 + 1) H locs ls hP hD hS (lv_sub hl [2, 3, 1, 0] rfl) hf
  exact L_4 bs_F (0 : Int32) (1 : Int32) H locs ls hP hD hS (lv_sub hl [2, 3, 1, 0] rfl) hf
set_option maxHeartbeats 4000000 in
set_option maxRecDepth 100000 in
theorem k_X2_areRead (l : Launch) (dC : Nat → ClassId) (dI : Nat → Nat → Nat) (cI cZ cS cG : ClassId) (oh : Nat) (oq_weights : Nat) (oq_rivals : Nat) (aq : Nat) (o_weights : Nat → Int32) (o_rivals : Nat → Int32) (o_promises : Int32) (o_sets : Int32) (o_wax : Int32) (o_stick : Int32) (o_settled : Int32) (a : Nat → Int32) (p2 : Int32) (p3 : Int32) (p4 : Int32) (p5 : Int32) (out : Int32) (hf : f_X2_areRead o_weights o_promises a p2 p3 p4 p5 = some out) : bs_C l dC dI cI cZ cS cG yX2_areRead wsX2_areRead ({ frames := 1, cells := 0, slots := 0, locals := 23 } : Room) [.ref oh, .ref aq, .int p2, .int p3, .int p4, .int p5] ([(oh, .inr (2, [.ref oq_weights, .ref oq_rivals, .int o_promises, .int o_sets, .int o_wax, .int o_stick, .int o_settled])), (oq_weights, .inl (cI, 8, .inl o_weights)), (oq_rivals, .inl (cI, 8, .inl o_rivals)), (aq, .inl (cI, 40, .inl a))]) out ([(oh, .inr (2, [.ref oq_weights, .ref oq_rivals, .int o_promises, .int o_sets, .int o_wax, .int o_stick, .int o_settled])), (oq_weights, .inl (cI, 8, .inl o_weights)), (oq_rivals, .inl (cI, 8, .inl o_rivals)), (aq, .inl (cI, 40, .inl a))]) := by
  refine bs_ofI (cc := cX2_areRead) (maxL := 8) (by decide) rfl (Nat.le_of_ble_eq_true rfl) ?_
  intro p e s m below meth c A Q hx hb hown hml hts hE H locs hP hD hA hS ls hl hret
  have hK := hE.1
  have hl : lv_has ls 8 [(0, .ref oh), (1, .ref aq), (2, .int p2), (3, .int p3), (4, .int p4), (5, .int p5)] := hl
  unfold f_X2_areRead at hf
  refine lv_iconst (v := 0) hx hb dX2_areRead_0 (by decide) ?_
  refine lv_istore (lv' := [(6, .int 0), (0, .ref oh), (1, .ref aq), (2, .int p2), (3, .int p3), (4, .int p4), (5, .int p5)]) hx hb dX2_areRead_1 hl (by decide) rfl (fun ls hl => ?_)
  have L_3 : ∀ (fuel : Nat) (x6_3 : Int32) (H : Heap) (locs : List Loc) (ls : Array Slot), va_P (dC, dI) vwCl ([(oh, .inr (2, [.ref oq_weights, .ref oq_rivals, .int o_promises, .int o_sets, .int o_wax, .int o_stick, .int o_settled])), (oq_weights, .inl (cI, 8, .inl o_weights)), (oq_rivals, .inl (cI, 8, .inl o_rivals)), (aq, .inl (cI, 40, .inl a))]) H → va_D A ([(oh, .inr (2, [.ref oq_weights, .ref oq_rivals, .int o_promises, .int o_sets, .int o_wax, .int o_stick, .int o_settled])), (oq_weights, .inl (cI, 8, .inl o_weights)), (oq_rivals, .inl (cI, 8, .inl o_rivals)), (aq, .inl (cI, 40, .inl a))]) → va_S A s.heap H locs → lv_has ls 8 [(0, .ref oh), (1, .ref aq), (2, .int p2), (3, .int p3), (4, .int p4), (5, .int p5), (6, .int x6_3)] → f_X2_areRead_L3 o_weights o_promises a p2 p3 p4 p5 fuel x6_3 = some out → W p l e ({ frames := 1, cells := 0, slots := 0, locals := 23 } : Room) s m ([.ref oh, .ref aq, .int p2, .int p3, .int p4, .int p5] : List Value).toArray below meth c H locs 0 0 Q (F0 m 3 ls []) := by
    intro fuel
    induction fuel with
    | zero =>
      intro x6_3 H locs ls hP hD hS hl hf
      cases (show (none : Option (Int32)) = some out from hf)
    | succ n_3 ih_3 =>
      intro x6_3 H locs ls hP hD hS hl hf
      have hf := (f_X2_areRead_L3_s o_weights o_promises a p2 p3 p4 p5 n_3 x6_3).symm.trans hf
      refine lv_iload hx hb dX2_areRead_3 (lv_at hl 6 rfl) ?_
      refine lv_iload_n hx hb dX2_areRead_5 rfl (lv_at hl 3 rfl) ?_
      refine lv_icmp_ge (tgt := 50) hx hb dX2_areRead_6 (by decide) (fun c1 => ?_) (fun c1 => ?_)
      · have hf := bs_t hf c1
        refine lv_iconst (v := 1) hx hb dX2_areRead_50 (by decide) ?_
        obtain rfl := Option.some.inj hf
        exact hret H locs _ _ hP hS bs_n1 dX2_areRead_51
      · have hf := bs_f hf c1
        refine lv_iload_n hx hb dX2_areRead_9 rfl (lv_at hl 2 rfl) ?_
        refine lv_iconst (v := 2) hx hb dX2_areRead_10 (by decide) ?_
        refine lv_iload hx hb dX2_areRead_11 (lv_at hl 6 rfl) ?_
        refine lv_imul hx hb dX2_areRead_13 ?_
        refine lv_iadd hx hb dX2_areRead_14 ?_
        refine lv_istore (lv' := [(7, .int (p2 + (2 * x6_3))), (0, .ref oh), (1, .ref aq), (2, .int p2), (3, .int p3), (4, .int p4), (5, .int p5), (6, .int x6_3)]) hx hb dX2_areRead_15 hl (by decide) rfl (fun ls hl => ?_)
        refine lv_aload_n hx hb dX2_areRead_17 rfl (lv_at hl 1 rfl) ?_
        refine lv_aload_n hx hb dX2_areRead_18 rfl (lv_at hl 2 rfl) ?_
        refine lv_iload hx hb dX2_areRead_19 (lv_at hl 0 rfl) ?_
        obtain ⟨g2, hf⟩ := bs_g hf
        refine va_iald hx hb hK hP 3 0 rfl rfl (bs_inV g2) dX2_areRead_21 ?_
        obtain ⟨z3, hz3, hf⟩ := bs_b hf
        refine bs_cViR ⟨hx, hb, hml, hown, hts⟩ (k_X2_weightOf l dC dI cI cZ cS cG oh oq_weights oq_rivals o_weights o_rivals o_promises o_sets o_wax o_stick o_settled (a (p2 + (2 * x6_3)).toNatClampNeg) z3 hz3) (cwV 1 hts gX2_areRead_X2_weightOf rfl rfl rfl (by decide +kernel) ⟨Nat.le_of_ble_eq_true rfl, Nat.le_of_ble_eq_true rfl⟩) hE hP hD hA hS [0, 1, 2] rfl rfl 2 0 rfl rfl rfl rfl hl.1 (Nat.le_of_ble_eq_true rfl) dX2_areRead_22 (fun H locs hP hS => ?_)
        refine lv_iload hx hb dX2_areRead_25 (lv_at hl 5 rfl) ?_
        refine lv_iadd hx hb dX2_areRead_27 ?_
        refine lv_iload hx hb dX2_areRead_28 (lv_at hl 6 rfl) ?_
        obtain ⟨z4, hz4, hf⟩ := bs_b hf
        refine bs_cSn ⟨hx, hb, hml, hown, hts⟩ (k_X6_reading l dC dI cI cZ cS cG (z3 + p4) p5 z4 hz4) ⟨va_cnB 2 hts gX2_areRead_X6_reading_n55 rfl rfl rfl hE.2.2.1 (hts (.initialized RX6) (by decide +kernel)) (by decide +kernel) ⟨Nat.le_of_ble_eq_true rfl, Nat.le_of_ble_eq_true rfl⟩, (hts (.static yX6_reading) (by decide +kernel)), trivial⟩ hE hP hD hA hS rfl rfl hl.1 (Nat.le_of_ble_eq_true rfl) dX2_areRead_30 (fun H locs hP hS => ?_)
        refine lv_aload_n hx hb dX2_areRead_33 rfl (lv_at hl 2 rfl) ?_
        refine lv_iload hx hb dX2_areRead_34 (lv_at hl 0 rfl) ?_
        refine lv_iconst (v := 1) hx hb dX2_areRead_36 (by decide) ?_
        refine lv_iadd hx hb dX2_areRead_37 ?_
        obtain ⟨g5, hf⟩ := bs_g hf
        refine va_iald hx hb hK hP 3 0 rfl rfl (bs_inV g5) dX2_areRead_38 ?_
        refine lv_icmp_eq (tgt := 44) hx hb dX2_areRead_39 (by decide) (fun c6 => ?_) (fun c6 => ?_)
        · have hf := bs_t hf c6
          refine lv_iinc (v := x6_3 + 1) (lv' := [(6, .int (x6_3 + 1)), (7, .int (p2 + (2 * x6_3))), (0, .ref oh), (1, .ref aq), (2, .int p2), (3, .int p3), (4, .int p4), (5, .int p5)]) hx hb dX2_areRead_44 hl (k := 7) rfl rfl (by decide) rfl (fun ls hl => ?_)
          refine lv_goto (tgt := 3) hx hb dX2_areRead_47 (by decide) ?_
          exact ih_3 (x6_3 + 1) H locs ls hP hD hS (lv_sub hl [2, 3, 4, 5, 6, 7, 0] rfl) hf
        · have hf := bs_f hf c6
          refine lv_iconst (v := 0) hx hb dX2_areRead_42 (by decide) ?_
          obtain rfl := Option.some.inj hf
          exact hret H locs _ _ hP hS bs_n0 dX2_areRead_43
  exact L_3 bs_F (0 : Int32) H locs ls hP hD hS (lv_sub hl [1, 2, 3, 4, 5, 6, 0] rfl) hf
set_option maxHeartbeats 4000000 in
set_option maxRecDepth 100000 in
theorem k_X3_isMissing (l : Launch) (dC : Nat → ClassId) (dI : Nat → Nat → Nat) (cI cZ cS cG : ClassId) (oh : Nat) (oq_items : Nat) (og : Nat → Nat) (oq_laneOf : Nat) (oq_lengthOf : Nat) (o_items : Nat → Nat → Int32) (o_laneOf : Nat → Int32) (o_lengthOf : Nat → Int32) (p1 : Int32) (out : Int32) (hf : f_X3_isMissing o_lengthOf p1 = some out) : bs_C l dC dI cI cZ cS cG yX3_isMissing wsX3_isMissing ({ frames := 0, cells := 0, slots := 0, locals := 0 } : Room) [.ref oh, .int p1] ([(oh, .inr (3, [.ref oq_items, .ref oq_laneOf, .ref oq_lengthOf])), (oq_items, .inl (cG, 8, .inr (.inr (.inr (.inr (fun j : Nat => if j < 8 then some (og j) else none)))))), (oq_laneOf, .inl (cI, 8, .inl o_laneOf)), (oq_lengthOf, .inl (cI, 8, .inl o_lengthOf))] ++ bs_rw cI og o_items) out ([(oh, .inr (3, [.ref oq_items, .ref oq_laneOf, .ref oq_lengthOf])), (oq_items, .inl (cG, 8, .inr (.inr (.inr (.inr (fun j : Nat => if j < 8 then some (og j) else none)))))), (oq_laneOf, .inl (cI, 8, .inl o_laneOf)), (oq_lengthOf, .inl (cI, 8, .inl o_lengthOf))] ++ bs_rw cI og o_items) := by
  refine bs_ofI (cc := cX3_isMissing) (maxL := 2) (by decide) rfl (Nat.le_of_ble_eq_true rfl) ?_
  intro p e s m below meth c A Q hx hb hown hml hts hE H locs hP hD hA hS ls hl hret
  have hK := hE.1
  have hl : lv_has ls 2 [(0, .ref oh), (1, .int p1)] := hl
  have hin3 : ∀ w ∈ u_ws RX3 TX3 3, w ∈ wsX3_isMissing := by decide +kernel
  have k20 := hts (.fieldLink RX3 20 "PromiseScales$Rows" "lengthOf" "[I") (by decide +kernel)
  unfold f_X3_isMissing at hf
  refine lv_aload_n hx hb dX3_isMissing_0 rfl (lv_at hl 0 rfl) ?_
  refine va_get (D := (dC, dI)) (ci := 3) (v := .ref oq_lengthOf) (C := RX3) (T := TX3) (N := 3) hx hb hts hin3 hown hK hP 0 rfl rfl 2 (by decide) k20 (fun _ h9 => h9) rfl dX3_isMissing_1 ?_
  refine lv_iload_n hx hb dX3_isMissing_4 rfl (lv_at hl 1 rfl) ?_
  obtain ⟨g1, hf⟩ := bs_g hf
  refine va_iald hx hb hK hP 3 0 rfl rfl (bs_inV g1) dX3_isMissing_5 ?_
  refine lv_iconst (v := (-1)) hx hb dX3_isMissing_6 (by decide) ?_
  refine lv_icmp_ne (tgt := 14) hx hb dX3_isMissing_7 (by decide) (fun c2 => ?_) (fun c2 => ?_)
  · have hf := bs_f hf c2
    refine lv_iconst (v := 0) hx hb dX3_isMissing_14 (by decide) ?_
    obtain rfl := Option.some.inj hf
    exact hret H locs _ _ hP hS bs_n0 dX3_isMissing_15
  · have hf := bs_t hf c2
    refine lv_iconst (v := 1) hx hb dX3_isMissing_10 (by decide) ?_
    refine lv_goto (tgt := 15) hx hb dX3_isMissing_11 (by decide) ?_
    obtain rfl := Option.some.inj hf
    exact hret H locs _ _ hP hS bs_n1 dX3_isMissing_15
set_option maxHeartbeats 4000000 in
set_option maxRecDepth 100000 in
theorem k_X3_howMany (l : Launch) (dC : Nat → ClassId) (dI : Nat → Nat → Nat) (cI cZ cS cG : ClassId) (oh : Nat) (oq_items : Nat) (og : Nat → Nat) (oq_laneOf : Nat) (oq_lengthOf : Nat) (o_items : Nat → Nat → Int32) (o_laneOf : Nat → Int32) (o_lengthOf : Nat → Int32) (out : Int32) (hf : f_X3_howMany o_lengthOf = some out) : bs_C l dC dI cI cZ cS cG yX3_howMany wsX3_howMany ({ frames := 1, cells := 0, slots := 0, locals := 21 } : Room) [.ref oh] ([(oh, .inr (3, [.ref oq_items, .ref oq_laneOf, .ref oq_lengthOf])), (oq_items, .inl (cG, 8, .inr (.inr (.inr (.inr (fun j : Nat => if j < 8 then some (og j) else none)))))), (oq_laneOf, .inl (cI, 8, .inl o_laneOf)), (oq_lengthOf, .inl (cI, 8, .inl o_lengthOf))] ++ bs_rw cI og o_items) out ([(oh, .inr (3, [.ref oq_items, .ref oq_laneOf, .ref oq_lengthOf])), (oq_items, .inl (cG, 8, .inr (.inr (.inr (.inr (fun j : Nat => if j < 8 then some (og j) else none)))))), (oq_laneOf, .inl (cI, 8, .inl o_laneOf)), (oq_lengthOf, .inl (cI, 8, .inl o_lengthOf))] ++ bs_rw cI og o_items) := by
  refine bs_ofI (cc := cX3_howMany) (maxL := 3) (by decide) rfl (Nat.le_of_ble_eq_true rfl) ?_
  intro p e s m below meth c A Q hx hb hown hml hts hE H locs hP hD hA hS ls hl hret
  have hK := hE.1
  have hl : lv_has ls 3 [(0, .ref oh)] := hl
  unfold f_X3_howMany at hf
  refine lv_iconst (v := 0) hx hb dX3_howMany_0 (by decide) ?_
  refine lv_istore_n (lv' := [(1, .int 0), (0, .ref oh)]) hx hb dX3_howMany_1 rfl hl (by decide) rfl (fun ls hl => ?_)
  refine lv_iconst (v := 0) hx hb dX3_howMany_2 (by decide) ?_
  refine lv_istore_n (lv' := [(2, .int 0), (1, .int 0), (0, .ref oh)]) hx hb dX3_howMany_3 rfl hl (by decide) rfl (fun ls hl => ?_)
  have L_4 : ∀ (fuel : Nat) (x1_4 : Int32) (x2_4 : Int32) (H : Heap) (locs : List Loc) (ls : Array Slot), va_P (dC, dI) vwCl ([(oh, .inr (3, [.ref oq_items, .ref oq_laneOf, .ref oq_lengthOf])), (oq_items, .inl (cG, 8, .inr (.inr (.inr (.inr (fun j : Nat => if j < 8 then some (og j) else none)))))), (oq_laneOf, .inl (cI, 8, .inl o_laneOf)), (oq_lengthOf, .inl (cI, 8, .inl o_lengthOf))] ++ bs_rw cI og o_items) H → va_D A ([(oh, .inr (3, [.ref oq_items, .ref oq_laneOf, .ref oq_lengthOf])), (oq_items, .inl (cG, 8, .inr (.inr (.inr (.inr (fun j : Nat => if j < 8 then some (og j) else none)))))), (oq_laneOf, .inl (cI, 8, .inl o_laneOf)), (oq_lengthOf, .inl (cI, 8, .inl o_lengthOf))] ++ bs_rw cI og o_items) → va_S A s.heap H locs → lv_has ls 3 [(0, .ref oh), (1, .int x1_4), (2, .int x2_4)] → f_X3_howMany_L4 o_lengthOf fuel x1_4 x2_4 = some out → W p l e ({ frames := 1, cells := 0, slots := 0, locals := 21 } : Room) s m ([.ref oh] : List Value).toArray below meth c H locs 0 0 Q (F0 m 4 ls []) := by
    intro fuel
    induction fuel with
    | zero =>
      intro x1_4 x2_4 H locs ls hP hD hS hl hf
      cases (show (none : Option (Int32)) = some out from hf)
    | succ n_4 ih_4 =>
      intro x1_4 x2_4 H locs ls hP hD hS hl hf
      have hf := (f_X3_howMany_L4_s o_lengthOf n_4 x1_4 x2_4).symm.trans hf
      refine lv_iload_n hx hb dX3_howMany_4 rfl (lv_at hl 2 rfl) ?_
      refine lv_bipush (v := 8) hx hb dX3_howMany_5 (by decide) ?_
      refine lv_icmp_ge (tgt := 32) hx hb dX3_howMany_7 (by decide) (fun c1 => ?_) (fun c1 => ?_)
      · have hf := bs_t hf c1
        refine lv_iload_n hx hb dX3_howMany_32 rfl (lv_at hl 1 rfl) ?_
        obtain rfl := Option.some.inj hf
        exact hret H locs _ _ hP hS rfl dX3_howMany_33
      · have hf := bs_f hf c1
        refine lv_iload_n hx hb dX3_howMany_10 rfl (lv_at hl 1 rfl) ?_
        refine lv_aload_n hx hb dX3_howMany_11 rfl (lv_at hl 0 rfl) ?_
        refine lv_iload_n hx hb dX3_howMany_12 rfl (lv_at hl 2 rfl) ?_
        obtain ⟨z2, hz2, hf⟩ := bs_b hf
        refine bs_cViR ⟨hx, hb, hml, hown, hts⟩ (k_X3_isMissing l dC dI cI cZ cS cG oh oq_items og oq_laneOf oq_lengthOf o_items o_laneOf o_lengthOf x2_4 z2 hz2) (cwV 1 hts gX3_howMany_X3_isMissing rfl rfl rfl (by decide +kernel) ⟨Nat.le_of_ble_eq_true rfl, Nat.le_of_ble_eq_true rfl⟩) hE hP hD hA hS [0, 1, 2, 3, 4, 5, 6, 7, 8, 9, 10, 11] rfl rfl 3 0 rfl rfl rfl rfl hl.1 (Nat.le_of_ble_eq_true rfl) dX3_howMany_13 (fun H locs hP hS => ?_)
        refine lv_if_eq (tgt := 23) hx hb dX3_howMany_16 (by decide) (fun c3 => ?_) (fun c3 => ?_)
        · have hf := bs_t hf c3
          refine lv_iconst (v := 1) hx hb dX3_howMany_23 (by decide) ?_
          refine lv_iadd hx hb dX3_howMany_24 ?_
          refine lv_istore_n (lv' := [(1, .int (x1_4 + 1)), (0, .ref oh), (2, .int x2_4)]) hx hb dX3_howMany_25 rfl hl (by decide) rfl (fun ls hl => ?_)
          refine lv_iinc (v := x2_4 + 1) (lv' := [(2, .int (x2_4 + 1)), (1, .int (x1_4 + 1)), (0, .ref oh)]) hx hb dX3_howMany_26 hl (k := 2) rfl rfl (by decide) rfl (fun ls hl => ?_)
          refine lv_goto (tgt := 4) hx hb dX3_howMany_29 (by decide) ?_
          exact ih_4 (x1_4 + 1) (x2_4 + 1) H locs ls hP hD hS (lv_sub hl [2, 1, 0] rfl) hf
        · have hf := bs_f hf c3
          refine lv_iconst (v := 0) hx hb dX3_howMany_19 (by decide) ?_
          refine lv_goto (tgt := 24) hx hb dX3_howMany_20 (by decide) ?_
          refine lv_iadd hx hb dX3_howMany_24 ?_
          refine lv_istore_n (lv' := [(1, .int (x1_4 + 0)), (0, .ref oh), (2, .int x2_4)]) hx hb dX3_howMany_25 rfl hl (by decide) rfl (fun ls hl => ?_)
          refine lv_iinc (v := x2_4 + 1) (lv' := [(2, .int (x2_4 + 1)), (1, .int (x1_4 + 0)), (0, .ref oh)]) hx hb dX3_howMany_26 hl (k := 2) rfl rfl (by decide) rfl (fun ls hl => ?_)
          refine lv_goto (tgt := 4) hx hb dX3_howMany_29 (by decide) ?_
          exact ih_4 (x1_4 + 0) (x2_4 + 1) H locs ls hP hD hS (lv_sub hl [2, 1, 0] rfl) hf
  exact L_4 bs_F (0 : Int32) (0 : Int32) H locs ls hP hD hS (lv_sub hl [2, 1, 0] rfl) hf
set_option maxHeartbeats 4000000 in
set_option maxRecDepth 100000 in
theorem k_X3_make (l : Launch) (dC : Nat → ClassId) (dI : Nat → Nat → Nat) (cI cZ cS cG : ClassId) (oh : Nat) (oq_items : Nat) (og : Nat → Nat) (oq_laneOf : Nat) (oq_lengthOf : Nat) (o_items : Nat → Nat → Int32) (o_laneOf : Nat → Int32) (o_lengthOf : Nat → Int32) (p1 : Int32) (p2 : Int32) (p3 : Int32) (out : (Nat → Nat → Int32) × (Nat → Int32) × (Nat → Int32)) (hf : f_X3_make o_items o_laneOf o_lengthOf p1 p2 p3 = some out) : bs_CV l dC dI cI cZ cS cG yX3_make wsX3_make ({ frames := 0, cells := 0, slots := 0, locals := 0 } : Room) [.ref oh, .int p1, .int p2, .int p3] ([(oh, .inr (3, [.ref oq_items, .ref oq_laneOf, .ref oq_lengthOf])), (oq_items, .inl (cG, 8, .inr (.inr (.inr (.inr (fun j : Nat => if j < 8 then some (og j) else none)))))), (oq_laneOf, .inl (cI, 8, .inl o_laneOf)), (oq_lengthOf, .inl (cI, 8, .inl o_lengthOf))] ++ bs_rw cI og o_items) ([(oh, .inr (3, [.ref oq_items, .ref oq_laneOf, .ref oq_lengthOf])), (oq_items, .inl (cG, 8, .inr (.inr (.inr (.inr (fun j : Nat => if j < 8 then some (og j) else none)))))), (oq_laneOf, .inl (cI, 8, .inl out.2.1)), (oq_lengthOf, .inl (cI, 8, .inl out.2.2))] ++ bs_rw cI og out.1) := by
  refine bs_ofV (cc := cX3_make) (maxL := 5) (by decide) rfl (Nat.le_of_ble_eq_true rfl) ?_
  intro p e s m below meth c A Q hx hb hown hml hts hE H locs hP hD hA hS ls hl hret
  have hK := hE.1
  have hl : lv_has ls 5 [(0, .ref oh), (1, .int p1), (2, .int p2), (3, .int p3)] := hl
  have hin3 : ∀ w ∈ u_ws RX3 TX3 3, w ∈ wsX3_make := by decide +kernel
  have k13 := hts (.fieldLink RX3 13 "PromiseScales$Rows" "items" "[[I") (by decide +kernel)
  have k16 := hts (.fieldLink RX3 16 "PromiseScales$Rows" "laneOf" "[I") (by decide +kernel)
  have k20 := hts (.fieldLink RX3 20 "PromiseScales$Rows" "lengthOf" "[I") (by decide +kernel)
  unfold f_X3_make at hf
  refine lv_aload_n hx hb dX3_make_0 rfl (lv_at hl 0 rfl) ?_
  refine va_get (D := (dC, dI)) (ci := 3) (v := .ref oq_laneOf) (C := RX3) (T := TX3) (N := 3) hx hb hts hin3 hown hK hP 0 rfl rfl 1 (by decide) k16 (fun _ h9 => h9) rfl dX3_make_1 ?_
  refine lv_iload_n hx hb dX3_make_4 rfl (lv_at hl 1 rfl) ?_
  refine lv_iload_n hx hb dX3_make_5 rfl (lv_at hl 2 rfl) ?_
  obtain ⟨g1, hf⟩ := bs_g hf
  refine va_iast hx hb hK hP hD hS 2 0 rfl rfl (bs_inV g1) dX3_make_6 (fun H locs hP hD hS => ?_)
  have hP : va_P (dC, dI) vwCl ([(oh, .inr (3, [.ref oq_items, .ref oq_laneOf, .ref oq_lengthOf])), (oq_items, .inl (cG, 8, .inr (.inr (.inr (.inr (fun j : Nat => if j < 8 then some (og j) else none)))))), (oq_laneOf, .inl (cI, 8, .inl (upd o_laneOf p1.toNatClampNeg p2))), (oq_lengthOf, .inl (cI, 8, .inl o_lengthOf))] ++ bs_rw cI og o_items) H := hP
  have hD : va_D A ([(oh, .inr (3, [.ref oq_items, .ref oq_laneOf, .ref oq_lengthOf])), (oq_items, .inl (cG, 8, .inr (.inr (.inr (.inr (fun j : Nat => if j < 8 then some (og j) else none)))))), (oq_laneOf, .inl (cI, 8, .inl (upd o_laneOf p1.toNatClampNeg p2))), (oq_lengthOf, .inl (cI, 8, .inl o_lengthOf))] ++ bs_rw cI og o_items) := hD
  refine lv_aload_n hx hb dX3_make_7 rfl (lv_at hl 0 rfl) ?_
  refine va_get (D := (dC, dI)) (ci := 3) (v := .ref oq_lengthOf) (C := RX3) (T := TX3) (N := 3) hx hb hts hin3 hown hK hP 0 rfl rfl 2 (by decide) k20 (fun _ h9 => h9) rfl dX3_make_8 ?_
  refine lv_iload_n hx hb dX3_make_11 rfl (lv_at hl 1 rfl) ?_
  refine lv_iload_n hx hb dX3_make_12 rfl (lv_at hl 3 rfl) ?_
  obtain ⟨g2, hf⟩ := bs_g hf
  refine va_iast hx hb hK hP hD hS 3 0 rfl rfl (bs_inV g2) dX3_make_13 (fun H locs hP hD hS => ?_)
  have hP : va_P (dC, dI) vwCl ([(oh, .inr (3, [.ref oq_items, .ref oq_laneOf, .ref oq_lengthOf])), (oq_items, .inl (cG, 8, .inr (.inr (.inr (.inr (fun j : Nat => if j < 8 then some (og j) else none)))))), (oq_laneOf, .inl (cI, 8, .inl (upd o_laneOf p1.toNatClampNeg p2))), (oq_lengthOf, .inl (cI, 8, .inl (upd o_lengthOf p1.toNatClampNeg p3)))] ++ bs_rw cI og o_items) H := hP
  have hD : va_D A ([(oh, .inr (3, [.ref oq_items, .ref oq_laneOf, .ref oq_lengthOf])), (oq_items, .inl (cG, 8, .inr (.inr (.inr (.inr (fun j : Nat => if j < 8 then some (og j) else none)))))), (oq_laneOf, .inl (cI, 8, .inl (upd o_laneOf p1.toNatClampNeg p2))), (oq_lengthOf, .inl (cI, 8, .inl (upd o_lengthOf p1.toNatClampNeg p3)))] ++ bs_rw cI og o_items) := hD
  refine lv_iconst (v := 0) hx hb dX3_make_14 (by decide) ?_
  refine lv_istore (lv' := [(4, .int 0), (0, .ref oh), (1, .int p1), (2, .int p2), (3, .int p3)]) hx hb dX3_make_15 hl (by decide) rfl (fun ls hl => ?_)
  have L_17 : ∀ (fuel : Nat) (o_items_17 : Nat → Nat → Int32) (x4_17 : Int32) (H : Heap) (locs : List Loc) (ls : Array Slot), va_P (dC, dI) vwCl ([(oh, .inr (3, [.ref oq_items, .ref oq_laneOf, .ref oq_lengthOf])), (oq_items, .inl (cG, 8, .inr (.inr (.inr (.inr (fun j : Nat => if j < 8 then some (og j) else none)))))), (oq_laneOf, .inl (cI, 8, .inl (upd o_laneOf p1.toNatClampNeg p2))), (oq_lengthOf, .inl (cI, 8, .inl (upd o_lengthOf p1.toNatClampNeg p3)))] ++ bs_rw cI og o_items_17) H → va_D A ([(oh, .inr (3, [.ref oq_items, .ref oq_laneOf, .ref oq_lengthOf])), (oq_items, .inl (cG, 8, .inr (.inr (.inr (.inr (fun j : Nat => if j < 8 then some (og j) else none)))))), (oq_laneOf, .inl (cI, 8, .inl (upd o_laneOf p1.toNatClampNeg p2))), (oq_lengthOf, .inl (cI, 8, .inl (upd o_lengthOf p1.toNatClampNeg p3)))] ++ bs_rw cI og o_items_17) → va_S A s.heap H locs → lv_has ls 5 [(0, .ref oh), (1, .int p1), (4, .int x4_17)] → f_X3_make_L17 (upd o_laneOf p1.toNatClampNeg p2) (upd o_lengthOf p1.toNatClampNeg p3) p1 fuel o_items_17 x4_17 = some out → W p l e ({ frames := 0, cells := 0, slots := 0, locals := 0 } : Room) s m ([.ref oh, .int p1, .int p2, .int p3] : List Value).toArray below meth c H locs 0 0 Q (F0 m 17 ls []) := by
    intro fuel
    induction fuel with
    | zero =>
      intro o_items_17 x4_17 H locs ls hP hD hS hl hf
      cases (show (none : Option ((Nat → Nat → Int32) × (Nat → Int32) × (Nat → Int32))) = some out from hf)
    | succ n_17 ih_17 =>
      intro o_items_17 x4_17 H locs ls hP hD hS hl hf
      have hf := (f_X3_make_L17_s (upd o_laneOf p1.toNatClampNeg p2) (upd o_lengthOf p1.toNatClampNeg p3) p1 n_17 o_items_17 x4_17).symm.trans hf
      refine lv_iload hx hb dX3_make_17 (lv_at hl 2 rfl) ?_
      refine lv_bipush (v := 40) hx hb dX3_make_19 (by decide) ?_
      refine lv_icmp_ge (tgt := 40) hx hb dX3_make_21 (by decide) (fun c3 => ?_) (fun c3 => ?_)
      · have hf := bs_t hf c3
        obtain rfl := Option.some.inj hf
        exact hret H locs _ _ hP hS dX3_make_40
      · have hf := bs_f hf c3
        refine lv_aload_n hx hb dX3_make_24 rfl (lv_at hl 0 rfl) ?_
        refine va_get (D := (dC, dI)) (ci := 3) (v := .ref oq_items) (C := RX3) (T := TX3) (N := 3) hx hb hts hin3 hown hK hP 0 rfl rfl 0 (by decide) k13 (fun _ h9 => h9) rfl dX3_make_25 ?_
        refine lv_iload_n hx hb dX3_make_28 rfl (lv_at hl 1 rfl) ?_
        obtain ⟨g4, hf⟩ := bs_g hf
        refine bs_aldg hx hb hK hP 1 3 rfl rfl (bs_inV g4) dX3_make_29 ?_
        refine bs_topq (a := og p1.toNatClampNeg) (bs_row (bs_inL g4)) ?_
        refine lv_iload hx hb dX3_make_30 (lv_at hl 2 rfl) ?_
        refine lv_iconst (v := 0) hx hb dX3_make_32 (by decide) ?_
        obtain ⟨g5, hf⟩ := bs_g hf
        refine va_iast hx hb hK hP hD hS (4 + p1.toNatClampNeg) 0 (bs_rw_at rfl (bs_inL g4)) rfl (bs_inV g5) dX3_make_33 (fun H locs hP hD hS => ?_)
        rw [bs_rw_set (n := 4) rfl (bs_inL g4)] at hP hD
        have hP : va_P (dC, dI) vwCl ([(oh, .inr (3, [.ref oq_items, .ref oq_laneOf, .ref oq_lengthOf])), (oq_items, .inl (cG, 8, .inr (.inr (.inr (.inr (fun j : Nat => if j < 8 then some (og j) else none)))))), (oq_laneOf, .inl (cI, 8, .inl (upd o_laneOf p1.toNatClampNeg p2))), (oq_lengthOf, .inl (cI, 8, .inl (upd o_lengthOf p1.toNatClampNeg p3)))] ++ bs_rw cI og (bs_up2 o_items_17 p1.toNatClampNeg (upd (o_items_17 p1.toNatClampNeg) x4_17.toNatClampNeg 0))) H := hP
        have hD : va_D A ([(oh, .inr (3, [.ref oq_items, .ref oq_laneOf, .ref oq_lengthOf])), (oq_items, .inl (cG, 8, .inr (.inr (.inr (.inr (fun j : Nat => if j < 8 then some (og j) else none)))))), (oq_laneOf, .inl (cI, 8, .inl (upd o_laneOf p1.toNatClampNeg p2))), (oq_lengthOf, .inl (cI, 8, .inl (upd o_lengthOf p1.toNatClampNeg p3)))] ++ bs_rw cI og (bs_up2 o_items_17 p1.toNatClampNeg (upd (o_items_17 p1.toNatClampNeg) x4_17.toNatClampNeg 0))) := hD
        refine lv_iinc (v := x4_17 + 1) (lv' := [(4, .int (x4_17 + 1)), (0, .ref oh), (1, .int p1)]) hx hb dX3_make_34 hl (k := 2) rfl rfl (by decide) rfl (fun ls hl => ?_)
        refine lv_goto (tgt := 17) hx hb dX3_make_37 (by decide) ?_
        exact ih_17 (bs_up2 o_items_17 p1.toNatClampNeg (upd (o_items_17 p1.toNatClampNeg) x4_17.toNatClampNeg 0)) (x4_17 + 1) H locs ls hP hD hS (lv_sub hl [1, 2, 0] rfl) hf
  exact L_17 bs_F o_items (0 : Int32) H locs ls hP hD hS (lv_sub hl [1, 2, 0] rfl) hf
set_option maxHeartbeats 4000000 in
set_option maxRecDepth 100000 in
theorem k_X3_remove (l : Launch) (dC : Nat → ClassId) (dI : Nat → Nat → Nat) (cI cZ cS cG : ClassId) (oh : Nat) (oq_items : Nat) (og : Nat → Nat) (oq_laneOf : Nat) (oq_lengthOf : Nat) (o_items : Nat → Nat → Int32) (o_laneOf : Nat → Int32) (o_lengthOf : Nat → Int32) (p1 : Int32) (out : Int32 × (Nat → Int32)) (hf : f_X3_remove o_lengthOf p1 = some out) : bs_C l dC dI cI cZ cS cG yX3_remove wsX3_remove ({ frames := 0, cells := 0, slots := 0, locals := 0 } : Room) [.ref oh, .int p1] ([(oh, .inr (3, [.ref oq_items, .ref oq_laneOf, .ref oq_lengthOf])), (oq_items, .inl (cG, 8, .inr (.inr (.inr (.inr (fun j : Nat => if j < 8 then some (og j) else none)))))), (oq_laneOf, .inl (cI, 8, .inl o_laneOf)), (oq_lengthOf, .inl (cI, 8, .inl o_lengthOf))] ++ bs_rw cI og o_items) out.1 ([(oh, .inr (3, [.ref oq_items, .ref oq_laneOf, .ref oq_lengthOf])), (oq_items, .inl (cG, 8, .inr (.inr (.inr (.inr (fun j : Nat => if j < 8 then some (og j) else none)))))), (oq_laneOf, .inl (cI, 8, .inl o_laneOf)), (oq_lengthOf, .inl (cI, 8, .inl out.2))] ++ bs_rw cI og o_items) := by
  refine bs_ofI (cc := cX3_remove) (maxL := 3) (by decide) rfl (Nat.le_of_ble_eq_true rfl) ?_
  intro p e s m below meth c A Q hx hb hown hml hts hE H locs hP hD hA hS ls hl hret
  have hK := hE.1
  have hl : lv_has ls 3 [(0, .ref oh), (1, .int p1)] := hl
  have hin3 : ∀ w ∈ u_ws RX3 TX3 3, w ∈ wsX3_remove := by decide +kernel
  have k20 := hts (.fieldLink RX3 20 "PromiseScales$Rows" "lengthOf" "[I") (by decide +kernel)
  unfold f_X3_remove at hf
  refine lv_aload_n hx hb dX3_remove_0 rfl (lv_at hl 0 rfl) ?_
  refine va_get (D := (dC, dI)) (ci := 3) (v := .ref oq_lengthOf) (C := RX3) (T := TX3) (N := 3) hx hb hts hin3 hown hK hP 0 rfl rfl 2 (by decide) k20 (fun _ h9 => h9) rfl dX3_remove_1 ?_
  refine lv_iload_n hx hb dX3_remove_4 rfl (lv_at hl 1 rfl) ?_
  obtain ⟨g1, hf⟩ := bs_g hf
  refine va_iald hx hb hK hP 3 0 rfl rfl (bs_inV g1) dX3_remove_5 ?_
  refine lv_istore_n (lv' := [(2, .int (o_lengthOf p1.toNatClampNeg)), (0, .ref oh), (1, .int p1)]) hx hb dX3_remove_6 rfl hl (by decide) rfl (fun ls hl => ?_)
  refine lv_aload_n hx hb dX3_remove_7 rfl (lv_at hl 1 rfl) ?_
  refine va_get (D := (dC, dI)) (ci := 3) (v := .ref oq_lengthOf) (C := RX3) (T := TX3) (N := 3) hx hb hts hin3 hown hK hP 0 rfl rfl 2 (by decide) k20 (fun _ h9 => h9) rfl dX3_remove_8 ?_
  refine lv_iload_n hx hb dX3_remove_11 rfl (lv_at hl 2 rfl) ?_
  refine lv_iconst (v := (-1)) hx hb dX3_remove_12 (by decide) ?_
  obtain ⟨g2, hf⟩ := bs_g hf
  refine va_iast hx hb hK hP hD hS 3 0 rfl rfl (bs_inV g2) dX3_remove_13 (fun H locs hP hD hS => ?_)
  have hP : va_P (dC, dI) vwCl ([(oh, .inr (3, [.ref oq_items, .ref oq_laneOf, .ref oq_lengthOf])), (oq_items, .inl (cG, 8, .inr (.inr (.inr (.inr (fun j : Nat => if j < 8 then some (og j) else none)))))), (oq_laneOf, .inl (cI, 8, .inl o_laneOf)), (oq_lengthOf, .inl (cI, 8, .inl (upd o_lengthOf p1.toNatClampNeg (-1))))] ++ bs_rw cI og o_items) H := hP
  have hD : va_D A ([(oh, .inr (3, [.ref oq_items, .ref oq_laneOf, .ref oq_lengthOf])), (oq_items, .inl (cG, 8, .inr (.inr (.inr (.inr (fun j : Nat => if j < 8 then some (og j) else none)))))), (oq_laneOf, .inl (cI, 8, .inl o_laneOf)), (oq_lengthOf, .inl (cI, 8, .inl (upd o_lengthOf p1.toNatClampNeg (-1))))] ++ bs_rw cI og o_items) := hD
  refine lv_iload_n hx hb dX3_remove_14 rfl (lv_at hl 0 rfl) ?_
  obtain rfl := Option.some.inj hf
  exact hret H locs _ _ hP hS rfl dX3_remove_15
set_option maxHeartbeats 4000000 in
set_option maxRecDepth 100000 in
theorem k_X3_findingOfRun (l : Launch) (dC : Nat → ClassId) (dI : Nat → Nat → Nat) (cI cZ cS cG : ClassId) (oh : Nat) (oq_items : Nat) (og : Nat → Nat) (oq_laneOf : Nat) (oq_lengthOf : Nat) (o_items : Nat → Nat → Int32) (o_laneOf : Nat → Int32) (o_lengthOf : Nat → Int32) (p1 : Int32) (p2 : Int32) (p3 : Int32) (out : Int32) (hf : f_X3_findingOfRun o_lengthOf p1 p2 p3 = some out) : bs_C l dC dI cI cZ cS cG yX3_findingOfRun wsX3_findingOfRun ({ frames := 1, cells := 0, slots := 0, locals := 21 } : Room) [.ref oh, .int p1, .int p2, .int p3] ([(oh, .inr (3, [.ref oq_items, .ref oq_laneOf, .ref oq_lengthOf])), (oq_items, .inl (cG, 8, .inr (.inr (.inr (.inr (fun j : Nat => if j < 8 then some (og j) else none)))))), (oq_laneOf, .inl (cI, 8, .inl o_laneOf)), (oq_lengthOf, .inl (cI, 8, .inl o_lengthOf))] ++ bs_rw cI og o_items) out ([(oh, .inr (3, [.ref oq_items, .ref oq_laneOf, .ref oq_lengthOf])), (oq_items, .inl (cG, 8, .inr (.inr (.inr (.inr (fun j : Nat => if j < 8 then some (og j) else none)))))), (oq_laneOf, .inl (cI, 8, .inl o_laneOf)), (oq_lengthOf, .inl (cI, 8, .inl o_lengthOf))] ++ bs_rw cI og o_items) := by
  refine bs_ofI (cc := cX3_findingOfRun) (maxL := 4) (by decide) rfl (Nat.le_of_ble_eq_true rfl) ?_
  intro p e s m below meth c A Q hx hb hown hml hts hE H locs hP hD hA hS ls hl hret
  have hK := hE.1
  have hl : lv_has ls 4 [(0, .ref oh), (1, .int p1), (2, .int p2), (3, .int p3)] := hl
  have hin3 : ∀ w ∈ u_ws RX3 TX3 3, w ∈ wsX3_findingOfRun := by decide +kernel
  have k20 := hts (.fieldLink RX3 20 "PromiseScales$Rows" "lengthOf" "[I") (by decide +kernel)
  unfold f_X3_findingOfRun at hf
  refine lv_aload_n hx hb dX3_findingOfRun_0 rfl (lv_at hl 0 rfl) ?_
  refine lv_iload_n hx hb dX3_findingOfRun_1 rfl (lv_at hl 1 rfl) ?_
  obtain ⟨z1, hz1, hf⟩ := bs_b hf
  refine bs_cViR ⟨hx, hb, hml, hown, hts⟩ (k_X3_isMissing l dC dI cI cZ cS cG oh oq_items og oq_laneOf oq_lengthOf o_items o_laneOf o_lengthOf p1 z1 hz1) (cwV 1 hts gX3_findingOfRun_X3_isMissing rfl rfl rfl (by decide +kernel) ⟨Nat.le_of_ble_eq_true rfl, Nat.le_of_ble_eq_true rfl⟩) hE hP hD hA hS [0, 1, 2, 3, 4, 5, 6, 7, 8, 9, 10, 11] rfl rfl 3 0 rfl rfl rfl rfl hl.1 (Nat.le_of_ble_eq_true rfl) dX3_findingOfRun_2 (fun H locs hP hS => ?_)
  refine lv_if_eq (tgt := 10) hx hb dX3_findingOfRun_5 (by decide) (fun c2 => ?_) (fun c2 => ?_)
  · have hf := bs_t hf c2
    refine lv_iload_n hx hb dX3_findingOfRun_10 rfl (lv_at hl 2 rfl) ?_
    refine lv_if_lt (tgt := 30) hx hb dX3_findingOfRun_11 (by decide) (fun c3 => ?_) (fun c3 => ?_)
    · have hf := bs_t hf c3
      refine lv_iconst (v := 2) hx hb dX3_findingOfRun_30 (by decide) ?_
      refine lv_goto (tgt := 35) hx hb dX3_findingOfRun_31 (by decide) ?_
      obtain rfl := Option.some.inj hf
      exact hret H locs _ _ hP hS rfl dX3_findingOfRun_35
    · have hf := bs_f hf c3
      refine lv_iload_n hx hb dX3_findingOfRun_14 rfl (lv_at hl 3 rfl) ?_
      refine lv_if_lt (tgt := 30) hx hb dX3_findingOfRun_15 (by decide) (fun c4 => ?_) (fun c4 => ?_)
      · have hf := bs_t hf c4
        refine lv_iconst (v := 2) hx hb dX3_findingOfRun_30 (by decide) ?_
        refine lv_goto (tgt := 35) hx hb dX3_findingOfRun_31 (by decide) ?_
        obtain rfl := Option.some.inj hf
        exact hret H locs _ _ hP hS rfl dX3_findingOfRun_35
      · have hf := bs_f hf c4
        refine lv_iload_n hx hb dX3_findingOfRun_18 rfl (lv_at hl 2 rfl) ?_
        refine lv_aload_n hx hb dX3_findingOfRun_19 rfl (lv_at hl 0 rfl) ?_
        refine va_get (D := (dC, dI)) (ci := 3) (v := .ref oq_lengthOf) (C := RX3) (T := TX3) (N := 3) hx hb hts hin3 hown hK hP 0 rfl rfl 2 (by decide) k20 (fun _ h9 => h9) rfl dX3_findingOfRun_20 ?_
        refine lv_iload_n hx hb dX3_findingOfRun_23 rfl (lv_at hl 1 rfl) ?_
        obtain ⟨g5, hf⟩ := bs_g hf
        refine va_iald hx hb hK hP 3 0 rfl rfl (bs_inV g5) dX3_findingOfRun_24 ?_
        refine lv_iload_n hx hb dX3_findingOfRun_25 rfl (lv_at hl 3 rfl) ?_
        refine lv_isub hx hb dX3_findingOfRun_26 ?_
        refine lv_icmp_le (tgt := 34) hx hb dX3_findingOfRun_27 (by decide) (fun c6 => ?_) (fun c6 => ?_)
        · have hf := bs_t hf c6
          refine lv_iconst (v := 0) hx hb dX3_findingOfRun_34 (by decide) ?_
          obtain rfl := Option.some.inj hf
          exact hret H locs _ _ hP hS rfl dX3_findingOfRun_35
        · have hf := bs_f hf c6
          refine lv_iconst (v := 2) hx hb dX3_findingOfRun_30 (by decide) ?_
          refine lv_goto (tgt := 35) hx hb dX3_findingOfRun_31 (by decide) ?_
          obtain rfl := Option.some.inj hf
          exact hret H locs _ _ hP hS rfl dX3_findingOfRun_35
  · have hf := bs_f hf c2
    refine lv_iconst (v := 1) hx hb dX3_findingOfRun_8 (by decide) ?_
    obtain rfl := Option.some.inj hf
    exact hret H locs _ _ hP hS rfl dX3_findingOfRun_9
set_option maxHeartbeats 4000000 in
set_option maxRecDepth 100000 in
theorem k_X3_findingOfCopy (l : Launch) (dC : Nat → ClassId) (dI : Nat → Nat → Nat) (cI cZ cS cG : ClassId) (oh : Nat) (oq_items : Nat) (og : Nat → Nat) (oq_laneOf : Nat) (oq_lengthOf : Nat) (o_items : Nat → Nat → Int32) (o_laneOf : Nat → Int32) (o_lengthOf : Nat → Int32) (p1 : Int32) (p2 : Int32) (p3 : Int32) (p4 : Int32) (p5 : Int32) (out : Int32) (hf : f_X3_findingOfCopy o_laneOf o_lengthOf p1 p2 p3 p4 p5 = some out) : bs_C l dC dI cI cZ cS cG yX3_findingOfCopy wsX3_findingOfCopy ({ frames := 2, cells := 0, slots := 0, locals := 44 } : Room) [.ref oh, .int p1, .int p2, .int p3, .int p4, .int p5] ([(oh, .inr (3, [.ref oq_items, .ref oq_laneOf, .ref oq_lengthOf])), (oq_items, .inl (cG, 8, .inr (.inr (.inr (.inr (fun j : Nat => if j < 8 then some (og j) else none)))))), (oq_laneOf, .inl (cI, 8, .inl o_laneOf)), (oq_lengthOf, .inl (cI, 8, .inl o_lengthOf))] ++ bs_rw cI og o_items) out ([(oh, .inr (3, [.ref oq_items, .ref oq_laneOf, .ref oq_lengthOf])), (oq_items, .inl (cG, 8, .inr (.inr (.inr (.inr (fun j : Nat => if j < 8 then some (og j) else none)))))), (oq_laneOf, .inl (cI, 8, .inl o_laneOf)), (oq_lengthOf, .inl (cI, 8, .inl o_lengthOf))] ++ bs_rw cI og o_items) := by
  refine bs_ofI (cc := cX3_findingOfCopy) (maxL := 7) (by decide) rfl (Nat.le_of_ble_eq_true rfl) ?_
  intro p e s m below meth c A Q hx hb hown hml hts hE H locs hP hD hA hS ls hl hret
  have hK := hE.1
  have hl : lv_has ls 7 [(0, .ref oh), (1, .int p1), (2, .int p2), (3, .int p3), (4, .int p4), (5, .int p5)] := hl
  have hin3 : ∀ w ∈ u_ws RX3 TX3 3, w ∈ wsX3_findingOfCopy := by decide +kernel
  have k16 := hts (.fieldLink RX3 16 "PromiseScales$Rows" "laneOf" "[I") (by decide +kernel)
  unfold f_X3_findingOfCopy at hf
  refine lv_aload_n hx hb dX3_findingOfCopy_0 rfl (lv_at hl 0 rfl) ?_
  refine lv_iload_n hx hb dX3_findingOfCopy_1 rfl (lv_at hl 1 rfl) ?_
  obtain ⟨z1, hz1, hf⟩ := bs_b hf
  refine bs_cViR ⟨hx, hb, hml, hown, hts⟩ (k_X3_isMissing l dC dI cI cZ cS cG oh oq_items og oq_laneOf oq_lengthOf o_items o_laneOf o_lengthOf p1 z1 hz1) (cwV 1 hts gX3_findingOfCopy_X3_isMissing rfl rfl rfl (by decide +kernel) ⟨Nat.le_of_ble_eq_true rfl, Nat.le_of_ble_eq_true rfl⟩) hE hP hD hA hS [0, 1, 2, 3, 4, 5, 6, 7, 8, 9, 10, 11] rfl rfl 3 0 rfl rfl rfl rfl hl.1 (Nat.le_of_ble_eq_true rfl) dX3_findingOfCopy_2 (fun H locs hP hS => ?_)
  refine lv_if_ne (tgt := 16) hx hb dX3_findingOfCopy_5 (by decide) (fun c2 => ?_) (fun c2 => ?_)
  · have hf := bs_f hf c2
    refine lv_iconst (v := 1) hx hb dX3_findingOfCopy_16 (by decide) ?_
    obtain rfl := Option.some.inj hf
    exact hret H locs _ _ hP hS rfl dX3_findingOfCopy_17
  · have hf := bs_t hf c2
    refine lv_aload_n hx hb dX3_findingOfCopy_8 rfl (lv_at hl 0 rfl) ?_
    refine lv_iload_n hx hb dX3_findingOfCopy_9 rfl (lv_at hl 3 rfl) ?_
    obtain ⟨z3, hz3, hf⟩ := bs_b hf
    refine bs_cViR ⟨hx, hb, hml, hown, hts⟩ (k_X3_isMissing l dC dI cI cZ cS cG oh oq_items og oq_laneOf oq_lengthOf o_items o_laneOf o_lengthOf p3 z3 hz3) (cwV 1 hts gX3_findingOfCopy_X3_isMissing rfl rfl rfl (by decide +kernel) ⟨Nat.le_of_ble_eq_true rfl, Nat.le_of_ble_eq_true rfl⟩) hE hP hD hA hS [0, 1, 2, 3, 4, 5, 6, 7, 8, 9, 10, 11] rfl rfl 3 0 rfl rfl rfl rfl hl.1 (Nat.le_of_ble_eq_true rfl) dX3_findingOfCopy_10 (fun H locs hP hS => ?_)
    refine lv_if_eq (tgt := 18) hx hb dX3_findingOfCopy_13 (by decide) (fun c4 => ?_) (fun c4 => ?_)
    · have hf := bs_t hf c4
      refine lv_aload_n hx hb dX3_findingOfCopy_18 rfl (lv_at hl 0 rfl) ?_
      refine va_get (D := (dC, dI)) (ci := 3) (v := .ref oq_laneOf) (C := RX3) (T := TX3) (N := 3) hx hb hts hin3 hown hK hP 0 rfl rfl 1 (by decide) k16 (fun _ h9 => h9) rfl dX3_findingOfCopy_19 ?_
      refine lv_iload_n hx hb dX3_findingOfCopy_22 rfl (lv_at hl 1 rfl) ?_
      obtain ⟨g5, hf⟩ := bs_g hf
      refine va_iald hx hb hK hP 2 0 rfl rfl (bs_inV g5) dX3_findingOfCopy_23 ?_
      refine lv_aload_n hx hb dX3_findingOfCopy_24 rfl (lv_at hl 0 rfl) ?_
      refine va_get (D := (dC, dI)) (ci := 3) (v := .ref oq_laneOf) (C := RX3) (T := TX3) (N := 3) hx hb hts hin3 hown hK hP 0 rfl rfl 1 (by decide) k16 (fun _ h9 => h9) rfl dX3_findingOfCopy_25 ?_
      refine lv_iload_n hx hb dX3_findingOfCopy_28 rfl (lv_at hl 3 rfl) ?_
      obtain ⟨g6, hf⟩ := bs_g hf
      refine va_iald hx hb hK hP 2 0 rfl rfl (bs_inV g6) dX3_findingOfCopy_29 ?_
      refine lv_icmp_eq (tgt := 35) hx hb dX3_findingOfCopy_30 (by decide) (fun c7 => ?_) (fun c7 => ?_)
      · have hf := bs_t hf c7
        refine lv_aload_n hx hb dX3_findingOfCopy_35 rfl (lv_at hl 0 rfl) ?_
        refine lv_iload_n hx hb dX3_findingOfCopy_36 rfl (lv_at hl 1 rfl) ?_
        refine lv_iload_n hx hb dX3_findingOfCopy_37 rfl (lv_at hl 2 rfl) ?_
        refine lv_iload hx hb dX3_findingOfCopy_38 (lv_at hl 5 rfl) ?_
        obtain ⟨z8, hz8, hf⟩ := bs_b hf
        refine bs_cViR ⟨hx, hb, hml, hown, hts⟩ (k_X3_findingOfRun l dC dI cI cZ cS cG oh oq_items og oq_laneOf oq_lengthOf o_items o_laneOf o_lengthOf p1 p2 p5 z8 hz8) (cwV 3 hts gX3_findingOfCopy_X3_findingOfRun rfl rfl rfl (by decide +kernel) ⟨Nat.le_of_ble_eq_true rfl, Nat.le_of_ble_eq_true rfl⟩) hE hP hD hA hS [0, 1, 2, 3, 4, 5, 6, 7, 8, 9, 10, 11] rfl rfl 3 0 rfl rfl rfl rfl hl.1 (Nat.le_of_ble_eq_true rfl) dX3_findingOfCopy_40 (fun H locs hP hS => ?_)
        refine lv_istore (lv' := [(6, .int z8), (0, .ref oh), (1, .int p1), (2, .int p2), (3, .int p3), (4, .int p4), (5, .int p5)]) hx hb dX3_findingOfCopy_43 hl (by decide) rfl (fun ls hl => ?_)
        refine lv_iload hx hb dX3_findingOfCopy_45 (lv_at hl 0 rfl) ?_
        refine lv_if_eq (tgt := 55) hx hb dX3_findingOfCopy_47 (by decide) (fun c9 => ?_) (fun c9 => ?_)
        · have hf := bs_t hf c9
          refine lv_aload_n hx hb dX3_findingOfCopy_55 rfl (lv_at hl 1 rfl) ?_
          refine lv_iload_n hx hb dX3_findingOfCopy_56 rfl (lv_at hl 4 rfl) ?_
          refine lv_iload hx hb dX3_findingOfCopy_57 (lv_at hl 5 rfl) ?_
          refine lv_iload hx hb dX3_findingOfCopy_59 (lv_at hl 6 rfl) ?_
          obtain ⟨z10, hz10, hf⟩ := bs_b hf
          refine bs_cViR ⟨hx, hb, hml, hown, hts⟩ (k_X3_findingOfRun l dC dI cI cZ cS cG oh oq_items og oq_laneOf oq_lengthOf o_items o_laneOf o_lengthOf p3 p4 p5 z10 hz10) (cwV 3 hts gX3_findingOfCopy_X3_findingOfRun rfl rfl rfl (by decide +kernel) ⟨Nat.le_of_ble_eq_true rfl, Nat.le_of_ble_eq_true rfl⟩) hE hP hD hA hS [0, 1, 2, 3, 4, 5, 6, 7, 8, 9, 10, 11] rfl rfl 3 0 rfl rfl rfl rfl hl.1 (Nat.le_of_ble_eq_true rfl) dX3_findingOfCopy_61 (fun H locs hP hS => ?_)
          obtain rfl := Option.some.inj hf
          exact hret H locs _ _ hP hS rfl dX3_findingOfCopy_64
        · have hf := bs_f hf c9
          refine lv_iload hx hb dX3_findingOfCopy_50 (lv_at hl 0 rfl) ?_
          refine lv_goto (tgt := 64) hx hb dX3_findingOfCopy_52 (by decide) ?_
          obtain rfl := Option.some.inj hf
          exact hret H locs _ _ hP hS rfl dX3_findingOfCopy_64
      · have hf := bs_f hf c7
        refine lv_iconst (v := 5) hx hb dX3_findingOfCopy_33 (by decide) ?_
        obtain rfl := Option.some.inj hf
        exact hret H locs _ _ hP hS rfl dX3_findingOfCopy_34
    · have hf := bs_f hf c4
      refine lv_iconst (v := 1) hx hb dX3_findingOfCopy_16 (by decide) ?_
      obtain rfl := Option.some.inj hf
      exact hret H locs _ _ hP hS rfl dX3_findingOfCopy_17
set_option maxHeartbeats 4000000 in
set_option maxRecDepth 100000 in
theorem k_X3_put (l : Launch) (dC : Nat → ClassId) (dI : Nat → Nat → Nat) (cI cZ cS cG : ClassId) (oh : Nat) (oq_items : Nat) (og : Nat → Nat) (oq_laneOf : Nat) (oq_lengthOf : Nat) (o_items : Nat → Nat → Int32) (o_laneOf : Nat → Int32) (o_lengthOf : Nat → Int32) (p1 : Int32) (p2 : Int32) (p3 : Int32) (out : Int32 × (Nat → Nat → Int32)) (hf : f_X3_put o_items o_laneOf p1 p2 p3 = some out) : bs_C l dC dI cI cZ cS cG yX3_put wsX3_put ({ frames := 0, cells := 0, slots := 0, locals := 0 } : Room) [.ref oh, .int p1, .int p2, .int p3] ([(oh, .inr (3, [.ref oq_items, .ref oq_laneOf, .ref oq_lengthOf])), (oq_items, .inl (cG, 8, .inr (.inr (.inr (.inr (fun j : Nat => if j < 8 then some (og j) else none)))))), (oq_laneOf, .inl (cI, 8, .inl o_laneOf)), (oq_lengthOf, .inl (cI, 8, .inl o_lengthOf))] ++ bs_rw cI og o_items) out.1 ([(oh, .inr (3, [.ref oq_items, .ref oq_laneOf, .ref oq_lengthOf])), (oq_items, .inl (cG, 8, .inr (.inr (.inr (.inr (fun j : Nat => if j < 8 then some (og j) else none)))))), (oq_laneOf, .inl (cI, 8, .inl o_laneOf)), (oq_lengthOf, .inl (cI, 8, .inl o_lengthOf))] ++ bs_rw cI og out.2) := by
  refine bs_ofI (cc := cX3_put) (maxL := 5) (by decide) rfl (Nat.le_of_ble_eq_true rfl) ?_
  intro p e s m below meth c A Q hx hb hown hml hts hE H locs hP hD hA hS ls hl hret
  have hK := hE.1
  have hl : lv_has ls 5 [(0, .ref oh), (1, .int p1), (2, .int p2), (3, .int p3)] := hl
  have hin3 : ∀ w ∈ u_ws RX3 TX3 3, w ∈ wsX3_put := by decide +kernel
  have k13 := hts (.fieldLink RX3 13 "PromiseScales$Rows" "items" "[[I") (by decide +kernel)
  have k16 := hts (.fieldLink RX3 16 "PromiseScales$Rows" "laneOf" "[I") (by decide +kernel)
  unfold f_X3_put at hf
  refine lv_iload_n hx hb dX3_put_0 rfl (lv_at hl 3 rfl) ?_
  refine lv_istore (lv' := [(4, .int p3), (0, .ref oh), (1, .int p1), (2, .int p2), (3, .int p3)]) hx hb dX3_put_1 hl (by decide) rfl (fun ls hl => ?_)
  refine lv_aload_n hx hb dX3_put_3 rfl (lv_at hl 1 rfl) ?_
  refine va_get (D := (dC, dI)) (ci := 3) (v := .ref oq_laneOf) (C := RX3) (T := TX3) (N := 3) hx hb hts hin3 hown hK hP 0 rfl rfl 1 (by decide) k16 (fun _ h9 => h9) rfl dX3_put_4 ?_
  refine lv_iload_n hx hb dX3_put_7 rfl (lv_at hl 2 rfl) ?_
  obtain ⟨g1, hf⟩ := bs_g hf
  refine va_iald hx hb hK hP 2 0 rfl rfl (bs_inV g1) dX3_put_8 ?_
  refine lv_if_ne (tgt := 19) hx hb dX3_put_9 (by decide) (fun c2 => ?_) (fun c2 => ?_)
  · have hf := bs_f hf c2
    refine lv_aload_n hx hb dX3_put_19 rfl (lv_at hl 1 rfl) ?_
    refine va_get (D := (dC, dI)) (ci := 3) (v := .ref oq_laneOf) (C := RX3) (T := TX3) (N := 3) hx hb hts hin3 hown hK hP 0 rfl rfl 1 (by decide) k16 (fun _ h9 => h9) rfl dX3_put_20 ?_
    refine lv_iload_n hx hb dX3_put_23 rfl (lv_at hl 2 rfl) ?_
    obtain ⟨g3, hf⟩ := bs_g hf
    refine va_iald hx hb hK hP 2 0 rfl rfl (bs_inV g3) dX3_put_24 ?_
    refine lv_iconst (v := 1) hx hb dX3_put_25 (by decide) ?_
    refine lv_icmp_ne (tgt := 33) hx hb dX3_put_26 (by decide) (fun c4 => ?_) (fun c4 => ?_)
    · have hf := bs_f hf c4
      refine lv_aload_n hx hb dX3_put_33 rfl (lv_at hl 1 rfl) ?_
      refine va_get (D := (dC, dI)) (ci := 3) (v := .ref oq_items) (C := RX3) (T := TX3) (N := 3) hx hb hts hin3 hown hK hP 0 rfl rfl 0 (by decide) k13 (fun _ h9 => h9) rfl dX3_put_34 ?_
      refine lv_iload_n hx hb dX3_put_37 rfl (lv_at hl 2 rfl) ?_
      obtain ⟨g5, hf⟩ := bs_g hf
      refine bs_aldg hx hb hK hP 1 3 rfl rfl (bs_inV g5) dX3_put_38 ?_
      refine bs_topq (a := og p1.toNatClampNeg) (bs_row (bs_inL g5)) ?_
      refine lv_iload_n hx hb dX3_put_39 rfl (lv_at hl 3 rfl) ?_
      refine lv_iload hx hb dX3_put_40 (lv_at hl 0 rfl) ?_
      obtain ⟨g6, hf⟩ := bs_g hf
      refine va_iast hx hb hK hP hD hS (4 + p1.toNatClampNeg) 0 (bs_rw_at rfl (bs_inL g5)) rfl (bs_inV g6) dX3_put_42 (fun H locs hP hD hS => ?_)
      rw [bs_rw_set (n := 4) rfl (bs_inL g5)] at hP hD
      have hP : va_P (dC, dI) vwCl ([(oh, .inr (3, [.ref oq_items, .ref oq_laneOf, .ref oq_lengthOf])), (oq_items, .inl (cG, 8, .inr (.inr (.inr (.inr (fun j : Nat => if j < 8 then some (og j) else none)))))), (oq_laneOf, .inl (cI, 8, .inl o_laneOf)), (oq_lengthOf, .inl (cI, 8, .inl o_lengthOf))] ++ bs_rw cI og (bs_up2 o_items p1.toNatClampNeg (upd (o_items p1.toNatClampNeg) p2.toNatClampNeg p3))) H := hP
      have hD : va_D A ([(oh, .inr (3, [.ref oq_items, .ref oq_laneOf, .ref oq_lengthOf])), (oq_items, .inl (cG, 8, .inr (.inr (.inr (.inr (fun j : Nat => if j < 8 then some (og j) else none)))))), (oq_laneOf, .inl (cI, 8, .inl o_laneOf)), (oq_lengthOf, .inl (cI, 8, .inl o_lengthOf))] ++ bs_rw cI og (bs_up2 o_items p1.toNatClampNeg (upd (o_items p1.toNatClampNeg) p2.toNatClampNeg p3))) := hD
      refine lv_iload hx hb dX3_put_43 (lv_at hl 0 rfl) ?_
      obtain rfl := Option.some.inj hf
      exact hret H locs _ _ hP hS rfl dX3_put_45
    · have hf := bs_t hf c4
      refine lv_iload_n hx hb dX3_put_29 rfl (lv_at hl 4 rfl) ?_
      refine lv_i2s (v := p3.toInt16.toInt32) hx hb dX3_put_30 rfl ?_
      refine lv_istore (lv' := [(4, .int p3.toInt16.toInt32), (0, .ref oh), (1, .int p1), (2, .int p2), (3, .int p3)]) hx hb dX3_put_31 hl (by decide) rfl (fun ls hl => ?_)
      refine lv_aload_n hx hb dX3_put_33 rfl (lv_at hl 1 rfl) ?_
      refine va_get (D := (dC, dI)) (ci := 3) (v := .ref oq_items) (C := RX3) (T := TX3) (N := 3) hx hb hts hin3 hown hK hP 0 rfl rfl 0 (by decide) k13 (fun _ h9 => h9) rfl dX3_put_34 ?_
      refine lv_iload_n hx hb dX3_put_37 rfl (lv_at hl 2 rfl) ?_
      obtain ⟨g7, hf⟩ := bs_g hf
      refine bs_aldg hx hb hK hP 1 3 rfl rfl (bs_inV g7) dX3_put_38 ?_
      refine bs_topq (a := og p1.toNatClampNeg) (bs_row (bs_inL g7)) ?_
      refine lv_iload_n hx hb dX3_put_39 rfl (lv_at hl 3 rfl) ?_
      refine lv_iload hx hb dX3_put_40 (lv_at hl 0 rfl) ?_
      obtain ⟨g8, hf⟩ := bs_g hf
      refine va_iast hx hb hK hP hD hS (4 + p1.toNatClampNeg) 0 (bs_rw_at rfl (bs_inL g7)) rfl (bs_inV g8) dX3_put_42 (fun H locs hP hD hS => ?_)
      rw [bs_rw_set (n := 4) rfl (bs_inL g7)] at hP hD
      have hP : va_P (dC, dI) vwCl ([(oh, .inr (3, [.ref oq_items, .ref oq_laneOf, .ref oq_lengthOf])), (oq_items, .inl (cG, 8, .inr (.inr (.inr (.inr (fun j : Nat => if j < 8 then some (og j) else none)))))), (oq_laneOf, .inl (cI, 8, .inl o_laneOf)), (oq_lengthOf, .inl (cI, 8, .inl o_lengthOf))] ++ bs_rw cI og (bs_up2 o_items p1.toNatClampNeg (upd (o_items p1.toNatClampNeg) p2.toNatClampNeg p3.toInt16.toInt32))) H := hP
      have hD : va_D A ([(oh, .inr (3, [.ref oq_items, .ref oq_laneOf, .ref oq_lengthOf])), (oq_items, .inl (cG, 8, .inr (.inr (.inr (.inr (fun j : Nat => if j < 8 then some (og j) else none)))))), (oq_laneOf, .inl (cI, 8, .inl o_laneOf)), (oq_lengthOf, .inl (cI, 8, .inl o_lengthOf))] ++ bs_rw cI og (bs_up2 o_items p1.toNatClampNeg (upd (o_items p1.toNatClampNeg) p2.toNatClampNeg p3.toInt16.toInt32))) := hD
      refine lv_iload hx hb dX3_put_43 (lv_at hl 0 rfl) ?_
      obtain rfl := Option.some.inj hf
      exact hret H locs _ _ hP hS rfl dX3_put_45
  · have hf := bs_t hf c2
    refine lv_iload_n hx hb dX3_put_12 rfl (lv_at hl 4 rfl) ?_
    refine lv_i2b (v := p3.toInt8.toInt32) hx hb dX3_put_13 rfl ?_
    refine lv_istore (lv' := [(4, .int p3.toInt8.toInt32), (0, .ref oh), (1, .int p1), (2, .int p2), (3, .int p3)]) hx hb dX3_put_14 hl (by decide) rfl (fun ls hl => ?_)
    refine lv_goto (tgt := 33) hx hb dX3_put_16 (by decide) ?_
    refine lv_aload_n hx hb dX3_put_33 rfl (lv_at hl 1 rfl) ?_
    refine va_get (D := (dC, dI)) (ci := 3) (v := .ref oq_items) (C := RX3) (T := TX3) (N := 3) hx hb hts hin3 hown hK hP 0 rfl rfl 0 (by decide) k13 (fun _ h9 => h9) rfl dX3_put_34 ?_
    refine lv_iload_n hx hb dX3_put_37 rfl (lv_at hl 2 rfl) ?_
    obtain ⟨g9, hf⟩ := bs_g hf
    refine bs_aldg hx hb hK hP 1 3 rfl rfl (bs_inV g9) dX3_put_38 ?_
    refine bs_topq (a := og p1.toNatClampNeg) (bs_row (bs_inL g9)) ?_
    refine lv_iload_n hx hb dX3_put_39 rfl (lv_at hl 3 rfl) ?_
    refine lv_iload hx hb dX3_put_40 (lv_at hl 0 rfl) ?_
    obtain ⟨g10, hf⟩ := bs_g hf
    refine va_iast hx hb hK hP hD hS (4 + p1.toNatClampNeg) 0 (bs_rw_at rfl (bs_inL g9)) rfl (bs_inV g10) dX3_put_42 (fun H locs hP hD hS => ?_)
    rw [bs_rw_set (n := 4) rfl (bs_inL g9)] at hP hD
    have hP : va_P (dC, dI) vwCl ([(oh, .inr (3, [.ref oq_items, .ref oq_laneOf, .ref oq_lengthOf])), (oq_items, .inl (cG, 8, .inr (.inr (.inr (.inr (fun j : Nat => if j < 8 then some (og j) else none)))))), (oq_laneOf, .inl (cI, 8, .inl o_laneOf)), (oq_lengthOf, .inl (cI, 8, .inl o_lengthOf))] ++ bs_rw cI og (bs_up2 o_items p1.toNatClampNeg (upd (o_items p1.toNatClampNeg) p2.toNatClampNeg p3.toInt8.toInt32))) H := hP
    have hD : va_D A ([(oh, .inr (3, [.ref oq_items, .ref oq_laneOf, .ref oq_lengthOf])), (oq_items, .inl (cG, 8, .inr (.inr (.inr (.inr (fun j : Nat => if j < 8 then some (og j) else none)))))), (oq_laneOf, .inl (cI, 8, .inl o_laneOf)), (oq_lengthOf, .inl (cI, 8, .inl o_lengthOf))] ++ bs_rw cI og (bs_up2 o_items p1.toNatClampNeg (upd (o_items p1.toNatClampNeg) p2.toNatClampNeg p3.toInt8.toInt32))) := hD
    refine lv_iload hx hb dX3_put_43 (lv_at hl 0 rfl) ?_
    obtain rfl := Option.some.inj hf
    exact hret H locs _ _ hP hS rfl dX3_put_45
set_option maxHeartbeats 4000000 in
set_option maxRecDepth 100000 in
theorem k_X3_move (l : Launch) (dC : Nat → ClassId) (dI : Nat → Nat → Nat) (cI cZ cS cG : ClassId) (oh : Nat) (oq_items : Nat) (og : Nat → Nat) (oq_laneOf : Nat) (oq_lengthOf : Nat) (o_items : Nat → Nat → Int32) (o_laneOf : Nat → Int32) (o_lengthOf : Nat → Int32) (p1 : Int32) (p2 : Int32) (p3 : Int32) (p4 : Int32) (p5 : Int32) (out : (Nat → Nat → Int32)) (hf : f_X3_move o_items p1 p2 p3 p4 p5 = some out) : bs_CV l dC dI cI cZ cS cG yX3_move wsX3_move ({ frames := 1, cells := 0, slots := 0, locals := 30 } : Room) [.ref oh, .int p1, .int p2, .int p3, .int p4, .int p5] ([(oh, .inr (3, [.ref oq_items, .ref oq_laneOf, .ref oq_lengthOf])), (oq_items, .inl (cG, 8, .inr (.inr (.inr (.inr (fun j : Nat => if j < 8 then some (og j) else none)))))), (oq_laneOf, .inl (cI, 8, .inl o_laneOf)), (oq_lengthOf, .inl (cI, 8, .inl o_lengthOf))] ++ bs_rw cI og o_items) ([(oh, .inr (3, [.ref oq_items, .ref oq_laneOf, .ref oq_lengthOf])), (oq_items, .inl (cG, 8, .inr (.inr (.inr (.inr (fun j : Nat => if j < 8 then some (og j) else none)))))), (oq_laneOf, .inl (cI, 8, .inl o_laneOf)), (oq_lengthOf, .inl (cI, 8, .inl o_lengthOf))] ++ bs_rw cI og out) := by
  refine bs_ofV (cc := cX3_move) (maxL := 6) (by decide) rfl (Nat.le_of_ble_eq_true rfl) ?_
  intro p e s m below meth c A Q hx hb hown hml hts hE H locs hP hD hA hS ls hl hret
  have hK := hE.1
  have hl : lv_has ls 6 [(0, .ref oh), (1, .int p1), (2, .int p2), (3, .int p3), (4, .int p4), (5, .int p5)] := hl
  have hin3 : ∀ w ∈ u_ws RX3 TX3 3, w ∈ wsX3_move := by decide +kernel
  have k13 := hts (.fieldLink RX3 13 "PromiseScales$Rows" "items" "[[I") (by decide +kernel)
  unfold f_X3_move at hf
  refine lv_aload_n hx hb dX3_move_0 rfl (lv_at hl 0 rfl) ?_
  refine va_get (D := (dC, dI)) (ci := 3) (v := .ref oq_items) (C := RX3) (T := TX3) (N := 3) hx hb hts hin3 hown hK hP 0 rfl rfl 0 (by decide) k13 (fun _ h9 => h9) rfl dX3_move_1 ?_
  refine lv_iload_n hx hb dX3_move_4 rfl (lv_at hl 1 rfl) ?_
  obtain ⟨g1, hf⟩ := bs_g hf
  refine bs_aldg hx hb hK hP 1 3 rfl rfl (bs_inV g1) dX3_move_5 ?_
  refine bs_topq (a := og p1.toNatClampNeg) (bs_row (bs_inL g1)) ?_
  refine lv_iload_n hx hb dX3_move_6 rfl (lv_at hl 2 rfl) ?_
  refine lv_aload_n hx hb dX3_move_7 rfl (lv_at hl 0 rfl) ?_
  refine va_get (D := (dC, dI)) (ci := 3) (v := .ref oq_items) (C := RX3) (T := TX3) (N := 3) hx hb hts hin3 hown hK hP 0 rfl rfl 0 (by decide) k13 (fun _ h9 => h9) rfl dX3_move_8 ?_
  refine lv_iload_n hx hb dX3_move_11 rfl (lv_at hl 3 rfl) ?_
  obtain ⟨g2, hf⟩ := bs_g hf
  refine bs_aldg hx hb hK hP 1 3 rfl rfl (bs_inV g2) dX3_move_12 ?_
  refine bs_topq (a := og p3.toNatClampNeg) (bs_row (bs_inL g2)) ?_
  refine lv_iload hx hb dX3_move_13 (lv_at hl 4 rfl) ?_
  refine lv_iload hx hb dX3_move_15 (lv_at hl 5 rfl) ?_
  obtain ⟨g3, hf⟩ := bs_g hf
  obtain ⟨g4, hf⟩ := bs_g hf
  obtain ⟨g5, hf⟩ := bs_g hf
  obtain ⟨g6, hf⟩ := bs_g hf
  obtain ⟨g7, hf⟩ := bs_g hf
  refine va_copyi hx hb (hml.trans hl.1.symm) hown (hts (.methodLink RX3 31 arraycopyName) (by decide +kernel)) (hts (.native arraycopyName) (by decide +kernel)) (hts (.static arraycopyName) (by decide +kernel)) (hts (.initialized "java/lang/System") (by decide +kernel)) hK hP hD hS (4 + p1.toNatClampNeg) (4 + p3.toNatClampNeg) 0 0 (ty := .int) (bs_rw_at rfl (bs_inL g1)) (bs_rw_at rfl (bs_inL g2)) rfl rfl rfl g3 g4 g5 g6 g7 (fun _ _ => rfl) (Nat.le_of_ble_eq_true rfl) (Nat.le_of_ble_eq_true (by decide +kernel)) dX3_move_17 (fun H locs hP hD hS => ?_)
  rw [bs_rw_set (n := 4) rfl (bs_inL g2)] at hP hD
  have hP : va_P (dC, dI) vwCl ([(oh, .inr (3, [.ref oq_items, .ref oq_laneOf, .ref oq_lengthOf])), (oq_items, .inl (cG, 8, .inr (.inr (.inr (.inr (fun j : Nat => if j < 8 then some (og j) else none)))))), (oq_laneOf, .inl (cI, 8, .inl o_laneOf)), (oq_lengthOf, .inl (cI, 8, .inl o_lengthOf))] ++ bs_rw cI og (bs_up2 o_items p3.toNatClampNeg (va_cpy (o_items p1.toNatClampNeg) (o_items p3.toNatClampNeg) p2.toNatClampNeg p4.toNatClampNeg p5.toNatClampNeg))) H := hP
  have hD : va_D A ([(oh, .inr (3, [.ref oq_items, .ref oq_laneOf, .ref oq_lengthOf])), (oq_items, .inl (cG, 8, .inr (.inr (.inr (.inr (fun j : Nat => if j < 8 then some (og j) else none)))))), (oq_laneOf, .inl (cI, 8, .inl o_laneOf)), (oq_lengthOf, .inl (cI, 8, .inl o_lengthOf))] ++ bs_rw cI og (bs_up2 o_items p3.toNatClampNeg (va_cpy (o_items p1.toNatClampNeg) (o_items p3.toNatClampNeg) p2.toNatClampNeg p4.toNatClampNeg p5.toNatClampNeg))) := hD
  obtain rfl := Option.some.inj hf
  exact hret H locs _ _ hP hS dX3_move_20
set_option maxHeartbeats 4000000 in
set_option maxRecDepth 100000 in
theorem k_X4_clear (l : Launch) (dC : Nat → ClassId) (dI : Nat → Nat → Nat) (cI cZ cS cG : ClassId) (oh : Nat) (oq_keeping : Nat) (oq_giverOf : Nat) (oq_deedOf : Nat) (oq_dayOf : Nat) (oq_likelyOf : Nat) (oq_kindOf : Nat) (oq_settledOf : Nat) (o_told : Int32) (o_wax : Int32) (o_stick : Int32) (o_givers : Int32) (o_promises : Int32) (o_pan : Int32) (o_keeping : Nat → Int32) (o_giverOf : Nat → Int32) (o_deedOf : Nat → Int32) (o_dayOf : Nat → Int32) (o_likelyOf : Nat → Int32) (o_kindOf : Nat → Int32) (o_settledOf : Nat → Int32) (out : Int32 × Int32 × Int32 × Int32 × (Nat → Int32)) (hf : f_X4_clear o_told o_givers o_promises o_pan o_settledOf = some out) : bs_CV l dC dI cI cZ cS cG yX4_clear wsX4_clear ({ frames := 0, cells := 0, slots := 0, locals := 0 } : Room) [.ref oh] ([(oh, .inr (4, [.int o_told, .int o_wax, .int o_stick, .int o_givers, .int o_promises, .int o_pan, .ref oq_keeping, .ref oq_giverOf, .ref oq_deedOf, .ref oq_dayOf, .ref oq_likelyOf, .ref oq_kindOf, .ref oq_settledOf])), (oq_keeping, .inl (cI, 4, .inl o_keeping)), (oq_giverOf, .inl (cI, 8, .inl o_giverOf)), (oq_deedOf, .inl (cI, 8, .inl o_deedOf)), (oq_dayOf, .inl (cI, 8, .inl o_dayOf)), (oq_likelyOf, .inl (cI, 8, .inl o_likelyOf)), (oq_kindOf, .inl (cI, 8, .inl o_kindOf)), (oq_settledOf, .inl (cI, 8, .inl o_settledOf))]) ([(oh, .inr (4, [.int out.1, .int o_wax, .int o_stick, .int out.2.1, .int out.2.2.1, .int out.2.2.2.1, .ref oq_keeping, .ref oq_giverOf, .ref oq_deedOf, .ref oq_dayOf, .ref oq_likelyOf, .ref oq_kindOf, .ref oq_settledOf])), (oq_keeping, .inl (cI, 4, .inl o_keeping)), (oq_giverOf, .inl (cI, 8, .inl o_giverOf)), (oq_deedOf, .inl (cI, 8, .inl o_deedOf)), (oq_dayOf, .inl (cI, 8, .inl o_dayOf)), (oq_likelyOf, .inl (cI, 8, .inl o_likelyOf)), (oq_kindOf, .inl (cI, 8, .inl o_kindOf)), (oq_settledOf, .inl (cI, 8, .inl out.2.2.2.2))]) := by
  refine bs_ofV (cc := cX4_clear) (maxL := 2) (by decide) rfl (Nat.le_of_ble_eq_true rfl) ?_
  intro p e s m below meth c A Q hx hb hown hml hts hE H locs hP hD hA hS ls hl hret
  have hK := hE.1
  have hl : lv_has ls 2 [(0, .ref oh)] := hl
  have hin4 : ∀ w ∈ u_ws RX4 TX4 13, w ∈ wsX4_clear := by decide +kernel
  have k30 := hts (.fieldLink RX4 30 "PromiseScales$Scales" "settledOf" "[I") (by decide +kernel)
  have k33 := hts (.fieldLink RX4 33 "PromiseScales$Scales" "told" "Z") (by decide +kernel)
  have k37 := hts (.fieldLink RX4 37 "PromiseScales$Scales" "givers" "I") (by decide +kernel)
  have k41 := hts (.fieldLink RX4 41 "PromiseScales$Scales" "promises" "I") (by decide +kernel)
  have k44 := hts (.fieldLink RX4 44 "PromiseScales$Scales" "pan" "I") (by decide +kernel)
  unfold f_X4_clear at hf
  refine lv_aload_n hx hb dX4_clear_0 rfl (lv_at hl 0 rfl) ?_
  refine lv_iconst (v := 1) hx hb dX4_clear_1 (by decide) ?_
  refine va_put (D := (dC, dI)) (ci := 4) (v := .int 1) (ty := .boolean) (C := RX4) (T := TX4) (N := 13) hx hb hts hin4 tyX4 tyX4_ok nmX4 hown hK hP hD hS 0 rfl rfl 0 (by decide) k33 (fun _ h9 => h9) rfl (by decide +kernel) (by decide +kernel) (by decide +kernel) (Nat.le_of_ble_eq_true rfl) dX4_clear_2 (fun H locs hP hD hS => ?_)
  have hP : va_P (dC, dI) vwCl ([(oh, .inr (4, [.int 1, .int o_wax, .int o_stick, .int o_givers, .int o_promises, .int o_pan, .ref oq_keeping, .ref oq_giverOf, .ref oq_deedOf, .ref oq_dayOf, .ref oq_likelyOf, .ref oq_kindOf, .ref oq_settledOf])), (oq_keeping, .inl (cI, 4, .inl o_keeping)), (oq_giverOf, .inl (cI, 8, .inl o_giverOf)), (oq_deedOf, .inl (cI, 8, .inl o_deedOf)), (oq_dayOf, .inl (cI, 8, .inl o_dayOf)), (oq_likelyOf, .inl (cI, 8, .inl o_likelyOf)), (oq_kindOf, .inl (cI, 8, .inl o_kindOf)), (oq_settledOf, .inl (cI, 8, .inl o_settledOf))]) H := hP
  have hD : va_D A ([(oh, .inr (4, [.int 1, .int o_wax, .int o_stick, .int o_givers, .int o_promises, .int o_pan, .ref oq_keeping, .ref oq_giverOf, .ref oq_deedOf, .ref oq_dayOf, .ref oq_likelyOf, .ref oq_kindOf, .ref oq_settledOf])), (oq_keeping, .inl (cI, 4, .inl o_keeping)), (oq_giverOf, .inl (cI, 8, .inl o_giverOf)), (oq_deedOf, .inl (cI, 8, .inl o_deedOf)), (oq_dayOf, .inl (cI, 8, .inl o_dayOf)), (oq_likelyOf, .inl (cI, 8, .inl o_likelyOf)), (oq_kindOf, .inl (cI, 8, .inl o_kindOf)), (oq_settledOf, .inl (cI, 8, .inl o_settledOf))]) := hD
  refine lv_aload_n hx hb dX4_clear_5 rfl (lv_at hl 0 rfl) ?_
  refine lv_iconst (v := 0) hx hb dX4_clear_6 (by decide) ?_
  refine va_put (D := (dC, dI)) (ci := 4) (v := .int 0) (ty := .int) (C := RX4) (T := TX4) (N := 13) hx hb hts hin4 tyX4 tyX4_ok nmX4 hown hK hP hD hS 0 rfl rfl 3 (by decide) k37 (fun _ h9 => h9) rfl (by decide +kernel) rfl rfl (Nat.le_of_ble_eq_true rfl) dX4_clear_7 (fun H locs hP hD hS => ?_)
  have hP : va_P (dC, dI) vwCl ([(oh, .inr (4, [.int 1, .int o_wax, .int o_stick, .int 0, .int o_promises, .int o_pan, .ref oq_keeping, .ref oq_giverOf, .ref oq_deedOf, .ref oq_dayOf, .ref oq_likelyOf, .ref oq_kindOf, .ref oq_settledOf])), (oq_keeping, .inl (cI, 4, .inl o_keeping)), (oq_giverOf, .inl (cI, 8, .inl o_giverOf)), (oq_deedOf, .inl (cI, 8, .inl o_deedOf)), (oq_dayOf, .inl (cI, 8, .inl o_dayOf)), (oq_likelyOf, .inl (cI, 8, .inl o_likelyOf)), (oq_kindOf, .inl (cI, 8, .inl o_kindOf)), (oq_settledOf, .inl (cI, 8, .inl o_settledOf))]) H := hP
  have hD : va_D A ([(oh, .inr (4, [.int 1, .int o_wax, .int o_stick, .int 0, .int o_promises, .int o_pan, .ref oq_keeping, .ref oq_giverOf, .ref oq_deedOf, .ref oq_dayOf, .ref oq_likelyOf, .ref oq_kindOf, .ref oq_settledOf])), (oq_keeping, .inl (cI, 4, .inl o_keeping)), (oq_giverOf, .inl (cI, 8, .inl o_giverOf)), (oq_deedOf, .inl (cI, 8, .inl o_deedOf)), (oq_dayOf, .inl (cI, 8, .inl o_dayOf)), (oq_likelyOf, .inl (cI, 8, .inl o_likelyOf)), (oq_kindOf, .inl (cI, 8, .inl o_kindOf)), (oq_settledOf, .inl (cI, 8, .inl o_settledOf))]) := hD
  refine lv_aload_n hx hb dX4_clear_10 rfl (lv_at hl 0 rfl) ?_
  refine lv_iconst (v := 0) hx hb dX4_clear_11 (by decide) ?_
  refine va_put (D := (dC, dI)) (ci := 4) (v := .int 0) (ty := .int) (C := RX4) (T := TX4) (N := 13) hx hb hts hin4 tyX4 tyX4_ok nmX4 hown hK hP hD hS 0 rfl rfl 4 (by decide) k41 (fun _ h9 => h9) rfl (by decide +kernel) rfl rfl (Nat.le_of_ble_eq_true rfl) dX4_clear_12 (fun H locs hP hD hS => ?_)
  have hP : va_P (dC, dI) vwCl ([(oh, .inr (4, [.int 1, .int o_wax, .int o_stick, .int 0, .int 0, .int o_pan, .ref oq_keeping, .ref oq_giverOf, .ref oq_deedOf, .ref oq_dayOf, .ref oq_likelyOf, .ref oq_kindOf, .ref oq_settledOf])), (oq_keeping, .inl (cI, 4, .inl o_keeping)), (oq_giverOf, .inl (cI, 8, .inl o_giverOf)), (oq_deedOf, .inl (cI, 8, .inl o_deedOf)), (oq_dayOf, .inl (cI, 8, .inl o_dayOf)), (oq_likelyOf, .inl (cI, 8, .inl o_likelyOf)), (oq_kindOf, .inl (cI, 8, .inl o_kindOf)), (oq_settledOf, .inl (cI, 8, .inl o_settledOf))]) H := hP
  have hD : va_D A ([(oh, .inr (4, [.int 1, .int o_wax, .int o_stick, .int 0, .int 0, .int o_pan, .ref oq_keeping, .ref oq_giverOf, .ref oq_deedOf, .ref oq_dayOf, .ref oq_likelyOf, .ref oq_kindOf, .ref oq_settledOf])), (oq_keeping, .inl (cI, 4, .inl o_keeping)), (oq_giverOf, .inl (cI, 8, .inl o_giverOf)), (oq_deedOf, .inl (cI, 8, .inl o_deedOf)), (oq_dayOf, .inl (cI, 8, .inl o_dayOf)), (oq_likelyOf, .inl (cI, 8, .inl o_likelyOf)), (oq_kindOf, .inl (cI, 8, .inl o_kindOf)), (oq_settledOf, .inl (cI, 8, .inl o_settledOf))]) := hD
  refine lv_aload_n hx hb dX4_clear_15 rfl (lv_at hl 0 rfl) ?_
  refine lv_iconst (v := 0) hx hb dX4_clear_16 (by decide) ?_
  refine va_put (D := (dC, dI)) (ci := 4) (v := .int 0) (ty := .int) (C := RX4) (T := TX4) (N := 13) hx hb hts hin4 tyX4 tyX4_ok nmX4 hown hK hP hD hS 0 rfl rfl 5 (by decide) k44 (fun _ h9 => h9) rfl (by decide +kernel) rfl rfl (Nat.le_of_ble_eq_true rfl) dX4_clear_17 (fun H locs hP hD hS => ?_)
  have hP : va_P (dC, dI) vwCl ([(oh, .inr (4, [.int 1, .int o_wax, .int o_stick, .int 0, .int 0, .int 0, .ref oq_keeping, .ref oq_giverOf, .ref oq_deedOf, .ref oq_dayOf, .ref oq_likelyOf, .ref oq_kindOf, .ref oq_settledOf])), (oq_keeping, .inl (cI, 4, .inl o_keeping)), (oq_giverOf, .inl (cI, 8, .inl o_giverOf)), (oq_deedOf, .inl (cI, 8, .inl o_deedOf)), (oq_dayOf, .inl (cI, 8, .inl o_dayOf)), (oq_likelyOf, .inl (cI, 8, .inl o_likelyOf)), (oq_kindOf, .inl (cI, 8, .inl o_kindOf)), (oq_settledOf, .inl (cI, 8, .inl o_settledOf))]) H := hP
  have hD : va_D A ([(oh, .inr (4, [.int 1, .int o_wax, .int o_stick, .int 0, .int 0, .int 0, .ref oq_keeping, .ref oq_giverOf, .ref oq_deedOf, .ref oq_dayOf, .ref oq_likelyOf, .ref oq_kindOf, .ref oq_settledOf])), (oq_keeping, .inl (cI, 4, .inl o_keeping)), (oq_giverOf, .inl (cI, 8, .inl o_giverOf)), (oq_deedOf, .inl (cI, 8, .inl o_deedOf)), (oq_dayOf, .inl (cI, 8, .inl o_dayOf)), (oq_likelyOf, .inl (cI, 8, .inl o_likelyOf)), (oq_kindOf, .inl (cI, 8, .inl o_kindOf)), (oq_settledOf, .inl (cI, 8, .inl o_settledOf))]) := hD
  refine lv_iconst (v := 0) hx hb dX4_clear_20 (by decide) ?_
  refine lv_istore_n (lv' := [(1, .int 0), (0, .ref oh)]) hx hb dX4_clear_21 rfl hl (by decide) rfl (fun ls hl => ?_)
  have L_22 : ∀ (fuel : Nat) (o_settledOf_22 : Nat → Int32) (x1_22 : Int32) (H : Heap) (locs : List Loc) (ls : Array Slot), va_P (dC, dI) vwCl ([(oh, .inr (4, [.int 1, .int o_wax, .int o_stick, .int 0, .int 0, .int 0, .ref oq_keeping, .ref oq_giverOf, .ref oq_deedOf, .ref oq_dayOf, .ref oq_likelyOf, .ref oq_kindOf, .ref oq_settledOf])), (oq_keeping, .inl (cI, 4, .inl o_keeping)), (oq_giverOf, .inl (cI, 8, .inl o_giverOf)), (oq_deedOf, .inl (cI, 8, .inl o_deedOf)), (oq_dayOf, .inl (cI, 8, .inl o_dayOf)), (oq_likelyOf, .inl (cI, 8, .inl o_likelyOf)), (oq_kindOf, .inl (cI, 8, .inl o_kindOf)), (oq_settledOf, .inl (cI, 8, .inl o_settledOf_22))]) H → va_D A ([(oh, .inr (4, [.int 1, .int o_wax, .int o_stick, .int 0, .int 0, .int 0, .ref oq_keeping, .ref oq_giverOf, .ref oq_deedOf, .ref oq_dayOf, .ref oq_likelyOf, .ref oq_kindOf, .ref oq_settledOf])), (oq_keeping, .inl (cI, 4, .inl o_keeping)), (oq_giverOf, .inl (cI, 8, .inl o_giverOf)), (oq_deedOf, .inl (cI, 8, .inl o_deedOf)), (oq_dayOf, .inl (cI, 8, .inl o_dayOf)), (oq_likelyOf, .inl (cI, 8, .inl o_likelyOf)), (oq_kindOf, .inl (cI, 8, .inl o_kindOf)), (oq_settledOf, .inl (cI, 8, .inl o_settledOf_22))]) → va_S A s.heap H locs → lv_has ls 2 [(0, .ref oh), (1, .int x1_22)] → f_X4_clear_L22 1 0 0 0 fuel o_settledOf_22 x1_22 = some out → W p l e ({ frames := 0, cells := 0, slots := 0, locals := 0 } : Room) s m ([.ref oh] : List Value).toArray below meth c H locs 0 0 Q (F0 m 22 ls []) := by
    intro fuel
    induction fuel with
    | zero =>
      intro o_settledOf_22 x1_22 H locs ls hP hD hS hl hf
      cases (show (none : Option (Int32 × Int32 × Int32 × Int32 × (Nat → Int32))) = some out from hf)
    | succ n_22 ih_22 =>
      intro o_settledOf_22 x1_22 H locs ls hP hD hS hl hf
      have hf := (f_X4_clear_L22_s 1 0 0 0 n_22 o_settledOf_22 x1_22).symm.trans hf
      refine lv_iload_n hx hb dX4_clear_22 rfl (lv_at hl 1 rfl) ?_
      refine lv_bipush (v := 8) hx hb dX4_clear_23 (by decide) ?_
      refine lv_icmp_ge (tgt := 41) hx hb dX4_clear_25 (by decide) (fun c1 => ?_) (fun c1 => ?_)
      · have hf := bs_t hf c1
        obtain rfl := Option.some.inj hf
        exact hret H locs _ _ hP hS dX4_clear_41
      · have hf := bs_f hf c1
        refine lv_aload_n hx hb dX4_clear_28 rfl (lv_at hl 0 rfl) ?_
        refine va_get (D := (dC, dI)) (ci := 4) (v := .ref oq_settledOf) (C := RX4) (T := TX4) (N := 13) hx hb hts hin4 hown hK hP 0 rfl rfl 12 (by decide) k30 (fun _ h9 => h9) rfl dX4_clear_29 ?_
        refine lv_iload_n hx hb dX4_clear_32 rfl (lv_at hl 1 rfl) ?_
        refine lv_iconst (v := 0) hx hb dX4_clear_33 (by decide) ?_
        obtain ⟨g2, hf⟩ := bs_g hf
        refine va_iast hx hb hK hP hD hS 7 0 rfl rfl (bs_inV g2) dX4_clear_34 (fun H locs hP hD hS => ?_)
        have hP : va_P (dC, dI) vwCl ([(oh, .inr (4, [.int 1, .int o_wax, .int o_stick, .int 0, .int 0, .int 0, .ref oq_keeping, .ref oq_giverOf, .ref oq_deedOf, .ref oq_dayOf, .ref oq_likelyOf, .ref oq_kindOf, .ref oq_settledOf])), (oq_keeping, .inl (cI, 4, .inl o_keeping)), (oq_giverOf, .inl (cI, 8, .inl o_giverOf)), (oq_deedOf, .inl (cI, 8, .inl o_deedOf)), (oq_dayOf, .inl (cI, 8, .inl o_dayOf)), (oq_likelyOf, .inl (cI, 8, .inl o_likelyOf)), (oq_kindOf, .inl (cI, 8, .inl o_kindOf)), (oq_settledOf, .inl (cI, 8, .inl (upd o_settledOf_22 x1_22.toNatClampNeg 0)))]) H := hP
        have hD : va_D A ([(oh, .inr (4, [.int 1, .int o_wax, .int o_stick, .int 0, .int 0, .int 0, .ref oq_keeping, .ref oq_giverOf, .ref oq_deedOf, .ref oq_dayOf, .ref oq_likelyOf, .ref oq_kindOf, .ref oq_settledOf])), (oq_keeping, .inl (cI, 4, .inl o_keeping)), (oq_giverOf, .inl (cI, 8, .inl o_giverOf)), (oq_deedOf, .inl (cI, 8, .inl o_deedOf)), (oq_dayOf, .inl (cI, 8, .inl o_dayOf)), (oq_likelyOf, .inl (cI, 8, .inl o_likelyOf)), (oq_kindOf, .inl (cI, 8, .inl o_kindOf)), (oq_settledOf, .inl (cI, 8, .inl (upd o_settledOf_22 x1_22.toNatClampNeg 0)))]) := hD
        refine lv_iinc (v := x1_22 + 1) (lv' := [(1, .int (x1_22 + 1)), (0, .ref oh)]) hx hb dX4_clear_35 hl (k := 1) rfl rfl (by decide) rfl (fun ls hl => ?_)
        refine lv_goto (tgt := 22) hx hb dX4_clear_38 (by decide) ?_
        exact ih_22 (upd o_settledOf_22 x1_22.toNatClampNeg 0) (x1_22 + 1) H locs ls hP hD hS (lv_sub hl [1, 0] rfl) hf
  exact L_22 bs_F o_settledOf (0 : Int32) H locs ls hP hD hS (lv_sub hl [1, 0] rfl) hf
set_option maxHeartbeats 4000000 in
set_option maxRecDepth 100000 in
theorem k_X4_become (l : Launch) (dC : Nat → ClassId) (dI : Nat → Nat → Nat) (cI cZ cS cG : ClassId) (oh : Nat) (oq_keeping : Nat) (oq_giverOf : Nat) (oq_deedOf : Nat) (oq_dayOf : Nat) (oq_likelyOf : Nat) (oq_kindOf : Nat) (oq_settledOf : Nat) (bh : Nat) (bq_keeping : Nat) (bq_giverOf : Nat) (bq_deedOf : Nat) (bq_dayOf : Nat) (bq_likelyOf : Nat) (bq_kindOf : Nat) (bq_settledOf : Nat) (o_told : Int32) (o_wax : Int32) (o_stick : Int32) (o_givers : Int32) (o_promises : Int32) (o_pan : Int32) (o_keeping : Nat → Int32) (o_giverOf : Nat → Int32) (o_deedOf : Nat → Int32) (o_dayOf : Nat → Int32) (o_likelyOf : Nat → Int32) (o_kindOf : Nat → Int32) (o_settledOf : Nat → Int32) (b_told : Int32) (b_wax : Int32) (b_stick : Int32) (b_givers : Int32) (b_promises : Int32) (b_pan : Int32) (b_keeping : Nat → Int32) (b_giverOf : Nat → Int32) (b_deedOf : Nat → Int32) (b_dayOf : Nat → Int32) (b_likelyOf : Nat → Int32) (b_kindOf : Nat → Int32) (b_settledOf : Nat → Int32) (out : Int32 × Int32 × Int32 × Int32 × Int32 × Int32 × (Nat → Int32) × (Nat → Int32) × (Nat → Int32) × (Nat → Int32) × (Nat → Int32) × (Nat → Int32) × (Nat → Int32)) (hf : f_X4_become o_told o_wax o_stick o_givers o_promises o_pan o_keeping o_giverOf o_deedOf o_dayOf o_likelyOf o_kindOf o_settledOf b_told b_wax b_stick b_givers b_promises b_pan b_keeping b_giverOf b_deedOf b_dayOf b_likelyOf b_kindOf b_settledOf = some out) : bs_CV l dC dI cI cZ cS cG yX4_become wsX4_become ({ frames := 0, cells := 0, slots := 0, locals := 0 } : Room) [.ref oh, .ref bh] ([(oh, .inr (4, [.int o_told, .int o_wax, .int o_stick, .int o_givers, .int o_promises, .int o_pan, .ref oq_keeping, .ref oq_giverOf, .ref oq_deedOf, .ref oq_dayOf, .ref oq_likelyOf, .ref oq_kindOf, .ref oq_settledOf])), (oq_keeping, .inl (cI, 4, .inl o_keeping)), (oq_giverOf, .inl (cI, 8, .inl o_giverOf)), (oq_deedOf, .inl (cI, 8, .inl o_deedOf)), (oq_dayOf, .inl (cI, 8, .inl o_dayOf)), (oq_likelyOf, .inl (cI, 8, .inl o_likelyOf)), (oq_kindOf, .inl (cI, 8, .inl o_kindOf)), (oq_settledOf, .inl (cI, 8, .inl o_settledOf)), (bh, .inr (4, [.int b_told, .int b_wax, .int b_stick, .int b_givers, .int b_promises, .int b_pan, .ref bq_keeping, .ref bq_giverOf, .ref bq_deedOf, .ref bq_dayOf, .ref bq_likelyOf, .ref bq_kindOf, .ref bq_settledOf])), (bq_keeping, .inl (cI, 4, .inl b_keeping)), (bq_giverOf, .inl (cI, 8, .inl b_giverOf)), (bq_deedOf, .inl (cI, 8, .inl b_deedOf)), (bq_dayOf, .inl (cI, 8, .inl b_dayOf)), (bq_likelyOf, .inl (cI, 8, .inl b_likelyOf)), (bq_kindOf, .inl (cI, 8, .inl b_kindOf)), (bq_settledOf, .inl (cI, 8, .inl b_settledOf))]) ([(oh, .inr (4, [.int out.1, .int out.2.1, .int out.2.2.1, .int out.2.2.2.1, .int out.2.2.2.2.1, .int out.2.2.2.2.2.1, .ref oq_keeping, .ref oq_giverOf, .ref oq_deedOf, .ref oq_dayOf, .ref oq_likelyOf, .ref oq_kindOf, .ref oq_settledOf])), (oq_keeping, .inl (cI, 4, .inl out.2.2.2.2.2.2.1)), (oq_giverOf, .inl (cI, 8, .inl out.2.2.2.2.2.2.2.1)), (oq_deedOf, .inl (cI, 8, .inl out.2.2.2.2.2.2.2.2.1)), (oq_dayOf, .inl (cI, 8, .inl out.2.2.2.2.2.2.2.2.2.1)), (oq_likelyOf, .inl (cI, 8, .inl out.2.2.2.2.2.2.2.2.2.2.1)), (oq_kindOf, .inl (cI, 8, .inl out.2.2.2.2.2.2.2.2.2.2.2.1)), (oq_settledOf, .inl (cI, 8, .inl out.2.2.2.2.2.2.2.2.2.2.2.2)), (bh, .inr (4, [.int b_told, .int b_wax, .int b_stick, .int b_givers, .int b_promises, .int b_pan, .ref bq_keeping, .ref bq_giverOf, .ref bq_deedOf, .ref bq_dayOf, .ref bq_likelyOf, .ref bq_kindOf, .ref bq_settledOf])), (bq_keeping, .inl (cI, 4, .inl b_keeping)), (bq_giverOf, .inl (cI, 8, .inl b_giverOf)), (bq_deedOf, .inl (cI, 8, .inl b_deedOf)), (bq_dayOf, .inl (cI, 8, .inl b_dayOf)), (bq_likelyOf, .inl (cI, 8, .inl b_likelyOf)), (bq_kindOf, .inl (cI, 8, .inl b_kindOf)), (bq_settledOf, .inl (cI, 8, .inl b_settledOf))]) := by
  refine bs_ofV (cc := cX4_become) (maxL := 3) (by decide) rfl (Nat.le_of_ble_eq_true rfl) ?_
  intro p e s m below meth c A Q hx hb hown hml hts hE H locs hP hD hA hS ls hl hret
  have hK := hE.1
  have hl : lv_has ls 3 [(0, .ref oh), (1, .ref bh)] := hl
  have hin4 : ∀ w ∈ u_ws RX4 TX4 13, w ∈ wsX4_become := by decide +kernel
  have k9 := hts (.fieldLink RX4 9 "PromiseScales$Scales" "keeping" "[I") (by decide +kernel)
  have k15 := hts (.fieldLink RX4 15 "PromiseScales$Scales" "giverOf" "[I") (by decide +kernel)
  have k18 := hts (.fieldLink RX4 18 "PromiseScales$Scales" "deedOf" "[I") (by decide +kernel)
  have k21 := hts (.fieldLink RX4 21 "PromiseScales$Scales" "dayOf" "[I") (by decide +kernel)
  have k24 := hts (.fieldLink RX4 24 "PromiseScales$Scales" "likelyOf" "[I") (by decide +kernel)
  have k27 := hts (.fieldLink RX4 27 "PromiseScales$Scales" "kindOf" "[I") (by decide +kernel)
  have k30 := hts (.fieldLink RX4 30 "PromiseScales$Scales" "settledOf" "[I") (by decide +kernel)
  have k33 := hts (.fieldLink RX4 33 "PromiseScales$Scales" "told" "Z") (by decide +kernel)
  have k37 := hts (.fieldLink RX4 37 "PromiseScales$Scales" "givers" "I") (by decide +kernel)
  have k41 := hts (.fieldLink RX4 41 "PromiseScales$Scales" "promises" "I") (by decide +kernel)
  have k44 := hts (.fieldLink RX4 44 "PromiseScales$Scales" "pan" "I") (by decide +kernel)
  have k47 := hts (.fieldLink RX4 47 "PromiseScales$Scales" "wax" "I") (by decide +kernel)
  have k50 := hts (.fieldLink RX4 50 "PromiseScales$Scales" "stick" "I") (by decide +kernel)
  unfold f_X4_become at hf
  refine lv_aload_n hx hb dX4_become_0 rfl (lv_at hl 0 rfl) ?_
  refine lv_aload_n hx hb dX4_become_1 rfl (lv_at hl 1 rfl) ?_
  refine va_get (D := (dC, dI)) (ci := 4) (v := .int b_told) (C := RX4) (T := TX4) (N := 13) hx hb hts hin4 hown hK hP 8 rfl rfl 0 (by decide) k33 (fun _ h9 => h9) rfl dX4_become_2 ?_
  obtain ⟨g1, hf⟩ := bs_g hf
  refine va_put (D := (dC, dI)) (ci := 4) (v := .int b_told) (ty := .boolean) (C := RX4) (T := TX4) (N := 13) hx hb hts hin4 tyX4 tyX4_ok nmX4 hown hK hP hD hS 0 rfl rfl 0 (by decide) k33 (fun _ h9 => h9) rfl (by decide +kernel) (bs_nz g1) (bs_fz g1) (Nat.le_of_ble_eq_true rfl) dX4_become_5 (fun H locs hP hD hS => ?_)
  have hP : va_P (dC, dI) vwCl ([(oh, .inr (4, [.int b_told, .int o_wax, .int o_stick, .int o_givers, .int o_promises, .int o_pan, .ref oq_keeping, .ref oq_giverOf, .ref oq_deedOf, .ref oq_dayOf, .ref oq_likelyOf, .ref oq_kindOf, .ref oq_settledOf])), (oq_keeping, .inl (cI, 4, .inl o_keeping)), (oq_giverOf, .inl (cI, 8, .inl o_giverOf)), (oq_deedOf, .inl (cI, 8, .inl o_deedOf)), (oq_dayOf, .inl (cI, 8, .inl o_dayOf)), (oq_likelyOf, .inl (cI, 8, .inl o_likelyOf)), (oq_kindOf, .inl (cI, 8, .inl o_kindOf)), (oq_settledOf, .inl (cI, 8, .inl o_settledOf)), (bh, .inr (4, [.int b_told, .int b_wax, .int b_stick, .int b_givers, .int b_promises, .int b_pan, .ref bq_keeping, .ref bq_giverOf, .ref bq_deedOf, .ref bq_dayOf, .ref bq_likelyOf, .ref bq_kindOf, .ref bq_settledOf])), (bq_keeping, .inl (cI, 4, .inl b_keeping)), (bq_giverOf, .inl (cI, 8, .inl b_giverOf)), (bq_deedOf, .inl (cI, 8, .inl b_deedOf)), (bq_dayOf, .inl (cI, 8, .inl b_dayOf)), (bq_likelyOf, .inl (cI, 8, .inl b_likelyOf)), (bq_kindOf, .inl (cI, 8, .inl b_kindOf)), (bq_settledOf, .inl (cI, 8, .inl b_settledOf))]) H := hP
  have hD : va_D A ([(oh, .inr (4, [.int b_told, .int o_wax, .int o_stick, .int o_givers, .int o_promises, .int o_pan, .ref oq_keeping, .ref oq_giverOf, .ref oq_deedOf, .ref oq_dayOf, .ref oq_likelyOf, .ref oq_kindOf, .ref oq_settledOf])), (oq_keeping, .inl (cI, 4, .inl o_keeping)), (oq_giverOf, .inl (cI, 8, .inl o_giverOf)), (oq_deedOf, .inl (cI, 8, .inl o_deedOf)), (oq_dayOf, .inl (cI, 8, .inl o_dayOf)), (oq_likelyOf, .inl (cI, 8, .inl o_likelyOf)), (oq_kindOf, .inl (cI, 8, .inl o_kindOf)), (oq_settledOf, .inl (cI, 8, .inl o_settledOf)), (bh, .inr (4, [.int b_told, .int b_wax, .int b_stick, .int b_givers, .int b_promises, .int b_pan, .ref bq_keeping, .ref bq_giverOf, .ref bq_deedOf, .ref bq_dayOf, .ref bq_likelyOf, .ref bq_kindOf, .ref bq_settledOf])), (bq_keeping, .inl (cI, 4, .inl b_keeping)), (bq_giverOf, .inl (cI, 8, .inl b_giverOf)), (bq_deedOf, .inl (cI, 8, .inl b_deedOf)), (bq_dayOf, .inl (cI, 8, .inl b_dayOf)), (bq_likelyOf, .inl (cI, 8, .inl b_likelyOf)), (bq_kindOf, .inl (cI, 8, .inl b_kindOf)), (bq_settledOf, .inl (cI, 8, .inl b_settledOf))]) := hD
  refine lv_aload_n hx hb dX4_become_8 rfl (lv_at hl 0 rfl) ?_
  refine lv_aload_n hx hb dX4_become_9 rfl (lv_at hl 1 rfl) ?_
  refine va_get (D := (dC, dI)) (ci := 4) (v := .int b_wax) (C := RX4) (T := TX4) (N := 13) hx hb hts hin4 hown hK hP 8 rfl rfl 1 (by decide) k47 (fun _ h9 => h9) rfl dX4_become_10 ?_
  refine va_put (D := (dC, dI)) (ci := 4) (v := .int b_wax) (ty := .int) (C := RX4) (T := TX4) (N := 13) hx hb hts hin4 tyX4 tyX4_ok nmX4 hown hK hP hD hS 0 rfl rfl 1 (by decide) k47 (fun _ h9 => h9) rfl (by decide +kernel) rfl rfl (Nat.le_of_ble_eq_true rfl) dX4_become_13 (fun H locs hP hD hS => ?_)
  have hP : va_P (dC, dI) vwCl ([(oh, .inr (4, [.int b_told, .int b_wax, .int o_stick, .int o_givers, .int o_promises, .int o_pan, .ref oq_keeping, .ref oq_giverOf, .ref oq_deedOf, .ref oq_dayOf, .ref oq_likelyOf, .ref oq_kindOf, .ref oq_settledOf])), (oq_keeping, .inl (cI, 4, .inl o_keeping)), (oq_giverOf, .inl (cI, 8, .inl o_giverOf)), (oq_deedOf, .inl (cI, 8, .inl o_deedOf)), (oq_dayOf, .inl (cI, 8, .inl o_dayOf)), (oq_likelyOf, .inl (cI, 8, .inl o_likelyOf)), (oq_kindOf, .inl (cI, 8, .inl o_kindOf)), (oq_settledOf, .inl (cI, 8, .inl o_settledOf)), (bh, .inr (4, [.int b_told, .int b_wax, .int b_stick, .int b_givers, .int b_promises, .int b_pan, .ref bq_keeping, .ref bq_giverOf, .ref bq_deedOf, .ref bq_dayOf, .ref bq_likelyOf, .ref bq_kindOf, .ref bq_settledOf])), (bq_keeping, .inl (cI, 4, .inl b_keeping)), (bq_giverOf, .inl (cI, 8, .inl b_giverOf)), (bq_deedOf, .inl (cI, 8, .inl b_deedOf)), (bq_dayOf, .inl (cI, 8, .inl b_dayOf)), (bq_likelyOf, .inl (cI, 8, .inl b_likelyOf)), (bq_kindOf, .inl (cI, 8, .inl b_kindOf)), (bq_settledOf, .inl (cI, 8, .inl b_settledOf))]) H := hP
  have hD : va_D A ([(oh, .inr (4, [.int b_told, .int b_wax, .int o_stick, .int o_givers, .int o_promises, .int o_pan, .ref oq_keeping, .ref oq_giverOf, .ref oq_deedOf, .ref oq_dayOf, .ref oq_likelyOf, .ref oq_kindOf, .ref oq_settledOf])), (oq_keeping, .inl (cI, 4, .inl o_keeping)), (oq_giverOf, .inl (cI, 8, .inl o_giverOf)), (oq_deedOf, .inl (cI, 8, .inl o_deedOf)), (oq_dayOf, .inl (cI, 8, .inl o_dayOf)), (oq_likelyOf, .inl (cI, 8, .inl o_likelyOf)), (oq_kindOf, .inl (cI, 8, .inl o_kindOf)), (oq_settledOf, .inl (cI, 8, .inl o_settledOf)), (bh, .inr (4, [.int b_told, .int b_wax, .int b_stick, .int b_givers, .int b_promises, .int b_pan, .ref bq_keeping, .ref bq_giverOf, .ref bq_deedOf, .ref bq_dayOf, .ref bq_likelyOf, .ref bq_kindOf, .ref bq_settledOf])), (bq_keeping, .inl (cI, 4, .inl b_keeping)), (bq_giverOf, .inl (cI, 8, .inl b_giverOf)), (bq_deedOf, .inl (cI, 8, .inl b_deedOf)), (bq_dayOf, .inl (cI, 8, .inl b_dayOf)), (bq_likelyOf, .inl (cI, 8, .inl b_likelyOf)), (bq_kindOf, .inl (cI, 8, .inl b_kindOf)), (bq_settledOf, .inl (cI, 8, .inl b_settledOf))]) := hD
  refine lv_aload_n hx hb dX4_become_16 rfl (lv_at hl 0 rfl) ?_
  refine lv_aload_n hx hb dX4_become_17 rfl (lv_at hl 1 rfl) ?_
  refine va_get (D := (dC, dI)) (ci := 4) (v := .int b_stick) (C := RX4) (T := TX4) (N := 13) hx hb hts hin4 hown hK hP 8 rfl rfl 2 (by decide) k50 (fun _ h9 => h9) rfl dX4_become_18 ?_
  refine va_put (D := (dC, dI)) (ci := 4) (v := .int b_stick) (ty := .int) (C := RX4) (T := TX4) (N := 13) hx hb hts hin4 tyX4 tyX4_ok nmX4 hown hK hP hD hS 0 rfl rfl 2 (by decide) k50 (fun _ h9 => h9) rfl (by decide +kernel) rfl rfl (Nat.le_of_ble_eq_true rfl) dX4_become_21 (fun H locs hP hD hS => ?_)
  have hP : va_P (dC, dI) vwCl ([(oh, .inr (4, [.int b_told, .int b_wax, .int b_stick, .int o_givers, .int o_promises, .int o_pan, .ref oq_keeping, .ref oq_giverOf, .ref oq_deedOf, .ref oq_dayOf, .ref oq_likelyOf, .ref oq_kindOf, .ref oq_settledOf])), (oq_keeping, .inl (cI, 4, .inl o_keeping)), (oq_giverOf, .inl (cI, 8, .inl o_giverOf)), (oq_deedOf, .inl (cI, 8, .inl o_deedOf)), (oq_dayOf, .inl (cI, 8, .inl o_dayOf)), (oq_likelyOf, .inl (cI, 8, .inl o_likelyOf)), (oq_kindOf, .inl (cI, 8, .inl o_kindOf)), (oq_settledOf, .inl (cI, 8, .inl o_settledOf)), (bh, .inr (4, [.int b_told, .int b_wax, .int b_stick, .int b_givers, .int b_promises, .int b_pan, .ref bq_keeping, .ref bq_giverOf, .ref bq_deedOf, .ref bq_dayOf, .ref bq_likelyOf, .ref bq_kindOf, .ref bq_settledOf])), (bq_keeping, .inl (cI, 4, .inl b_keeping)), (bq_giverOf, .inl (cI, 8, .inl b_giverOf)), (bq_deedOf, .inl (cI, 8, .inl b_deedOf)), (bq_dayOf, .inl (cI, 8, .inl b_dayOf)), (bq_likelyOf, .inl (cI, 8, .inl b_likelyOf)), (bq_kindOf, .inl (cI, 8, .inl b_kindOf)), (bq_settledOf, .inl (cI, 8, .inl b_settledOf))]) H := hP
  have hD : va_D A ([(oh, .inr (4, [.int b_told, .int b_wax, .int b_stick, .int o_givers, .int o_promises, .int o_pan, .ref oq_keeping, .ref oq_giverOf, .ref oq_deedOf, .ref oq_dayOf, .ref oq_likelyOf, .ref oq_kindOf, .ref oq_settledOf])), (oq_keeping, .inl (cI, 4, .inl o_keeping)), (oq_giverOf, .inl (cI, 8, .inl o_giverOf)), (oq_deedOf, .inl (cI, 8, .inl o_deedOf)), (oq_dayOf, .inl (cI, 8, .inl o_dayOf)), (oq_likelyOf, .inl (cI, 8, .inl o_likelyOf)), (oq_kindOf, .inl (cI, 8, .inl o_kindOf)), (oq_settledOf, .inl (cI, 8, .inl o_settledOf)), (bh, .inr (4, [.int b_told, .int b_wax, .int b_stick, .int b_givers, .int b_promises, .int b_pan, .ref bq_keeping, .ref bq_giverOf, .ref bq_deedOf, .ref bq_dayOf, .ref bq_likelyOf, .ref bq_kindOf, .ref bq_settledOf])), (bq_keeping, .inl (cI, 4, .inl b_keeping)), (bq_giverOf, .inl (cI, 8, .inl b_giverOf)), (bq_deedOf, .inl (cI, 8, .inl b_deedOf)), (bq_dayOf, .inl (cI, 8, .inl b_dayOf)), (bq_likelyOf, .inl (cI, 8, .inl b_likelyOf)), (bq_kindOf, .inl (cI, 8, .inl b_kindOf)), (bq_settledOf, .inl (cI, 8, .inl b_settledOf))]) := hD
  refine lv_aload_n hx hb dX4_become_24 rfl (lv_at hl 0 rfl) ?_
  refine lv_aload_n hx hb dX4_become_25 rfl (lv_at hl 1 rfl) ?_
  refine va_get (D := (dC, dI)) (ci := 4) (v := .int b_givers) (C := RX4) (T := TX4) (N := 13) hx hb hts hin4 hown hK hP 8 rfl rfl 3 (by decide) k37 (fun _ h9 => h9) rfl dX4_become_26 ?_
  refine va_put (D := (dC, dI)) (ci := 4) (v := .int b_givers) (ty := .int) (C := RX4) (T := TX4) (N := 13) hx hb hts hin4 tyX4 tyX4_ok nmX4 hown hK hP hD hS 0 rfl rfl 3 (by decide) k37 (fun _ h9 => h9) rfl (by decide +kernel) rfl rfl (Nat.le_of_ble_eq_true rfl) dX4_become_29 (fun H locs hP hD hS => ?_)
  have hP : va_P (dC, dI) vwCl ([(oh, .inr (4, [.int b_told, .int b_wax, .int b_stick, .int b_givers, .int o_promises, .int o_pan, .ref oq_keeping, .ref oq_giverOf, .ref oq_deedOf, .ref oq_dayOf, .ref oq_likelyOf, .ref oq_kindOf, .ref oq_settledOf])), (oq_keeping, .inl (cI, 4, .inl o_keeping)), (oq_giverOf, .inl (cI, 8, .inl o_giverOf)), (oq_deedOf, .inl (cI, 8, .inl o_deedOf)), (oq_dayOf, .inl (cI, 8, .inl o_dayOf)), (oq_likelyOf, .inl (cI, 8, .inl o_likelyOf)), (oq_kindOf, .inl (cI, 8, .inl o_kindOf)), (oq_settledOf, .inl (cI, 8, .inl o_settledOf)), (bh, .inr (4, [.int b_told, .int b_wax, .int b_stick, .int b_givers, .int b_promises, .int b_pan, .ref bq_keeping, .ref bq_giverOf, .ref bq_deedOf, .ref bq_dayOf, .ref bq_likelyOf, .ref bq_kindOf, .ref bq_settledOf])), (bq_keeping, .inl (cI, 4, .inl b_keeping)), (bq_giverOf, .inl (cI, 8, .inl b_giverOf)), (bq_deedOf, .inl (cI, 8, .inl b_deedOf)), (bq_dayOf, .inl (cI, 8, .inl b_dayOf)), (bq_likelyOf, .inl (cI, 8, .inl b_likelyOf)), (bq_kindOf, .inl (cI, 8, .inl b_kindOf)), (bq_settledOf, .inl (cI, 8, .inl b_settledOf))]) H := hP
  have hD : va_D A ([(oh, .inr (4, [.int b_told, .int b_wax, .int b_stick, .int b_givers, .int o_promises, .int o_pan, .ref oq_keeping, .ref oq_giverOf, .ref oq_deedOf, .ref oq_dayOf, .ref oq_likelyOf, .ref oq_kindOf, .ref oq_settledOf])), (oq_keeping, .inl (cI, 4, .inl o_keeping)), (oq_giverOf, .inl (cI, 8, .inl o_giverOf)), (oq_deedOf, .inl (cI, 8, .inl o_deedOf)), (oq_dayOf, .inl (cI, 8, .inl o_dayOf)), (oq_likelyOf, .inl (cI, 8, .inl o_likelyOf)), (oq_kindOf, .inl (cI, 8, .inl o_kindOf)), (oq_settledOf, .inl (cI, 8, .inl o_settledOf)), (bh, .inr (4, [.int b_told, .int b_wax, .int b_stick, .int b_givers, .int b_promises, .int b_pan, .ref bq_keeping, .ref bq_giverOf, .ref bq_deedOf, .ref bq_dayOf, .ref bq_likelyOf, .ref bq_kindOf, .ref bq_settledOf])), (bq_keeping, .inl (cI, 4, .inl b_keeping)), (bq_giverOf, .inl (cI, 8, .inl b_giverOf)), (bq_deedOf, .inl (cI, 8, .inl b_deedOf)), (bq_dayOf, .inl (cI, 8, .inl b_dayOf)), (bq_likelyOf, .inl (cI, 8, .inl b_likelyOf)), (bq_kindOf, .inl (cI, 8, .inl b_kindOf)), (bq_settledOf, .inl (cI, 8, .inl b_settledOf))]) := hD
  refine lv_aload_n hx hb dX4_become_32 rfl (lv_at hl 0 rfl) ?_
  refine lv_aload_n hx hb dX4_become_33 rfl (lv_at hl 1 rfl) ?_
  refine va_get (D := (dC, dI)) (ci := 4) (v := .int b_promises) (C := RX4) (T := TX4) (N := 13) hx hb hts hin4 hown hK hP 8 rfl rfl 4 (by decide) k41 (fun _ h9 => h9) rfl dX4_become_34 ?_
  refine va_put (D := (dC, dI)) (ci := 4) (v := .int b_promises) (ty := .int) (C := RX4) (T := TX4) (N := 13) hx hb hts hin4 tyX4 tyX4_ok nmX4 hown hK hP hD hS 0 rfl rfl 4 (by decide) k41 (fun _ h9 => h9) rfl (by decide +kernel) rfl rfl (Nat.le_of_ble_eq_true rfl) dX4_become_37 (fun H locs hP hD hS => ?_)
  have hP : va_P (dC, dI) vwCl ([(oh, .inr (4, [.int b_told, .int b_wax, .int b_stick, .int b_givers, .int b_promises, .int o_pan, .ref oq_keeping, .ref oq_giverOf, .ref oq_deedOf, .ref oq_dayOf, .ref oq_likelyOf, .ref oq_kindOf, .ref oq_settledOf])), (oq_keeping, .inl (cI, 4, .inl o_keeping)), (oq_giverOf, .inl (cI, 8, .inl o_giverOf)), (oq_deedOf, .inl (cI, 8, .inl o_deedOf)), (oq_dayOf, .inl (cI, 8, .inl o_dayOf)), (oq_likelyOf, .inl (cI, 8, .inl o_likelyOf)), (oq_kindOf, .inl (cI, 8, .inl o_kindOf)), (oq_settledOf, .inl (cI, 8, .inl o_settledOf)), (bh, .inr (4, [.int b_told, .int b_wax, .int b_stick, .int b_givers, .int b_promises, .int b_pan, .ref bq_keeping, .ref bq_giverOf, .ref bq_deedOf, .ref bq_dayOf, .ref bq_likelyOf, .ref bq_kindOf, .ref bq_settledOf])), (bq_keeping, .inl (cI, 4, .inl b_keeping)), (bq_giverOf, .inl (cI, 8, .inl b_giverOf)), (bq_deedOf, .inl (cI, 8, .inl b_deedOf)), (bq_dayOf, .inl (cI, 8, .inl b_dayOf)), (bq_likelyOf, .inl (cI, 8, .inl b_likelyOf)), (bq_kindOf, .inl (cI, 8, .inl b_kindOf)), (bq_settledOf, .inl (cI, 8, .inl b_settledOf))]) H := hP
  have hD : va_D A ([(oh, .inr (4, [.int b_told, .int b_wax, .int b_stick, .int b_givers, .int b_promises, .int o_pan, .ref oq_keeping, .ref oq_giverOf, .ref oq_deedOf, .ref oq_dayOf, .ref oq_likelyOf, .ref oq_kindOf, .ref oq_settledOf])), (oq_keeping, .inl (cI, 4, .inl o_keeping)), (oq_giverOf, .inl (cI, 8, .inl o_giverOf)), (oq_deedOf, .inl (cI, 8, .inl o_deedOf)), (oq_dayOf, .inl (cI, 8, .inl o_dayOf)), (oq_likelyOf, .inl (cI, 8, .inl o_likelyOf)), (oq_kindOf, .inl (cI, 8, .inl o_kindOf)), (oq_settledOf, .inl (cI, 8, .inl o_settledOf)), (bh, .inr (4, [.int b_told, .int b_wax, .int b_stick, .int b_givers, .int b_promises, .int b_pan, .ref bq_keeping, .ref bq_giverOf, .ref bq_deedOf, .ref bq_dayOf, .ref bq_likelyOf, .ref bq_kindOf, .ref bq_settledOf])), (bq_keeping, .inl (cI, 4, .inl b_keeping)), (bq_giverOf, .inl (cI, 8, .inl b_giverOf)), (bq_deedOf, .inl (cI, 8, .inl b_deedOf)), (bq_dayOf, .inl (cI, 8, .inl b_dayOf)), (bq_likelyOf, .inl (cI, 8, .inl b_likelyOf)), (bq_kindOf, .inl (cI, 8, .inl b_kindOf)), (bq_settledOf, .inl (cI, 8, .inl b_settledOf))]) := hD
  refine lv_aload_n hx hb dX4_become_40 rfl (lv_at hl 0 rfl) ?_
  refine lv_aload_n hx hb dX4_become_41 rfl (lv_at hl 1 rfl) ?_
  refine va_get (D := (dC, dI)) (ci := 4) (v := .int b_pan) (C := RX4) (T := TX4) (N := 13) hx hb hts hin4 hown hK hP 8 rfl rfl 5 (by decide) k44 (fun _ h9 => h9) rfl dX4_become_42 ?_
  refine va_put (D := (dC, dI)) (ci := 4) (v := .int b_pan) (ty := .int) (C := RX4) (T := TX4) (N := 13) hx hb hts hin4 tyX4 tyX4_ok nmX4 hown hK hP hD hS 0 rfl rfl 5 (by decide) k44 (fun _ h9 => h9) rfl (by decide +kernel) rfl rfl (Nat.le_of_ble_eq_true rfl) dX4_become_45 (fun H locs hP hD hS => ?_)
  have hP : va_P (dC, dI) vwCl ([(oh, .inr (4, [.int b_told, .int b_wax, .int b_stick, .int b_givers, .int b_promises, .int b_pan, .ref oq_keeping, .ref oq_giverOf, .ref oq_deedOf, .ref oq_dayOf, .ref oq_likelyOf, .ref oq_kindOf, .ref oq_settledOf])), (oq_keeping, .inl (cI, 4, .inl o_keeping)), (oq_giverOf, .inl (cI, 8, .inl o_giverOf)), (oq_deedOf, .inl (cI, 8, .inl o_deedOf)), (oq_dayOf, .inl (cI, 8, .inl o_dayOf)), (oq_likelyOf, .inl (cI, 8, .inl o_likelyOf)), (oq_kindOf, .inl (cI, 8, .inl o_kindOf)), (oq_settledOf, .inl (cI, 8, .inl o_settledOf)), (bh, .inr (4, [.int b_told, .int b_wax, .int b_stick, .int b_givers, .int b_promises, .int b_pan, .ref bq_keeping, .ref bq_giverOf, .ref bq_deedOf, .ref bq_dayOf, .ref bq_likelyOf, .ref bq_kindOf, .ref bq_settledOf])), (bq_keeping, .inl (cI, 4, .inl b_keeping)), (bq_giverOf, .inl (cI, 8, .inl b_giverOf)), (bq_deedOf, .inl (cI, 8, .inl b_deedOf)), (bq_dayOf, .inl (cI, 8, .inl b_dayOf)), (bq_likelyOf, .inl (cI, 8, .inl b_likelyOf)), (bq_kindOf, .inl (cI, 8, .inl b_kindOf)), (bq_settledOf, .inl (cI, 8, .inl b_settledOf))]) H := hP
  have hD : va_D A ([(oh, .inr (4, [.int b_told, .int b_wax, .int b_stick, .int b_givers, .int b_promises, .int b_pan, .ref oq_keeping, .ref oq_giverOf, .ref oq_deedOf, .ref oq_dayOf, .ref oq_likelyOf, .ref oq_kindOf, .ref oq_settledOf])), (oq_keeping, .inl (cI, 4, .inl o_keeping)), (oq_giverOf, .inl (cI, 8, .inl o_giverOf)), (oq_deedOf, .inl (cI, 8, .inl o_deedOf)), (oq_dayOf, .inl (cI, 8, .inl o_dayOf)), (oq_likelyOf, .inl (cI, 8, .inl o_likelyOf)), (oq_kindOf, .inl (cI, 8, .inl o_kindOf)), (oq_settledOf, .inl (cI, 8, .inl o_settledOf)), (bh, .inr (4, [.int b_told, .int b_wax, .int b_stick, .int b_givers, .int b_promises, .int b_pan, .ref bq_keeping, .ref bq_giverOf, .ref bq_deedOf, .ref bq_dayOf, .ref bq_likelyOf, .ref bq_kindOf, .ref bq_settledOf])), (bq_keeping, .inl (cI, 4, .inl b_keeping)), (bq_giverOf, .inl (cI, 8, .inl b_giverOf)), (bq_deedOf, .inl (cI, 8, .inl b_deedOf)), (bq_dayOf, .inl (cI, 8, .inl b_dayOf)), (bq_likelyOf, .inl (cI, 8, .inl b_likelyOf)), (bq_kindOf, .inl (cI, 8, .inl b_kindOf)), (bq_settledOf, .inl (cI, 8, .inl b_settledOf))]) := hD
  refine lv_iconst (v := 0) hx hb dX4_become_48 (by decide) ?_
  refine lv_istore_n (lv' := [(2, .int 0), (0, .ref oh), (1, .ref bh)]) hx hb dX4_become_49 rfl hl (by decide) rfl (fun ls hl => ?_)
  have L_50 : ∀ (fuel : Nat) (o_keeping_50 : Nat → Int32) (x2_50 : Int32) (H : Heap) (locs : List Loc) (ls : Array Slot), va_P (dC, dI) vwCl ([(oh, .inr (4, [.int b_told, .int b_wax, .int b_stick, .int b_givers, .int b_promises, .int b_pan, .ref oq_keeping, .ref oq_giverOf, .ref oq_deedOf, .ref oq_dayOf, .ref oq_likelyOf, .ref oq_kindOf, .ref oq_settledOf])), (oq_keeping, .inl (cI, 4, .inl o_keeping_50)), (oq_giverOf, .inl (cI, 8, .inl o_giverOf)), (oq_deedOf, .inl (cI, 8, .inl o_deedOf)), (oq_dayOf, .inl (cI, 8, .inl o_dayOf)), (oq_likelyOf, .inl (cI, 8, .inl o_likelyOf)), (oq_kindOf, .inl (cI, 8, .inl o_kindOf)), (oq_settledOf, .inl (cI, 8, .inl o_settledOf)), (bh, .inr (4, [.int b_told, .int b_wax, .int b_stick, .int b_givers, .int b_promises, .int b_pan, .ref bq_keeping, .ref bq_giverOf, .ref bq_deedOf, .ref bq_dayOf, .ref bq_likelyOf, .ref bq_kindOf, .ref bq_settledOf])), (bq_keeping, .inl (cI, 4, .inl b_keeping)), (bq_giverOf, .inl (cI, 8, .inl b_giverOf)), (bq_deedOf, .inl (cI, 8, .inl b_deedOf)), (bq_dayOf, .inl (cI, 8, .inl b_dayOf)), (bq_likelyOf, .inl (cI, 8, .inl b_likelyOf)), (bq_kindOf, .inl (cI, 8, .inl b_kindOf)), (bq_settledOf, .inl (cI, 8, .inl b_settledOf))]) H → va_D A ([(oh, .inr (4, [.int b_told, .int b_wax, .int b_stick, .int b_givers, .int b_promises, .int b_pan, .ref oq_keeping, .ref oq_giverOf, .ref oq_deedOf, .ref oq_dayOf, .ref oq_likelyOf, .ref oq_kindOf, .ref oq_settledOf])), (oq_keeping, .inl (cI, 4, .inl o_keeping_50)), (oq_giverOf, .inl (cI, 8, .inl o_giverOf)), (oq_deedOf, .inl (cI, 8, .inl o_deedOf)), (oq_dayOf, .inl (cI, 8, .inl o_dayOf)), (oq_likelyOf, .inl (cI, 8, .inl o_likelyOf)), (oq_kindOf, .inl (cI, 8, .inl o_kindOf)), (oq_settledOf, .inl (cI, 8, .inl o_settledOf)), (bh, .inr (4, [.int b_told, .int b_wax, .int b_stick, .int b_givers, .int b_promises, .int b_pan, .ref bq_keeping, .ref bq_giverOf, .ref bq_deedOf, .ref bq_dayOf, .ref bq_likelyOf, .ref bq_kindOf, .ref bq_settledOf])), (bq_keeping, .inl (cI, 4, .inl b_keeping)), (bq_giverOf, .inl (cI, 8, .inl b_giverOf)), (bq_deedOf, .inl (cI, 8, .inl b_deedOf)), (bq_dayOf, .inl (cI, 8, .inl b_dayOf)), (bq_likelyOf, .inl (cI, 8, .inl b_likelyOf)), (bq_kindOf, .inl (cI, 8, .inl b_kindOf)), (bq_settledOf, .inl (cI, 8, .inl b_settledOf))]) → va_S A s.heap H locs → lv_has ls 3 [(0, .ref oh), (1, .ref bh), (2, .int x2_50)] → f_X4_become_L50 b_told b_wax b_stick b_givers b_promises b_pan o_giverOf o_deedOf o_dayOf o_likelyOf o_kindOf o_settledOf b_told b_wax b_stick b_givers b_promises b_pan b_keeping b_giverOf b_deedOf b_dayOf b_likelyOf b_kindOf b_settledOf fuel o_keeping_50 x2_50 = some out → W p l e ({ frames := 0, cells := 0, slots := 0, locals := 0 } : Room) s m ([.ref oh, .ref bh] : List Value).toArray below meth c H locs 0 0 Q (F0 m 50 ls []) := by
    intro fuel
    induction fuel with
    | zero =>
      intro o_keeping_50 x2_50 H locs ls hP hD hS hl hf
      cases (show (none : Option (Int32 × Int32 × Int32 × Int32 × Int32 × Int32 × (Nat → Int32) × (Nat → Int32) × (Nat → Int32) × (Nat → Int32) × (Nat → Int32) × (Nat → Int32) × (Nat → Int32))) = some out from hf)
    | succ n_50 ih_50 =>
      intro o_keeping_50 x2_50 H locs ls hP hD hS hl hf
      have hf := (f_X4_become_L50_s b_told b_wax b_stick b_givers b_promises b_pan o_giverOf o_deedOf o_dayOf o_likelyOf o_kindOf o_settledOf b_told b_wax b_stick b_givers b_promises b_pan b_keeping b_giverOf b_deedOf b_dayOf b_likelyOf b_kindOf b_settledOf n_50 o_keeping_50 x2_50).symm.trans hf
      refine lv_iload_n hx hb dX4_become_50 rfl (lv_at hl 2 rfl) ?_
      refine lv_iconst (v := 4) hx hb dX4_become_51 (by decide) ?_
      refine lv_icmp_ge (tgt := 73) hx hb dX4_become_52 (by decide) (fun c2 => ?_) (fun c2 => ?_)
      · have hf := bs_t hf c2
        refine lv_iconst (v := 0) hx hb dX4_become_73 (by decide) ?_
        refine lv_istore_n (lv' := [(2, .int 0), (0, .ref oh), (1, .ref bh)]) hx hb dX4_become_74 rfl hl (by decide) rfl (fun ls hl => ?_)
        have L_75 : ∀ (fuel : Nat) (o_giverOf_75 : Nat → Int32) (o_deedOf_75 : Nat → Int32) (o_dayOf_75 : Nat → Int32) (o_likelyOf_75 : Nat → Int32) (o_kindOf_75 : Nat → Int32) (o_settledOf_75 : Nat → Int32) (x2_75 : Int32) (H : Heap) (locs : List Loc) (ls : Array Slot), va_P (dC, dI) vwCl ([(oh, .inr (4, [.int b_told, .int b_wax, .int b_stick, .int b_givers, .int b_promises, .int b_pan, .ref oq_keeping, .ref oq_giverOf, .ref oq_deedOf, .ref oq_dayOf, .ref oq_likelyOf, .ref oq_kindOf, .ref oq_settledOf])), (oq_keeping, .inl (cI, 4, .inl o_keeping_50)), (oq_giverOf, .inl (cI, 8, .inl o_giverOf_75)), (oq_deedOf, .inl (cI, 8, .inl o_deedOf_75)), (oq_dayOf, .inl (cI, 8, .inl o_dayOf_75)), (oq_likelyOf, .inl (cI, 8, .inl o_likelyOf_75)), (oq_kindOf, .inl (cI, 8, .inl o_kindOf_75)), (oq_settledOf, .inl (cI, 8, .inl o_settledOf_75)), (bh, .inr (4, [.int b_told, .int b_wax, .int b_stick, .int b_givers, .int b_promises, .int b_pan, .ref bq_keeping, .ref bq_giverOf, .ref bq_deedOf, .ref bq_dayOf, .ref bq_likelyOf, .ref bq_kindOf, .ref bq_settledOf])), (bq_keeping, .inl (cI, 4, .inl b_keeping)), (bq_giverOf, .inl (cI, 8, .inl b_giverOf)), (bq_deedOf, .inl (cI, 8, .inl b_deedOf)), (bq_dayOf, .inl (cI, 8, .inl b_dayOf)), (bq_likelyOf, .inl (cI, 8, .inl b_likelyOf)), (bq_kindOf, .inl (cI, 8, .inl b_kindOf)), (bq_settledOf, .inl (cI, 8, .inl b_settledOf))]) H → va_D A ([(oh, .inr (4, [.int b_told, .int b_wax, .int b_stick, .int b_givers, .int b_promises, .int b_pan, .ref oq_keeping, .ref oq_giverOf, .ref oq_deedOf, .ref oq_dayOf, .ref oq_likelyOf, .ref oq_kindOf, .ref oq_settledOf])), (oq_keeping, .inl (cI, 4, .inl o_keeping_50)), (oq_giverOf, .inl (cI, 8, .inl o_giverOf_75)), (oq_deedOf, .inl (cI, 8, .inl o_deedOf_75)), (oq_dayOf, .inl (cI, 8, .inl o_dayOf_75)), (oq_likelyOf, .inl (cI, 8, .inl o_likelyOf_75)), (oq_kindOf, .inl (cI, 8, .inl o_kindOf_75)), (oq_settledOf, .inl (cI, 8, .inl o_settledOf_75)), (bh, .inr (4, [.int b_told, .int b_wax, .int b_stick, .int b_givers, .int b_promises, .int b_pan, .ref bq_keeping, .ref bq_giverOf, .ref bq_deedOf, .ref bq_dayOf, .ref bq_likelyOf, .ref bq_kindOf, .ref bq_settledOf])), (bq_keeping, .inl (cI, 4, .inl b_keeping)), (bq_giverOf, .inl (cI, 8, .inl b_giverOf)), (bq_deedOf, .inl (cI, 8, .inl b_deedOf)), (bq_dayOf, .inl (cI, 8, .inl b_dayOf)), (bq_likelyOf, .inl (cI, 8, .inl b_likelyOf)), (bq_kindOf, .inl (cI, 8, .inl b_kindOf)), (bq_settledOf, .inl (cI, 8, .inl b_settledOf))]) → va_S A s.heap H locs → lv_has ls 3 [(0, .ref oh), (1, .ref bh), (2, .int x2_75)] → f_X4_become_L75 b_told b_wax b_stick b_givers b_promises b_pan o_keeping_50 b_told b_wax b_stick b_givers b_promises b_pan b_keeping b_giverOf b_deedOf b_dayOf b_likelyOf b_kindOf b_settledOf fuel o_giverOf_75 o_deedOf_75 o_dayOf_75 o_likelyOf_75 o_kindOf_75 o_settledOf_75 x2_75 = some out → W p l e ({ frames := 0, cells := 0, slots := 0, locals := 0 } : Room) s m ([.ref oh, .ref bh] : List Value).toArray below meth c H locs 0 0 Q (F0 m 75 ls []) := by
          intro fuel
          induction fuel with
          | zero =>
            intro o_giverOf_75 o_deedOf_75 o_dayOf_75 o_likelyOf_75 o_kindOf_75 o_settledOf_75 x2_75 H locs ls hP hD hS hl hf
            cases (show (none : Option (Int32 × Int32 × Int32 × Int32 × Int32 × Int32 × (Nat → Int32) × (Nat → Int32) × (Nat → Int32) × (Nat → Int32) × (Nat → Int32) × (Nat → Int32) × (Nat → Int32))) = some out from hf)
          | succ n_75 ih_75 =>
            intro o_giverOf_75 o_deedOf_75 o_dayOf_75 o_likelyOf_75 o_kindOf_75 o_settledOf_75 x2_75 H locs ls hP hD hS hl hf
            have hf := (f_X4_become_L75_s b_told b_wax b_stick b_givers b_promises b_pan o_keeping_50 b_told b_wax b_stick b_givers b_promises b_pan b_keeping b_giverOf b_deedOf b_dayOf b_likelyOf b_kindOf b_settledOf n_75 o_giverOf_75 o_deedOf_75 o_dayOf_75 o_likelyOf_75 o_kindOf_75 o_settledOf_75 x2_75).symm.trans hf
            refine lv_iload_n hx hb dX4_become_75 rfl (lv_at hl 2 rfl) ?_
            refine lv_bipush (v := 8) hx hb dX4_become_76 (by decide) ?_
            refine lv_icmp_ge (tgt := 159) hx hb dX4_become_78 (by decide) (fun c3 => ?_) (fun c3 => ?_)
            · have hf := bs_t hf c3
              obtain rfl := Option.some.inj hf
              exact hret H locs _ _ hP hS dX4_become_159
            · have hf := bs_f hf c3
              refine lv_aload_n hx hb dX4_become_81 rfl (lv_at hl 0 rfl) ?_
              refine va_get (D := (dC, dI)) (ci := 4) (v := .ref oq_giverOf) (C := RX4) (T := TX4) (N := 13) hx hb hts hin4 hown hK hP 0 rfl rfl 7 (by decide) k15 (fun _ h9 => h9) rfl dX4_become_82 ?_
              refine lv_iload_n hx hb dX4_become_85 rfl (lv_at hl 2 rfl) ?_
              refine lv_aload_n hx hb dX4_become_86 rfl (lv_at hl 1 rfl) ?_
              refine va_get (D := (dC, dI)) (ci := 4) (v := .ref bq_giverOf) (C := RX4) (T := TX4) (N := 13) hx hb hts hin4 hown hK hP 8 rfl rfl 7 (by decide) k15 (fun _ h9 => h9) rfl dX4_become_87 ?_
              refine lv_iload_n hx hb dX4_become_90 rfl (lv_at hl 2 rfl) ?_
              obtain ⟨g4, hf⟩ := bs_g hf
              refine va_iald hx hb hK hP 10 0 rfl rfl (bs_inV g4) dX4_become_91 ?_
              obtain ⟨g5, hf⟩ := bs_g hf
              refine va_iast hx hb hK hP hD hS 2 0 rfl rfl (bs_inV g5) dX4_become_92 (fun H locs hP hD hS => ?_)
              have hP : va_P (dC, dI) vwCl ([(oh, .inr (4, [.int b_told, .int b_wax, .int b_stick, .int b_givers, .int b_promises, .int b_pan, .ref oq_keeping, .ref oq_giverOf, .ref oq_deedOf, .ref oq_dayOf, .ref oq_likelyOf, .ref oq_kindOf, .ref oq_settledOf])), (oq_keeping, .inl (cI, 4, .inl o_keeping_50)), (oq_giverOf, .inl (cI, 8, .inl (upd o_giverOf_75 x2_75.toNatClampNeg (b_giverOf x2_75.toNatClampNeg)))), (oq_deedOf, .inl (cI, 8, .inl o_deedOf_75)), (oq_dayOf, .inl (cI, 8, .inl o_dayOf_75)), (oq_likelyOf, .inl (cI, 8, .inl o_likelyOf_75)), (oq_kindOf, .inl (cI, 8, .inl o_kindOf_75)), (oq_settledOf, .inl (cI, 8, .inl o_settledOf_75)), (bh, .inr (4, [.int b_told, .int b_wax, .int b_stick, .int b_givers, .int b_promises, .int b_pan, .ref bq_keeping, .ref bq_giverOf, .ref bq_deedOf, .ref bq_dayOf, .ref bq_likelyOf, .ref bq_kindOf, .ref bq_settledOf])), (bq_keeping, .inl (cI, 4, .inl b_keeping)), (bq_giverOf, .inl (cI, 8, .inl b_giverOf)), (bq_deedOf, .inl (cI, 8, .inl b_deedOf)), (bq_dayOf, .inl (cI, 8, .inl b_dayOf)), (bq_likelyOf, .inl (cI, 8, .inl b_likelyOf)), (bq_kindOf, .inl (cI, 8, .inl b_kindOf)), (bq_settledOf, .inl (cI, 8, .inl b_settledOf))]) H := hP
              have hD : va_D A ([(oh, .inr (4, [.int b_told, .int b_wax, .int b_stick, .int b_givers, .int b_promises, .int b_pan, .ref oq_keeping, .ref oq_giverOf, .ref oq_deedOf, .ref oq_dayOf, .ref oq_likelyOf, .ref oq_kindOf, .ref oq_settledOf])), (oq_keeping, .inl (cI, 4, .inl o_keeping_50)), (oq_giverOf, .inl (cI, 8, .inl (upd o_giverOf_75 x2_75.toNatClampNeg (b_giverOf x2_75.toNatClampNeg)))), (oq_deedOf, .inl (cI, 8, .inl o_deedOf_75)), (oq_dayOf, .inl (cI, 8, .inl o_dayOf_75)), (oq_likelyOf, .inl (cI, 8, .inl o_likelyOf_75)), (oq_kindOf, .inl (cI, 8, .inl o_kindOf_75)), (oq_settledOf, .inl (cI, 8, .inl o_settledOf_75)), (bh, .inr (4, [.int b_told, .int b_wax, .int b_stick, .int b_givers, .int b_promises, .int b_pan, .ref bq_keeping, .ref bq_giverOf, .ref bq_deedOf, .ref bq_dayOf, .ref bq_likelyOf, .ref bq_kindOf, .ref bq_settledOf])), (bq_keeping, .inl (cI, 4, .inl b_keeping)), (bq_giverOf, .inl (cI, 8, .inl b_giverOf)), (bq_deedOf, .inl (cI, 8, .inl b_deedOf)), (bq_dayOf, .inl (cI, 8, .inl b_dayOf)), (bq_likelyOf, .inl (cI, 8, .inl b_likelyOf)), (bq_kindOf, .inl (cI, 8, .inl b_kindOf)), (bq_settledOf, .inl (cI, 8, .inl b_settledOf))]) := hD
              refine lv_aload_n hx hb dX4_become_93 rfl (lv_at hl 0 rfl) ?_
              refine va_get (D := (dC, dI)) (ci := 4) (v := .ref oq_deedOf) (C := RX4) (T := TX4) (N := 13) hx hb hts hin4 hown hK hP 0 rfl rfl 8 (by decide) k18 (fun _ h9 => h9) rfl dX4_become_94 ?_
              refine lv_iload_n hx hb dX4_become_97 rfl (lv_at hl 2 rfl) ?_
              refine lv_aload_n hx hb dX4_become_98 rfl (lv_at hl 1 rfl) ?_
              refine va_get (D := (dC, dI)) (ci := 4) (v := .ref bq_deedOf) (C := RX4) (T := TX4) (N := 13) hx hb hts hin4 hown hK hP 8 rfl rfl 8 (by decide) k18 (fun _ h9 => h9) rfl dX4_become_99 ?_
              refine lv_iload_n hx hb dX4_become_102 rfl (lv_at hl 2 rfl) ?_
              obtain ⟨g6, hf⟩ := bs_g hf
              refine va_iald hx hb hK hP 11 0 rfl rfl (bs_inV g6) dX4_become_103 ?_
              obtain ⟨g7, hf⟩ := bs_g hf
              refine va_iast hx hb hK hP hD hS 3 0 rfl rfl (bs_inV g7) dX4_become_104 (fun H locs hP hD hS => ?_)
              have hP : va_P (dC, dI) vwCl ([(oh, .inr (4, [.int b_told, .int b_wax, .int b_stick, .int b_givers, .int b_promises, .int b_pan, .ref oq_keeping, .ref oq_giverOf, .ref oq_deedOf, .ref oq_dayOf, .ref oq_likelyOf, .ref oq_kindOf, .ref oq_settledOf])), (oq_keeping, .inl (cI, 4, .inl o_keeping_50)), (oq_giverOf, .inl (cI, 8, .inl (upd o_giverOf_75 x2_75.toNatClampNeg (b_giverOf x2_75.toNatClampNeg)))), (oq_deedOf, .inl (cI, 8, .inl (upd o_deedOf_75 x2_75.toNatClampNeg (b_deedOf x2_75.toNatClampNeg)))), (oq_dayOf, .inl (cI, 8, .inl o_dayOf_75)), (oq_likelyOf, .inl (cI, 8, .inl o_likelyOf_75)), (oq_kindOf, .inl (cI, 8, .inl o_kindOf_75)), (oq_settledOf, .inl (cI, 8, .inl o_settledOf_75)), (bh, .inr (4, [.int b_told, .int b_wax, .int b_stick, .int b_givers, .int b_promises, .int b_pan, .ref bq_keeping, .ref bq_giverOf, .ref bq_deedOf, .ref bq_dayOf, .ref bq_likelyOf, .ref bq_kindOf, .ref bq_settledOf])), (bq_keeping, .inl (cI, 4, .inl b_keeping)), (bq_giverOf, .inl (cI, 8, .inl b_giverOf)), (bq_deedOf, .inl (cI, 8, .inl b_deedOf)), (bq_dayOf, .inl (cI, 8, .inl b_dayOf)), (bq_likelyOf, .inl (cI, 8, .inl b_likelyOf)), (bq_kindOf, .inl (cI, 8, .inl b_kindOf)), (bq_settledOf, .inl (cI, 8, .inl b_settledOf))]) H := hP
              have hD : va_D A ([(oh, .inr (4, [.int b_told, .int b_wax, .int b_stick, .int b_givers, .int b_promises, .int b_pan, .ref oq_keeping, .ref oq_giverOf, .ref oq_deedOf, .ref oq_dayOf, .ref oq_likelyOf, .ref oq_kindOf, .ref oq_settledOf])), (oq_keeping, .inl (cI, 4, .inl o_keeping_50)), (oq_giverOf, .inl (cI, 8, .inl (upd o_giverOf_75 x2_75.toNatClampNeg (b_giverOf x2_75.toNatClampNeg)))), (oq_deedOf, .inl (cI, 8, .inl (upd o_deedOf_75 x2_75.toNatClampNeg (b_deedOf x2_75.toNatClampNeg)))), (oq_dayOf, .inl (cI, 8, .inl o_dayOf_75)), (oq_likelyOf, .inl (cI, 8, .inl o_likelyOf_75)), (oq_kindOf, .inl (cI, 8, .inl o_kindOf_75)), (oq_settledOf, .inl (cI, 8, .inl o_settledOf_75)), (bh, .inr (4, [.int b_told, .int b_wax, .int b_stick, .int b_givers, .int b_promises, .int b_pan, .ref bq_keeping, .ref bq_giverOf, .ref bq_deedOf, .ref bq_dayOf, .ref bq_likelyOf, .ref bq_kindOf, .ref bq_settledOf])), (bq_keeping, .inl (cI, 4, .inl b_keeping)), (bq_giverOf, .inl (cI, 8, .inl b_giverOf)), (bq_deedOf, .inl (cI, 8, .inl b_deedOf)), (bq_dayOf, .inl (cI, 8, .inl b_dayOf)), (bq_likelyOf, .inl (cI, 8, .inl b_likelyOf)), (bq_kindOf, .inl (cI, 8, .inl b_kindOf)), (bq_settledOf, .inl (cI, 8, .inl b_settledOf))]) := hD
              refine lv_aload_n hx hb dX4_become_105 rfl (lv_at hl 0 rfl) ?_
              refine va_get (D := (dC, dI)) (ci := 4) (v := .ref oq_dayOf) (C := RX4) (T := TX4) (N := 13) hx hb hts hin4 hown hK hP 0 rfl rfl 9 (by decide) k21 (fun _ h9 => h9) rfl dX4_become_106 ?_
              refine lv_iload_n hx hb dX4_become_109 rfl (lv_at hl 2 rfl) ?_
              refine lv_aload_n hx hb dX4_become_110 rfl (lv_at hl 1 rfl) ?_
              refine va_get (D := (dC, dI)) (ci := 4) (v := .ref bq_dayOf) (C := RX4) (T := TX4) (N := 13) hx hb hts hin4 hown hK hP 8 rfl rfl 9 (by decide) k21 (fun _ h9 => h9) rfl dX4_become_111 ?_
              refine lv_iload_n hx hb dX4_become_114 rfl (lv_at hl 2 rfl) ?_
              obtain ⟨g8, hf⟩ := bs_g hf
              refine va_iald hx hb hK hP 12 0 rfl rfl (bs_inV g8) dX4_become_115 ?_
              obtain ⟨g9, hf⟩ := bs_g hf
              refine va_iast hx hb hK hP hD hS 4 0 rfl rfl (bs_inV g9) dX4_become_116 (fun H locs hP hD hS => ?_)
              have hP : va_P (dC, dI) vwCl ([(oh, .inr (4, [.int b_told, .int b_wax, .int b_stick, .int b_givers, .int b_promises, .int b_pan, .ref oq_keeping, .ref oq_giverOf, .ref oq_deedOf, .ref oq_dayOf, .ref oq_likelyOf, .ref oq_kindOf, .ref oq_settledOf])), (oq_keeping, .inl (cI, 4, .inl o_keeping_50)), (oq_giverOf, .inl (cI, 8, .inl (upd o_giverOf_75 x2_75.toNatClampNeg (b_giverOf x2_75.toNatClampNeg)))), (oq_deedOf, .inl (cI, 8, .inl (upd o_deedOf_75 x2_75.toNatClampNeg (b_deedOf x2_75.toNatClampNeg)))), (oq_dayOf, .inl (cI, 8, .inl (upd o_dayOf_75 x2_75.toNatClampNeg (b_dayOf x2_75.toNatClampNeg)))), (oq_likelyOf, .inl (cI, 8, .inl o_likelyOf_75)), (oq_kindOf, .inl (cI, 8, .inl o_kindOf_75)), (oq_settledOf, .inl (cI, 8, .inl o_settledOf_75)), (bh, .inr (4, [.int b_told, .int b_wax, .int b_stick, .int b_givers, .int b_promises, .int b_pan, .ref bq_keeping, .ref bq_giverOf, .ref bq_deedOf, .ref bq_dayOf, .ref bq_likelyOf, .ref bq_kindOf, .ref bq_settledOf])), (bq_keeping, .inl (cI, 4, .inl b_keeping)), (bq_giverOf, .inl (cI, 8, .inl b_giverOf)), (bq_deedOf, .inl (cI, 8, .inl b_deedOf)), (bq_dayOf, .inl (cI, 8, .inl b_dayOf)), (bq_likelyOf, .inl (cI, 8, .inl b_likelyOf)), (bq_kindOf, .inl (cI, 8, .inl b_kindOf)), (bq_settledOf, .inl (cI, 8, .inl b_settledOf))]) H := hP
              have hD : va_D A ([(oh, .inr (4, [.int b_told, .int b_wax, .int b_stick, .int b_givers, .int b_promises, .int b_pan, .ref oq_keeping, .ref oq_giverOf, .ref oq_deedOf, .ref oq_dayOf, .ref oq_likelyOf, .ref oq_kindOf, .ref oq_settledOf])), (oq_keeping, .inl (cI, 4, .inl o_keeping_50)), (oq_giverOf, .inl (cI, 8, .inl (upd o_giverOf_75 x2_75.toNatClampNeg (b_giverOf x2_75.toNatClampNeg)))), (oq_deedOf, .inl (cI, 8, .inl (upd o_deedOf_75 x2_75.toNatClampNeg (b_deedOf x2_75.toNatClampNeg)))), (oq_dayOf, .inl (cI, 8, .inl (upd o_dayOf_75 x2_75.toNatClampNeg (b_dayOf x2_75.toNatClampNeg)))), (oq_likelyOf, .inl (cI, 8, .inl o_likelyOf_75)), (oq_kindOf, .inl (cI, 8, .inl o_kindOf_75)), (oq_settledOf, .inl (cI, 8, .inl o_settledOf_75)), (bh, .inr (4, [.int b_told, .int b_wax, .int b_stick, .int b_givers, .int b_promises, .int b_pan, .ref bq_keeping, .ref bq_giverOf, .ref bq_deedOf, .ref bq_dayOf, .ref bq_likelyOf, .ref bq_kindOf, .ref bq_settledOf])), (bq_keeping, .inl (cI, 4, .inl b_keeping)), (bq_giverOf, .inl (cI, 8, .inl b_giverOf)), (bq_deedOf, .inl (cI, 8, .inl b_deedOf)), (bq_dayOf, .inl (cI, 8, .inl b_dayOf)), (bq_likelyOf, .inl (cI, 8, .inl b_likelyOf)), (bq_kindOf, .inl (cI, 8, .inl b_kindOf)), (bq_settledOf, .inl (cI, 8, .inl b_settledOf))]) := hD
              refine lv_aload_n hx hb dX4_become_117 rfl (lv_at hl 0 rfl) ?_
              refine va_get (D := (dC, dI)) (ci := 4) (v := .ref oq_likelyOf) (C := RX4) (T := TX4) (N := 13) hx hb hts hin4 hown hK hP 0 rfl rfl 10 (by decide) k24 (fun _ h9 => h9) rfl dX4_become_118 ?_
              refine lv_iload_n hx hb dX4_become_121 rfl (lv_at hl 2 rfl) ?_
              refine lv_aload_n hx hb dX4_become_122 rfl (lv_at hl 1 rfl) ?_
              refine va_get (D := (dC, dI)) (ci := 4) (v := .ref bq_likelyOf) (C := RX4) (T := TX4) (N := 13) hx hb hts hin4 hown hK hP 8 rfl rfl 10 (by decide) k24 (fun _ h9 => h9) rfl dX4_become_123 ?_
              refine lv_iload_n hx hb dX4_become_126 rfl (lv_at hl 2 rfl) ?_
              obtain ⟨g10, hf⟩ := bs_g hf
              refine va_iald hx hb hK hP 13 0 rfl rfl (bs_inV g10) dX4_become_127 ?_
              obtain ⟨g11, hf⟩ := bs_g hf
              refine va_iast hx hb hK hP hD hS 5 0 rfl rfl (bs_inV g11) dX4_become_128 (fun H locs hP hD hS => ?_)
              have hP : va_P (dC, dI) vwCl ([(oh, .inr (4, [.int b_told, .int b_wax, .int b_stick, .int b_givers, .int b_promises, .int b_pan, .ref oq_keeping, .ref oq_giverOf, .ref oq_deedOf, .ref oq_dayOf, .ref oq_likelyOf, .ref oq_kindOf, .ref oq_settledOf])), (oq_keeping, .inl (cI, 4, .inl o_keeping_50)), (oq_giverOf, .inl (cI, 8, .inl (upd o_giverOf_75 x2_75.toNatClampNeg (b_giverOf x2_75.toNatClampNeg)))), (oq_deedOf, .inl (cI, 8, .inl (upd o_deedOf_75 x2_75.toNatClampNeg (b_deedOf x2_75.toNatClampNeg)))), (oq_dayOf, .inl (cI, 8, .inl (upd o_dayOf_75 x2_75.toNatClampNeg (b_dayOf x2_75.toNatClampNeg)))), (oq_likelyOf, .inl (cI, 8, .inl (upd o_likelyOf_75 x2_75.toNatClampNeg (b_likelyOf x2_75.toNatClampNeg)))), (oq_kindOf, .inl (cI, 8, .inl o_kindOf_75)), (oq_settledOf, .inl (cI, 8, .inl o_settledOf_75)), (bh, .inr (4, [.int b_told, .int b_wax, .int b_stick, .int b_givers, .int b_promises, .int b_pan, .ref bq_keeping, .ref bq_giverOf, .ref bq_deedOf, .ref bq_dayOf, .ref bq_likelyOf, .ref bq_kindOf, .ref bq_settledOf])), (bq_keeping, .inl (cI, 4, .inl b_keeping)), (bq_giverOf, .inl (cI, 8, .inl b_giverOf)), (bq_deedOf, .inl (cI, 8, .inl b_deedOf)), (bq_dayOf, .inl (cI, 8, .inl b_dayOf)), (bq_likelyOf, .inl (cI, 8, .inl b_likelyOf)), (bq_kindOf, .inl (cI, 8, .inl b_kindOf)), (bq_settledOf, .inl (cI, 8, .inl b_settledOf))]) H := hP
              have hD : va_D A ([(oh, .inr (4, [.int b_told, .int b_wax, .int b_stick, .int b_givers, .int b_promises, .int b_pan, .ref oq_keeping, .ref oq_giverOf, .ref oq_deedOf, .ref oq_dayOf, .ref oq_likelyOf, .ref oq_kindOf, .ref oq_settledOf])), (oq_keeping, .inl (cI, 4, .inl o_keeping_50)), (oq_giverOf, .inl (cI, 8, .inl (upd o_giverOf_75 x2_75.toNatClampNeg (b_giverOf x2_75.toNatClampNeg)))), (oq_deedOf, .inl (cI, 8, .inl (upd o_deedOf_75 x2_75.toNatClampNeg (b_deedOf x2_75.toNatClampNeg)))), (oq_dayOf, .inl (cI, 8, .inl (upd o_dayOf_75 x2_75.toNatClampNeg (b_dayOf x2_75.toNatClampNeg)))), (oq_likelyOf, .inl (cI, 8, .inl (upd o_likelyOf_75 x2_75.toNatClampNeg (b_likelyOf x2_75.toNatClampNeg)))), (oq_kindOf, .inl (cI, 8, .inl o_kindOf_75)), (oq_settledOf, .inl (cI, 8, .inl o_settledOf_75)), (bh, .inr (4, [.int b_told, .int b_wax, .int b_stick, .int b_givers, .int b_promises, .int b_pan, .ref bq_keeping, .ref bq_giverOf, .ref bq_deedOf, .ref bq_dayOf, .ref bq_likelyOf, .ref bq_kindOf, .ref bq_settledOf])), (bq_keeping, .inl (cI, 4, .inl b_keeping)), (bq_giverOf, .inl (cI, 8, .inl b_giverOf)), (bq_deedOf, .inl (cI, 8, .inl b_deedOf)), (bq_dayOf, .inl (cI, 8, .inl b_dayOf)), (bq_likelyOf, .inl (cI, 8, .inl b_likelyOf)), (bq_kindOf, .inl (cI, 8, .inl b_kindOf)), (bq_settledOf, .inl (cI, 8, .inl b_settledOf))]) := hD
              refine lv_aload_n hx hb dX4_become_129 rfl (lv_at hl 0 rfl) ?_
              refine va_get (D := (dC, dI)) (ci := 4) (v := .ref oq_kindOf) (C := RX4) (T := TX4) (N := 13) hx hb hts hin4 hown hK hP 0 rfl rfl 11 (by decide) k27 (fun _ h9 => h9) rfl dX4_become_130 ?_
              refine lv_iload_n hx hb dX4_become_133 rfl (lv_at hl 2 rfl) ?_
              refine lv_aload_n hx hb dX4_become_134 rfl (lv_at hl 1 rfl) ?_
              refine va_get (D := (dC, dI)) (ci := 4) (v := .ref bq_kindOf) (C := RX4) (T := TX4) (N := 13) hx hb hts hin4 hown hK hP 8 rfl rfl 11 (by decide) k27 (fun _ h9 => h9) rfl dX4_become_135 ?_
              refine lv_iload_n hx hb dX4_become_138 rfl (lv_at hl 2 rfl) ?_
              obtain ⟨g12, hf⟩ := bs_g hf
              refine va_iald hx hb hK hP 14 0 rfl rfl (bs_inV g12) dX4_become_139 ?_
              obtain ⟨g13, hf⟩ := bs_g hf
              refine va_iast hx hb hK hP hD hS 6 0 rfl rfl (bs_inV g13) dX4_become_140 (fun H locs hP hD hS => ?_)
              have hP : va_P (dC, dI) vwCl ([(oh, .inr (4, [.int b_told, .int b_wax, .int b_stick, .int b_givers, .int b_promises, .int b_pan, .ref oq_keeping, .ref oq_giverOf, .ref oq_deedOf, .ref oq_dayOf, .ref oq_likelyOf, .ref oq_kindOf, .ref oq_settledOf])), (oq_keeping, .inl (cI, 4, .inl o_keeping_50)), (oq_giverOf, .inl (cI, 8, .inl (upd o_giverOf_75 x2_75.toNatClampNeg (b_giverOf x2_75.toNatClampNeg)))), (oq_deedOf, .inl (cI, 8, .inl (upd o_deedOf_75 x2_75.toNatClampNeg (b_deedOf x2_75.toNatClampNeg)))), (oq_dayOf, .inl (cI, 8, .inl (upd o_dayOf_75 x2_75.toNatClampNeg (b_dayOf x2_75.toNatClampNeg)))), (oq_likelyOf, .inl (cI, 8, .inl (upd o_likelyOf_75 x2_75.toNatClampNeg (b_likelyOf x2_75.toNatClampNeg)))), (oq_kindOf, .inl (cI, 8, .inl (upd o_kindOf_75 x2_75.toNatClampNeg (b_kindOf x2_75.toNatClampNeg)))), (oq_settledOf, .inl (cI, 8, .inl o_settledOf_75)), (bh, .inr (4, [.int b_told, .int b_wax, .int b_stick, .int b_givers, .int b_promises, .int b_pan, .ref bq_keeping, .ref bq_giverOf, .ref bq_deedOf, .ref bq_dayOf, .ref bq_likelyOf, .ref bq_kindOf, .ref bq_settledOf])), (bq_keeping, .inl (cI, 4, .inl b_keeping)), (bq_giverOf, .inl (cI, 8, .inl b_giverOf)), (bq_deedOf, .inl (cI, 8, .inl b_deedOf)), (bq_dayOf, .inl (cI, 8, .inl b_dayOf)), (bq_likelyOf, .inl (cI, 8, .inl b_likelyOf)), (bq_kindOf, .inl (cI, 8, .inl b_kindOf)), (bq_settledOf, .inl (cI, 8, .inl b_settledOf))]) H := hP
              have hD : va_D A ([(oh, .inr (4, [.int b_told, .int b_wax, .int b_stick, .int b_givers, .int b_promises, .int b_pan, .ref oq_keeping, .ref oq_giverOf, .ref oq_deedOf, .ref oq_dayOf, .ref oq_likelyOf, .ref oq_kindOf, .ref oq_settledOf])), (oq_keeping, .inl (cI, 4, .inl o_keeping_50)), (oq_giverOf, .inl (cI, 8, .inl (upd o_giverOf_75 x2_75.toNatClampNeg (b_giverOf x2_75.toNatClampNeg)))), (oq_deedOf, .inl (cI, 8, .inl (upd o_deedOf_75 x2_75.toNatClampNeg (b_deedOf x2_75.toNatClampNeg)))), (oq_dayOf, .inl (cI, 8, .inl (upd o_dayOf_75 x2_75.toNatClampNeg (b_dayOf x2_75.toNatClampNeg)))), (oq_likelyOf, .inl (cI, 8, .inl (upd o_likelyOf_75 x2_75.toNatClampNeg (b_likelyOf x2_75.toNatClampNeg)))), (oq_kindOf, .inl (cI, 8, .inl (upd o_kindOf_75 x2_75.toNatClampNeg (b_kindOf x2_75.toNatClampNeg)))), (oq_settledOf, .inl (cI, 8, .inl o_settledOf_75)), (bh, .inr (4, [.int b_told, .int b_wax, .int b_stick, .int b_givers, .int b_promises, .int b_pan, .ref bq_keeping, .ref bq_giverOf, .ref bq_deedOf, .ref bq_dayOf, .ref bq_likelyOf, .ref bq_kindOf, .ref bq_settledOf])), (bq_keeping, .inl (cI, 4, .inl b_keeping)), (bq_giverOf, .inl (cI, 8, .inl b_giverOf)), (bq_deedOf, .inl (cI, 8, .inl b_deedOf)), (bq_dayOf, .inl (cI, 8, .inl b_dayOf)), (bq_likelyOf, .inl (cI, 8, .inl b_likelyOf)), (bq_kindOf, .inl (cI, 8, .inl b_kindOf)), (bq_settledOf, .inl (cI, 8, .inl b_settledOf))]) := hD
              refine lv_aload_n hx hb dX4_become_141 rfl (lv_at hl 0 rfl) ?_
              refine va_get (D := (dC, dI)) (ci := 4) (v := .ref oq_settledOf) (C := RX4) (T := TX4) (N := 13) hx hb hts hin4 hown hK hP 0 rfl rfl 12 (by decide) k30 (fun _ h9 => h9) rfl dX4_become_142 ?_
              refine lv_iload_n hx hb dX4_become_145 rfl (lv_at hl 2 rfl) ?_
              refine lv_aload_n hx hb dX4_become_146 rfl (lv_at hl 1 rfl) ?_
              refine va_get (D := (dC, dI)) (ci := 4) (v := .ref bq_settledOf) (C := RX4) (T := TX4) (N := 13) hx hb hts hin4 hown hK hP 8 rfl rfl 12 (by decide) k30 (fun _ h9 => h9) rfl dX4_become_147 ?_
              refine lv_iload_n hx hb dX4_become_150 rfl (lv_at hl 2 rfl) ?_
              obtain ⟨g14, hf⟩ := bs_g hf
              refine va_iald hx hb hK hP 15 0 rfl rfl (bs_inV g14) dX4_become_151 ?_
              obtain ⟨g15, hf⟩ := bs_g hf
              refine va_iast hx hb hK hP hD hS 7 0 rfl rfl (bs_inV g15) dX4_become_152 (fun H locs hP hD hS => ?_)
              have hP : va_P (dC, dI) vwCl ([(oh, .inr (4, [.int b_told, .int b_wax, .int b_stick, .int b_givers, .int b_promises, .int b_pan, .ref oq_keeping, .ref oq_giverOf, .ref oq_deedOf, .ref oq_dayOf, .ref oq_likelyOf, .ref oq_kindOf, .ref oq_settledOf])), (oq_keeping, .inl (cI, 4, .inl o_keeping_50)), (oq_giverOf, .inl (cI, 8, .inl (upd o_giverOf_75 x2_75.toNatClampNeg (b_giverOf x2_75.toNatClampNeg)))), (oq_deedOf, .inl (cI, 8, .inl (upd o_deedOf_75 x2_75.toNatClampNeg (b_deedOf x2_75.toNatClampNeg)))), (oq_dayOf, .inl (cI, 8, .inl (upd o_dayOf_75 x2_75.toNatClampNeg (b_dayOf x2_75.toNatClampNeg)))), (oq_likelyOf, .inl (cI, 8, .inl (upd o_likelyOf_75 x2_75.toNatClampNeg (b_likelyOf x2_75.toNatClampNeg)))), (oq_kindOf, .inl (cI, 8, .inl (upd o_kindOf_75 x2_75.toNatClampNeg (b_kindOf x2_75.toNatClampNeg)))), (oq_settledOf, .inl (cI, 8, .inl (upd o_settledOf_75 x2_75.toNatClampNeg (b_settledOf x2_75.toNatClampNeg)))), (bh, .inr (4, [.int b_told, .int b_wax, .int b_stick, .int b_givers, .int b_promises, .int b_pan, .ref bq_keeping, .ref bq_giverOf, .ref bq_deedOf, .ref bq_dayOf, .ref bq_likelyOf, .ref bq_kindOf, .ref bq_settledOf])), (bq_keeping, .inl (cI, 4, .inl b_keeping)), (bq_giverOf, .inl (cI, 8, .inl b_giverOf)), (bq_deedOf, .inl (cI, 8, .inl b_deedOf)), (bq_dayOf, .inl (cI, 8, .inl b_dayOf)), (bq_likelyOf, .inl (cI, 8, .inl b_likelyOf)), (bq_kindOf, .inl (cI, 8, .inl b_kindOf)), (bq_settledOf, .inl (cI, 8, .inl b_settledOf))]) H := hP
              have hD : va_D A ([(oh, .inr (4, [.int b_told, .int b_wax, .int b_stick, .int b_givers, .int b_promises, .int b_pan, .ref oq_keeping, .ref oq_giverOf, .ref oq_deedOf, .ref oq_dayOf, .ref oq_likelyOf, .ref oq_kindOf, .ref oq_settledOf])), (oq_keeping, .inl (cI, 4, .inl o_keeping_50)), (oq_giverOf, .inl (cI, 8, .inl (upd o_giverOf_75 x2_75.toNatClampNeg (b_giverOf x2_75.toNatClampNeg)))), (oq_deedOf, .inl (cI, 8, .inl (upd o_deedOf_75 x2_75.toNatClampNeg (b_deedOf x2_75.toNatClampNeg)))), (oq_dayOf, .inl (cI, 8, .inl (upd o_dayOf_75 x2_75.toNatClampNeg (b_dayOf x2_75.toNatClampNeg)))), (oq_likelyOf, .inl (cI, 8, .inl (upd o_likelyOf_75 x2_75.toNatClampNeg (b_likelyOf x2_75.toNatClampNeg)))), (oq_kindOf, .inl (cI, 8, .inl (upd o_kindOf_75 x2_75.toNatClampNeg (b_kindOf x2_75.toNatClampNeg)))), (oq_settledOf, .inl (cI, 8, .inl (upd o_settledOf_75 x2_75.toNatClampNeg (b_settledOf x2_75.toNatClampNeg)))), (bh, .inr (4, [.int b_told, .int b_wax, .int b_stick, .int b_givers, .int b_promises, .int b_pan, .ref bq_keeping, .ref bq_giverOf, .ref bq_deedOf, .ref bq_dayOf, .ref bq_likelyOf, .ref bq_kindOf, .ref bq_settledOf])), (bq_keeping, .inl (cI, 4, .inl b_keeping)), (bq_giverOf, .inl (cI, 8, .inl b_giverOf)), (bq_deedOf, .inl (cI, 8, .inl b_deedOf)), (bq_dayOf, .inl (cI, 8, .inl b_dayOf)), (bq_likelyOf, .inl (cI, 8, .inl b_likelyOf)), (bq_kindOf, .inl (cI, 8, .inl b_kindOf)), (bq_settledOf, .inl (cI, 8, .inl b_settledOf))]) := hD
              refine lv_iinc (v := x2_75 + 1) (lv' := [(2, .int (x2_75 + 1)), (0, .ref oh), (1, .ref bh)]) hx hb dX4_become_153 hl (k := 2) rfl rfl (by decide) rfl (fun ls hl => ?_)
              refine lv_goto (tgt := 75) hx hb dX4_become_156 (by decide) ?_
              exact ih_75 (upd o_giverOf_75 x2_75.toNatClampNeg (b_giverOf x2_75.toNatClampNeg)) (upd o_deedOf_75 x2_75.toNatClampNeg (b_deedOf x2_75.toNatClampNeg)) (upd o_dayOf_75 x2_75.toNatClampNeg (b_dayOf x2_75.toNatClampNeg)) (upd o_likelyOf_75 x2_75.toNatClampNeg (b_likelyOf x2_75.toNatClampNeg)) (upd o_kindOf_75 x2_75.toNatClampNeg (b_kindOf x2_75.toNatClampNeg)) (upd o_settledOf_75 x2_75.toNatClampNeg (b_settledOf x2_75.toNatClampNeg)) (x2_75 + 1) H locs ls hP hD hS (lv_sub hl [1, 2, 0] rfl) hf
        exact L_75 bs_F o_giverOf o_deedOf o_dayOf o_likelyOf o_kindOf o_settledOf (0 : Int32) H locs ls hP hD hS (lv_sub hl [1, 2, 0] rfl) hf
      · have hf := bs_f hf c2
        refine lv_aload_n hx hb dX4_become_55 rfl (lv_at hl 0 rfl) ?_
        refine va_get (D := (dC, dI)) (ci := 4) (v := .ref oq_keeping) (C := RX4) (T := TX4) (N := 13) hx hb hts hin4 hown hK hP 0 rfl rfl 6 (by decide) k9 (fun _ h9 => h9) rfl dX4_become_56 ?_
        refine lv_iload_n hx hb dX4_become_59 rfl (lv_at hl 2 rfl) ?_
        refine lv_aload_n hx hb dX4_become_60 rfl (lv_at hl 1 rfl) ?_
        refine va_get (D := (dC, dI)) (ci := 4) (v := .ref bq_keeping) (C := RX4) (T := TX4) (N := 13) hx hb hts hin4 hown hK hP 8 rfl rfl 6 (by decide) k9 (fun _ h9 => h9) rfl dX4_become_61 ?_
        refine lv_iload_n hx hb dX4_become_64 rfl (lv_at hl 2 rfl) ?_
        obtain ⟨g16, hf⟩ := bs_g hf
        refine va_iald hx hb hK hP 9 0 rfl rfl (bs_inV g16) dX4_become_65 ?_
        obtain ⟨g17, hf⟩ := bs_g hf
        refine va_iast hx hb hK hP hD hS 1 0 rfl rfl (bs_inV g17) dX4_become_66 (fun H locs hP hD hS => ?_)
        have hP : va_P (dC, dI) vwCl ([(oh, .inr (4, [.int b_told, .int b_wax, .int b_stick, .int b_givers, .int b_promises, .int b_pan, .ref oq_keeping, .ref oq_giverOf, .ref oq_deedOf, .ref oq_dayOf, .ref oq_likelyOf, .ref oq_kindOf, .ref oq_settledOf])), (oq_keeping, .inl (cI, 4, .inl (upd o_keeping_50 x2_50.toNatClampNeg (b_keeping x2_50.toNatClampNeg)))), (oq_giverOf, .inl (cI, 8, .inl o_giverOf)), (oq_deedOf, .inl (cI, 8, .inl o_deedOf)), (oq_dayOf, .inl (cI, 8, .inl o_dayOf)), (oq_likelyOf, .inl (cI, 8, .inl o_likelyOf)), (oq_kindOf, .inl (cI, 8, .inl o_kindOf)), (oq_settledOf, .inl (cI, 8, .inl o_settledOf)), (bh, .inr (4, [.int b_told, .int b_wax, .int b_stick, .int b_givers, .int b_promises, .int b_pan, .ref bq_keeping, .ref bq_giverOf, .ref bq_deedOf, .ref bq_dayOf, .ref bq_likelyOf, .ref bq_kindOf, .ref bq_settledOf])), (bq_keeping, .inl (cI, 4, .inl b_keeping)), (bq_giverOf, .inl (cI, 8, .inl b_giverOf)), (bq_deedOf, .inl (cI, 8, .inl b_deedOf)), (bq_dayOf, .inl (cI, 8, .inl b_dayOf)), (bq_likelyOf, .inl (cI, 8, .inl b_likelyOf)), (bq_kindOf, .inl (cI, 8, .inl b_kindOf)), (bq_settledOf, .inl (cI, 8, .inl b_settledOf))]) H := hP
        have hD : va_D A ([(oh, .inr (4, [.int b_told, .int b_wax, .int b_stick, .int b_givers, .int b_promises, .int b_pan, .ref oq_keeping, .ref oq_giverOf, .ref oq_deedOf, .ref oq_dayOf, .ref oq_likelyOf, .ref oq_kindOf, .ref oq_settledOf])), (oq_keeping, .inl (cI, 4, .inl (upd o_keeping_50 x2_50.toNatClampNeg (b_keeping x2_50.toNatClampNeg)))), (oq_giverOf, .inl (cI, 8, .inl o_giverOf)), (oq_deedOf, .inl (cI, 8, .inl o_deedOf)), (oq_dayOf, .inl (cI, 8, .inl o_dayOf)), (oq_likelyOf, .inl (cI, 8, .inl o_likelyOf)), (oq_kindOf, .inl (cI, 8, .inl o_kindOf)), (oq_settledOf, .inl (cI, 8, .inl o_settledOf)), (bh, .inr (4, [.int b_told, .int b_wax, .int b_stick, .int b_givers, .int b_promises, .int b_pan, .ref bq_keeping, .ref bq_giverOf, .ref bq_deedOf, .ref bq_dayOf, .ref bq_likelyOf, .ref bq_kindOf, .ref bq_settledOf])), (bq_keeping, .inl (cI, 4, .inl b_keeping)), (bq_giverOf, .inl (cI, 8, .inl b_giverOf)), (bq_deedOf, .inl (cI, 8, .inl b_deedOf)), (bq_dayOf, .inl (cI, 8, .inl b_dayOf)), (bq_likelyOf, .inl (cI, 8, .inl b_likelyOf)), (bq_kindOf, .inl (cI, 8, .inl b_kindOf)), (bq_settledOf, .inl (cI, 8, .inl b_settledOf))]) := hD
        refine lv_iinc (v := x2_50 + 1) (lv' := [(2, .int (x2_50 + 1)), (0, .ref oh), (1, .ref bh)]) hx hb dX4_become_67 hl (k := 2) rfl rfl (by decide) rfl (fun ls hl => ?_)
        refine lv_goto (tgt := 50) hx hb dX4_become_70 (by decide) ?_
        exact ih_50 (upd o_keeping_50 x2_50.toNatClampNeg (b_keeping x2_50.toNatClampNeg)) (x2_50 + 1) H locs ls hP hD hS (lv_sub hl [1, 2, 0] rfl) hf
  exact L_50 bs_F o_keeping (0 : Int32) H locs ls hP hD hS (lv_sub hl [1, 2, 0] rfl) hf
set_option maxHeartbeats 4000000 in
set_option maxRecDepth 100000 in
theorem k_X4_isLaid (l : Launch) (dC : Nat → ClassId) (dI : Nat → Nat → Nat) (cI cZ cS cG : ClassId) (oh : Nat) (oq_keeping : Nat) (oq_giverOf : Nat) (oq_deedOf : Nat) (oq_dayOf : Nat) (oq_likelyOf : Nat) (oq_kindOf : Nat) (oq_settledOf : Nat) (o_told : Int32) (o_wax : Int32) (o_stick : Int32) (o_givers : Int32) (o_promises : Int32) (o_pan : Int32) (o_keeping : Nat → Int32) (o_giverOf : Nat → Int32) (o_deedOf : Nat → Int32) (o_dayOf : Nat → Int32) (o_likelyOf : Nat → Int32) (o_kindOf : Nat → Int32) (o_settledOf : Nat → Int32) (p1 : Int32) (out : Int32) (hf : f_X4_isLaid o_pan p1 = some out) : bs_C l dC dI cI cZ cS cG yX4_isLaid wsX4_isLaid ({ frames := 0, cells := 0, slots := 0, locals := 0 } : Room) [.ref oh, .int p1] ([(oh, .inr (4, [.int o_told, .int o_wax, .int o_stick, .int o_givers, .int o_promises, .int o_pan, .ref oq_keeping, .ref oq_giverOf, .ref oq_deedOf, .ref oq_dayOf, .ref oq_likelyOf, .ref oq_kindOf, .ref oq_settledOf])), (oq_keeping, .inl (cI, 4, .inl o_keeping)), (oq_giverOf, .inl (cI, 8, .inl o_giverOf)), (oq_deedOf, .inl (cI, 8, .inl o_deedOf)), (oq_dayOf, .inl (cI, 8, .inl o_dayOf)), (oq_likelyOf, .inl (cI, 8, .inl o_likelyOf)), (oq_kindOf, .inl (cI, 8, .inl o_kindOf)), (oq_settledOf, .inl (cI, 8, .inl o_settledOf))]) out ([(oh, .inr (4, [.int o_told, .int o_wax, .int o_stick, .int o_givers, .int o_promises, .int o_pan, .ref oq_keeping, .ref oq_giverOf, .ref oq_deedOf, .ref oq_dayOf, .ref oq_likelyOf, .ref oq_kindOf, .ref oq_settledOf])), (oq_keeping, .inl (cI, 4, .inl o_keeping)), (oq_giverOf, .inl (cI, 8, .inl o_giverOf)), (oq_deedOf, .inl (cI, 8, .inl o_deedOf)), (oq_dayOf, .inl (cI, 8, .inl o_dayOf)), (oq_likelyOf, .inl (cI, 8, .inl o_likelyOf)), (oq_kindOf, .inl (cI, 8, .inl o_kindOf)), (oq_settledOf, .inl (cI, 8, .inl o_settledOf))]) := by
  refine bs_ofI (cc := cX4_isLaid) (maxL := 2) (by decide) rfl (Nat.le_of_ble_eq_true rfl) ?_
  intro p e s m below meth c A Q hx hb hown hml hts hE H locs hP hD hA hS ls hl hret
  have hK := hE.1
  have hl : lv_has ls 2 [(0, .ref oh), (1, .int p1)] := hl
  have hin4 : ∀ w ∈ u_ws RX4 TX4 13, w ∈ wsX4_isLaid := by decide +kernel
  have k44 := hts (.fieldLink RX4 44 "PromiseScales$Scales" "pan" "I") (by decide +kernel)
  unfold f_X4_isLaid at hf
  refine lv_aload_n hx hb dX4_isLaid_0 rfl (lv_at hl 0 rfl) ?_
  refine va_get (D := (dC, dI)) (ci := 4) (v := .int o_pan) (C := RX4) (T := TX4) (N := 13) hx hb hts hin4 hown hK hP 0 rfl rfl 5 (by decide) k44 (fun _ h9 => h9) rfl dX4_isLaid_1 ?_
  refine lv_iload_n hx hb dX4_isLaid_4 rfl (lv_at hl 1 rfl) ?_
  refine lv_ishr hx hb dX4_isLaid_5 ?_
  refine lv_iconst (v := 1) hx hb dX4_isLaid_6 (by decide) ?_
  refine lv_iand hx hb dX4_isLaid_7 ?_
  refine lv_iconst (v := 1) hx hb dX4_isLaid_8 (by decide) ?_
  refine lv_icmp_ne (tgt := 16) hx hb dX4_isLaid_9 (by decide) (fun c1 => ?_) (fun c1 => ?_)
  · have hf := bs_f hf c1
    refine lv_iconst (v := 0) hx hb dX4_isLaid_16 (by decide) ?_
    obtain rfl := Option.some.inj hf
    exact hret H locs _ _ hP hS bs_n0 dX4_isLaid_17
  · have hf := bs_t hf c1
    refine lv_iconst (v := 1) hx hb dX4_isLaid_12 (by decide) ?_
    refine lv_goto (tgt := 17) hx hb dX4_isLaid_13 (by decide) ?_
    obtain rfl := Option.some.inj hf
    exact hret H locs _ _ hP hS bs_n1 dX4_isLaid_17
set_option maxHeartbeats 4000000 in
set_option maxRecDepth 100000 in
theorem k_X4_isSet (l : Launch) (dC : Nat → ClassId) (dI : Nat → Nat → Nat) (cI cZ cS cG : ClassId) (oh : Nat) (oq_keeping : Nat) (oq_giverOf : Nat) (oq_deedOf : Nat) (oq_dayOf : Nat) (oq_likelyOf : Nat) (oq_kindOf : Nat) (oq_settledOf : Nat) (o_told : Int32) (o_wax : Int32) (o_stick : Int32) (o_givers : Int32) (o_promises : Int32) (o_pan : Int32) (o_keeping : Nat → Int32) (o_giverOf : Nat → Int32) (o_deedOf : Nat → Int32) (o_dayOf : Nat → Int32) (o_likelyOf : Nat → Int32) (o_kindOf : Nat → Int32) (o_settledOf : Nat → Int32) (p1 : Int32) (out : Int32) (hf : f_X4_isSet o_promises p1 = some out) : bs_C l dC dI cI cZ cS cG yX4_isSet wsX4_isSet ({ frames := 0, cells := 0, slots := 0, locals := 0 } : Room) [.ref oh, .int p1] ([(oh, .inr (4, [.int o_told, .int o_wax, .int o_stick, .int o_givers, .int o_promises, .int o_pan, .ref oq_keeping, .ref oq_giverOf, .ref oq_deedOf, .ref oq_dayOf, .ref oq_likelyOf, .ref oq_kindOf, .ref oq_settledOf])), (oq_keeping, .inl (cI, 4, .inl o_keeping)), (oq_giverOf, .inl (cI, 8, .inl o_giverOf)), (oq_deedOf, .inl (cI, 8, .inl o_deedOf)), (oq_dayOf, .inl (cI, 8, .inl o_dayOf)), (oq_likelyOf, .inl (cI, 8, .inl o_likelyOf)), (oq_kindOf, .inl (cI, 8, .inl o_kindOf)), (oq_settledOf, .inl (cI, 8, .inl o_settledOf))]) out ([(oh, .inr (4, [.int o_told, .int o_wax, .int o_stick, .int o_givers, .int o_promises, .int o_pan, .ref oq_keeping, .ref oq_giverOf, .ref oq_deedOf, .ref oq_dayOf, .ref oq_likelyOf, .ref oq_kindOf, .ref oq_settledOf])), (oq_keeping, .inl (cI, 4, .inl o_keeping)), (oq_giverOf, .inl (cI, 8, .inl o_giverOf)), (oq_deedOf, .inl (cI, 8, .inl o_deedOf)), (oq_dayOf, .inl (cI, 8, .inl o_dayOf)), (oq_likelyOf, .inl (cI, 8, .inl o_likelyOf)), (oq_kindOf, .inl (cI, 8, .inl o_kindOf)), (oq_settledOf, .inl (cI, 8, .inl o_settledOf))]) := by
  refine bs_ofI (cc := cX4_isSet) (maxL := 2) (by decide) rfl (Nat.le_of_ble_eq_true rfl) ?_
  intro p e s m below meth c A Q hx hb hown hml hts hE H locs hP hD hA hS ls hl hret
  have hK := hE.1
  have hl : lv_has ls 2 [(0, .ref oh), (1, .int p1)] := hl
  have hin4 : ∀ w ∈ u_ws RX4 TX4 13, w ∈ wsX4_isSet := by decide +kernel
  have k41 := hts (.fieldLink RX4 41 "PromiseScales$Scales" "promises" "I") (by decide +kernel)
  unfold f_X4_isSet at hf
  refine lv_iload_n hx hb dX4_isSet_0 rfl (lv_at hl 1 rfl) ?_
  refine lv_if_lt (tgt := 18) hx hb dX4_isSet_1 (by decide) (fun c1 => ?_) (fun c1 => ?_)
  · have hf := bs_t hf c1
    refine lv_iconst (v := 0) hx hb dX4_isSet_18 (by decide) ?_
    obtain rfl := Option.some.inj hf
    exact hret H locs _ _ hP hS bs_n0 dX4_isSet_19
  · have hf := bs_f hf c1
    refine lv_iload_n hx hb dX4_isSet_4 rfl (lv_at hl 1 rfl) ?_
    refine lv_iconst (v := 1) hx hb dX4_isSet_5 (by decide) ?_
    refine lv_aload_n hx hb dX4_isSet_6 rfl (lv_at hl 0 rfl) ?_
    refine va_get (D := (dC, dI)) (ci := 4) (v := .int o_promises) (C := RX4) (T := TX4) (N := 13) hx hb hts hin4 hown hK hP 0 rfl rfl 4 (by decide) k41 (fun _ h9 => h9) rfl dX4_isSet_7 ?_
    refine lv_ishl hx hb dX4_isSet_10 ?_
    refine lv_icmp_ge (tgt := 18) hx hb dX4_isSet_11 (by decide) (fun c2 => ?_) (fun c2 => ?_)
    · have hf := bs_t hf c2
      refine lv_iconst (v := 0) hx hb dX4_isSet_18 (by decide) ?_
      obtain rfl := Option.some.inj hf
      exact hret H locs _ _ hP hS bs_n0 dX4_isSet_19
    · have hf := bs_f hf c2
      refine lv_iconst (v := 1) hx hb dX4_isSet_14 (by decide) ?_
      refine lv_goto (tgt := 19) hx hb dX4_isSet_15 (by decide) ?_
      obtain rfl := Option.some.inj hf
      exact hret H locs _ _ hP hS bs_n1 dX4_isSet_19
set_option maxHeartbeats 4000000 in
set_option maxRecDepth 100000 in
theorem k_X4_turn (l : Launch) (dC : Nat → ClassId) (dI : Nat → Nat → Nat) (cI cZ cS cG : ClassId) (oh : Nat) (oq_keeping : Nat) (oq_giverOf : Nat) (oq_deedOf : Nat) (oq_dayOf : Nat) (oq_likelyOf : Nat) (oq_kindOf : Nat) (oq_settledOf : Nat) (o_told : Int32) (o_wax : Int32) (o_stick : Int32) (o_givers : Int32) (o_promises : Int32) (o_pan : Int32) (o_keeping : Nat → Int32) (o_giverOf : Nat → Int32) (o_deedOf : Nat → Int32) (o_dayOf : Nat → Int32) (o_likelyOf : Nat → Int32) (o_kindOf : Nat → Int32) (o_settledOf : Nat → Int32) (p1 : Int32) (out : Int32) (hf : f_X4_turn o_pan p1 = some out) : bs_CV l dC dI cI cZ cS cG yX4_turn wsX4_turn ({ frames := 0, cells := 0, slots := 0, locals := 0 } : Room) [.ref oh, .int p1] ([(oh, .inr (4, [.int o_told, .int o_wax, .int o_stick, .int o_givers, .int o_promises, .int o_pan, .ref oq_keeping, .ref oq_giverOf, .ref oq_deedOf, .ref oq_dayOf, .ref oq_likelyOf, .ref oq_kindOf, .ref oq_settledOf])), (oq_keeping, .inl (cI, 4, .inl o_keeping)), (oq_giverOf, .inl (cI, 8, .inl o_giverOf)), (oq_deedOf, .inl (cI, 8, .inl o_deedOf)), (oq_dayOf, .inl (cI, 8, .inl o_dayOf)), (oq_likelyOf, .inl (cI, 8, .inl o_likelyOf)), (oq_kindOf, .inl (cI, 8, .inl o_kindOf)), (oq_settledOf, .inl (cI, 8, .inl o_settledOf))]) ([(oh, .inr (4, [.int o_told, .int o_wax, .int o_stick, .int o_givers, .int o_promises, .int out, .ref oq_keeping, .ref oq_giverOf, .ref oq_deedOf, .ref oq_dayOf, .ref oq_likelyOf, .ref oq_kindOf, .ref oq_settledOf])), (oq_keeping, .inl (cI, 4, .inl o_keeping)), (oq_giverOf, .inl (cI, 8, .inl o_giverOf)), (oq_deedOf, .inl (cI, 8, .inl o_deedOf)), (oq_dayOf, .inl (cI, 8, .inl o_dayOf)), (oq_likelyOf, .inl (cI, 8, .inl o_likelyOf)), (oq_kindOf, .inl (cI, 8, .inl o_kindOf)), (oq_settledOf, .inl (cI, 8, .inl o_settledOf))]) := by
  refine bs_ofV (cc := cX4_turn) (maxL := 2) (by decide) rfl (Nat.le_of_ble_eq_true rfl) ?_
  intro p e s m below meth c A Q hx hb hown hml hts hE H locs hP hD hA hS ls hl hret
  have hK := hE.1
  have hl : lv_has ls 2 [(0, .ref oh), (1, .int p1)] := hl
  have hin4 : ∀ w ∈ u_ws RX4 TX4 13, w ∈ wsX4_turn := by decide +kernel
  have k44 := hts (.fieldLink RX4 44 "PromiseScales$Scales" "pan" "I") (by decide +kernel)
  unfold f_X4_turn at hf
  refine lv_aload_n hx hb dX4_turn_0 rfl (lv_at hl 0 rfl) ?_
  refine lv_dup hx hb dX4_turn_1 rfl ?_
  refine va_get (D := (dC, dI)) (ci := 4) (v := .int o_pan) (C := RX4) (T := TX4) (N := 13) hx hb hts hin4 hown hK hP 0 rfl rfl 5 (by decide) k44 (fun _ h9 => h9) rfl dX4_turn_2 ?_
  refine lv_iconst (v := 1) hx hb dX4_turn_5 (by decide) ?_
  refine lv_iload_n hx hb dX4_turn_6 rfl (lv_at hl 1 rfl) ?_
  refine lv_ishl hx hb dX4_turn_7 ?_
  refine lv_ixor hx hb dX4_turn_8 ?_
  refine va_put (D := (dC, dI)) (ci := 4) (v := .int (o_pan ^^^ (1 <<< (p1 &&& 31)))) (ty := .int) (C := RX4) (T := TX4) (N := 13) hx hb hts hin4 tyX4 tyX4_ok nmX4 hown hK hP hD hS 0 rfl rfl 5 (by decide) k44 (fun _ h9 => h9) rfl (by decide +kernel) rfl rfl (Nat.le_of_ble_eq_true rfl) dX4_turn_9 (fun H locs hP hD hS => ?_)
  have hP : va_P (dC, dI) vwCl ([(oh, .inr (4, [.int o_told, .int o_wax, .int o_stick, .int o_givers, .int o_promises, .int (o_pan ^^^ (1 <<< (p1 &&& 31))), .ref oq_keeping, .ref oq_giverOf, .ref oq_deedOf, .ref oq_dayOf, .ref oq_likelyOf, .ref oq_kindOf, .ref oq_settledOf])), (oq_keeping, .inl (cI, 4, .inl o_keeping)), (oq_giverOf, .inl (cI, 8, .inl o_giverOf)), (oq_deedOf, .inl (cI, 8, .inl o_deedOf)), (oq_dayOf, .inl (cI, 8, .inl o_dayOf)), (oq_likelyOf, .inl (cI, 8, .inl o_likelyOf)), (oq_kindOf, .inl (cI, 8, .inl o_kindOf)), (oq_settledOf, .inl (cI, 8, .inl o_settledOf))]) H := hP
  have hD : va_D A ([(oh, .inr (4, [.int o_told, .int o_wax, .int o_stick, .int o_givers, .int o_promises, .int (o_pan ^^^ (1 <<< (p1 &&& 31))), .ref oq_keeping, .ref oq_giverOf, .ref oq_deedOf, .ref oq_dayOf, .ref oq_likelyOf, .ref oq_kindOf, .ref oq_settledOf])), (oq_keeping, .inl (cI, 4, .inl o_keeping)), (oq_giverOf, .inl (cI, 8, .inl o_giverOf)), (oq_deedOf, .inl (cI, 8, .inl o_deedOf)), (oq_dayOf, .inl (cI, 8, .inl o_dayOf)), (oq_likelyOf, .inl (cI, 8, .inl o_likelyOf)), (oq_kindOf, .inl (cI, 8, .inl o_kindOf)), (oq_settledOf, .inl (cI, 8, .inl o_settledOf))]) := hD
  obtain rfl := Option.some.inj hf
  exact hret H locs _ _ hP hS dX4_turn_12
set_option maxHeartbeats 4000000 in
set_option maxRecDepth 100000 in
theorem k_X4_settleOne (l : Launch) (dC : Nat → ClassId) (dI : Nat → Nat → Nat) (cI cZ cS cG : ClassId) (oh : Nat) (oq_keeping : Nat) (oq_giverOf : Nat) (oq_deedOf : Nat) (oq_dayOf : Nat) (oq_likelyOf : Nat) (oq_kindOf : Nat) (oq_settledOf : Nat) (o_told : Int32) (o_wax : Int32) (o_stick : Int32) (o_givers : Int32) (o_promises : Int32) (o_pan : Int32) (o_keeping : Nat → Int32) (o_giverOf : Nat → Int32) (o_deedOf : Nat → Int32) (o_dayOf : Nat → Int32) (o_likelyOf : Nat → Int32) (o_kindOf : Nat → Int32) (o_settledOf : Nat → Int32) (p1 : Int32) (p2 : Int32) (out : Int32 × (Nat → Int32) × (Nat → Int32)) (hf : f_X4_settleOne o_pan o_keeping o_giverOf o_settledOf p1 p2 = some out) : bs_CV l dC dI cI cZ cS cG yX4_settleOne wsX4_settleOne ({ frames := 1, cells := 0, slots := 0, locals := 21 } : Room) [.ref oh, .int p1, .int p2] ([(oh, .inr (4, [.int o_told, .int o_wax, .int o_stick, .int o_givers, .int o_promises, .int o_pan, .ref oq_keeping, .ref oq_giverOf, .ref oq_deedOf, .ref oq_dayOf, .ref oq_likelyOf, .ref oq_kindOf, .ref oq_settledOf])), (oq_keeping, .inl (cI, 4, .inl o_keeping)), (oq_giverOf, .inl (cI, 8, .inl o_giverOf)), (oq_deedOf, .inl (cI, 8, .inl o_deedOf)), (oq_dayOf, .inl (cI, 8, .inl o_dayOf)), (oq_likelyOf, .inl (cI, 8, .inl o_likelyOf)), (oq_kindOf, .inl (cI, 8, .inl o_kindOf)), (oq_settledOf, .inl (cI, 8, .inl o_settledOf))]) ([(oh, .inr (4, [.int o_told, .int o_wax, .int o_stick, .int o_givers, .int o_promises, .int out.1, .ref oq_keeping, .ref oq_giverOf, .ref oq_deedOf, .ref oq_dayOf, .ref oq_likelyOf, .ref oq_kindOf, .ref oq_settledOf])), (oq_keeping, .inl (cI, 4, .inl out.2.1)), (oq_giverOf, .inl (cI, 8, .inl o_giverOf)), (oq_deedOf, .inl (cI, 8, .inl o_deedOf)), (oq_dayOf, .inl (cI, 8, .inl o_dayOf)), (oq_likelyOf, .inl (cI, 8, .inl o_likelyOf)), (oq_kindOf, .inl (cI, 8, .inl o_kindOf)), (oq_settledOf, .inl (cI, 8, .inl out.2.2))]) := by
  refine bs_ofV (cc := cX4_settleOne) (maxL := 4) (by decide) rfl (Nat.le_of_ble_eq_true rfl) ?_
  intro p e s m below meth c A Q hx hb hown hml hts hE H locs hP hD hA hS ls hl hret
  have hK := hE.1
  have hl : lv_has ls 4 [(0, .ref oh), (1, .int p1), (2, .int p2)] := hl
  have hin4 : ∀ w ∈ u_ws RX4 TX4 13, w ∈ wsX4_settleOne := by decide +kernel
  have k9 := hts (.fieldLink RX4 9 "PromiseScales$Scales" "keeping" "[I") (by decide +kernel)
  have k15 := hts (.fieldLink RX4 15 "PromiseScales$Scales" "giverOf" "[I") (by decide +kernel)
  have k30 := hts (.fieldLink RX4 30 "PromiseScales$Scales" "settledOf" "[I") (by decide +kernel)
  have k44 := hts (.fieldLink RX4 44 "PromiseScales$Scales" "pan" "I") (by decide +kernel)
  unfold f_X4_settleOne at hf
  refine lv_aload_n hx hb dX4_settleOne_0 rfl (lv_at hl 0 rfl) ?_
  refine va_get (D := (dC, dI)) (ci := 4) (v := .ref oq_giverOf) (C := RX4) (T := TX4) (N := 13) hx hb hts hin4 hown hK hP 0 rfl rfl 7 (by decide) k15 (fun _ h9 => h9) rfl dX4_settleOne_1 ?_
  refine lv_iload_n hx hb dX4_settleOne_4 rfl (lv_at hl 1 rfl) ?_
  obtain ⟨g1, hf⟩ := bs_g hf
  refine va_iald hx hb hK hP 2 0 rfl rfl (bs_inV g1) dX4_settleOne_5 ?_
  refine lv_istore_n (lv' := [(3, .int (o_giverOf p1.toNatClampNeg)), (0, .ref oh), (1, .int p1), (2, .int p2)]) hx hb dX4_settleOne_6 rfl hl (by decide) rfl (fun ls hl => ?_)
  refine lv_aload_n hx hb dX4_settleOne_7 rfl (lv_at hl 1 rfl) ?_
  refine va_get (D := (dC, dI)) (ci := 4) (v := .ref oq_settledOf) (C := RX4) (T := TX4) (N := 13) hx hb hts hin4 hown hK hP 0 rfl rfl 12 (by decide) k30 (fun _ h9 => h9) rfl dX4_settleOne_8 ?_
  refine lv_iload_n hx hb dX4_settleOne_11 rfl (lv_at hl 2 rfl) ?_
  refine lv_iload_n hx hb dX4_settleOne_12 rfl (lv_at hl 3 rfl) ?_
  refine lv_if_eq (tgt := 20) hx hb dX4_settleOne_13 (by decide) (fun c2 => ?_) (fun c2 => ?_)
  · have hf := bs_t hf c2
    refine lv_iconst (v := 2) hx hb dX4_settleOne_20 (by decide) ?_
    obtain ⟨g3, hf⟩ := bs_g hf
    refine va_iast hx hb hK hP hD hS 7 0 rfl rfl (bs_inV g3) dX4_settleOne_21 (fun H locs hP hD hS => ?_)
    have hP : va_P (dC, dI) vwCl ([(oh, .inr (4, [.int o_told, .int o_wax, .int o_stick, .int o_givers, .int o_promises, .int o_pan, .ref oq_keeping, .ref oq_giverOf, .ref oq_deedOf, .ref oq_dayOf, .ref oq_likelyOf, .ref oq_kindOf, .ref oq_settledOf])), (oq_keeping, .inl (cI, 4, .inl o_keeping)), (oq_giverOf, .inl (cI, 8, .inl o_giverOf)), (oq_deedOf, .inl (cI, 8, .inl o_deedOf)), (oq_dayOf, .inl (cI, 8, .inl o_dayOf)), (oq_likelyOf, .inl (cI, 8, .inl o_likelyOf)), (oq_kindOf, .inl (cI, 8, .inl o_kindOf)), (oq_settledOf, .inl (cI, 8, .inl (upd o_settledOf p1.toNatClampNeg 2)))]) H := hP
    have hD : va_D A ([(oh, .inr (4, [.int o_told, .int o_wax, .int o_stick, .int o_givers, .int o_promises, .int o_pan, .ref oq_keeping, .ref oq_giverOf, .ref oq_deedOf, .ref oq_dayOf, .ref oq_likelyOf, .ref oq_kindOf, .ref oq_settledOf])), (oq_keeping, .inl (cI, 4, .inl o_keeping)), (oq_giverOf, .inl (cI, 8, .inl o_giverOf)), (oq_deedOf, .inl (cI, 8, .inl o_deedOf)), (oq_dayOf, .inl (cI, 8, .inl o_dayOf)), (oq_likelyOf, .inl (cI, 8, .inl o_likelyOf)), (oq_kindOf, .inl (cI, 8, .inl o_kindOf)), (oq_settledOf, .inl (cI, 8, .inl (upd o_settledOf p1.toNatClampNeg 2)))]) := hD
    refine lv_aload_n hx hb dX4_settleOne_22 rfl (lv_at hl 1 rfl) ?_
    refine lv_dup hx hb dX4_settleOne_23 rfl ?_
    refine va_get (D := (dC, dI)) (ci := 4) (v := .int o_pan) (C := RX4) (T := TX4) (N := 13) hx hb hts hin4 hown hK hP 0 rfl rfl 5 (by decide) k44 (fun _ h9 => h9) rfl dX4_settleOne_24 ?_
    refine lv_iconst (v := 1) hx hb dX4_settleOne_27 (by decide) ?_
    refine lv_iload_n hx hb dX4_settleOne_28 rfl (lv_at hl 2 rfl) ?_
    refine lv_ishl hx hb dX4_settleOne_29 ?_
    refine lv_iconst (v := (-1)) hx hb dX4_settleOne_30 (by decide) ?_
    refine lv_ixor hx hb dX4_settleOne_31 ?_
    refine lv_iand hx hb dX4_settleOne_32 ?_
    refine va_put (D := (dC, dI)) (ci := 4) (v := .int (o_pan &&& ((1 <<< (p1 &&& 31)) ^^^ (-1)))) (ty := .int) (C := RX4) (T := TX4) (N := 13) hx hb hts hin4 tyX4 tyX4_ok nmX4 hown hK hP hD hS 0 rfl rfl 5 (by decide) k44 (fun _ h9 => h9) rfl (by decide +kernel) rfl rfl (Nat.le_of_ble_eq_true rfl) dX4_settleOne_33 (fun H locs hP hD hS => ?_)
    have hP : va_P (dC, dI) vwCl ([(oh, .inr (4, [.int o_told, .int o_wax, .int o_stick, .int o_givers, .int o_promises, .int (o_pan &&& ((1 <<< (p1 &&& 31)) ^^^ (-1))), .ref oq_keeping, .ref oq_giverOf, .ref oq_deedOf, .ref oq_dayOf, .ref oq_likelyOf, .ref oq_kindOf, .ref oq_settledOf])), (oq_keeping, .inl (cI, 4, .inl o_keeping)), (oq_giverOf, .inl (cI, 8, .inl o_giverOf)), (oq_deedOf, .inl (cI, 8, .inl o_deedOf)), (oq_dayOf, .inl (cI, 8, .inl o_dayOf)), (oq_likelyOf, .inl (cI, 8, .inl o_likelyOf)), (oq_kindOf, .inl (cI, 8, .inl o_kindOf)), (oq_settledOf, .inl (cI, 8, .inl (upd o_settledOf p1.toNatClampNeg 2)))]) H := hP
    have hD : va_D A ([(oh, .inr (4, [.int o_told, .int o_wax, .int o_stick, .int o_givers, .int o_promises, .int (o_pan &&& ((1 <<< (p1 &&& 31)) ^^^ (-1))), .ref oq_keeping, .ref oq_giverOf, .ref oq_deedOf, .ref oq_dayOf, .ref oq_likelyOf, .ref oq_kindOf, .ref oq_settledOf])), (oq_keeping, .inl (cI, 4, .inl o_keeping)), (oq_giverOf, .inl (cI, 8, .inl o_giverOf)), (oq_deedOf, .inl (cI, 8, .inl o_deedOf)), (oq_dayOf, .inl (cI, 8, .inl o_dayOf)), (oq_likelyOf, .inl (cI, 8, .inl o_likelyOf)), (oq_kindOf, .inl (cI, 8, .inl o_kindOf)), (oq_settledOf, .inl (cI, 8, .inl (upd o_settledOf p1.toNatClampNeg 2)))]) := hD
    refine lv_aload_n hx hb dX4_settleOne_36 rfl (lv_at hl 1 rfl) ?_
    refine va_get (D := (dC, dI)) (ci := 4) (v := .ref oq_keeping) (C := RX4) (T := TX4) (N := 13) hx hb hts hin4 hown hK hP 0 rfl rfl 6 (by decide) k9 (fun _ h9 => h9) rfl dX4_settleOne_37 ?_
    refine lv_iload_n hx hb dX4_settleOne_40 rfl (lv_at hl 0 rfl) ?_
    refine lv_iload_n hx hb dX4_settleOne_41 rfl (lv_at hl 3 rfl) ?_
    refine lv_if_eq (tgt := 61) hx hb dX4_settleOne_42 (by decide) (fun c4 => ?_) (fun c4 => ?_)
    · have hf := bs_t hf c4
      refine lv_iconst (v := 0) hx hb dX4_settleOne_61 (by decide) ?_
      refine lv_aload_n hx hb dX4_settleOne_62 rfl (lv_at hl 1 rfl) ?_
      refine va_get (D := (dC, dI)) (ci := 4) (v := .ref oq_keeping) (C := RX4) (T := TX4) (N := 13) hx hb hts hin4 hown hK hP 0 rfl rfl 6 (by decide) k9 (fun _ h9 => h9) rfl dX4_settleOne_63 ?_
      refine lv_iload_n hx hb dX4_settleOne_66 rfl (lv_at hl 0 rfl) ?_
      obtain ⟨g5, hf⟩ := bs_g hf
      refine va_iald hx hb hK hP 1 0 rfl rfl (bs_inV g5) dX4_settleOne_67 ?_
      refine lv_iconst (v := 1) hx hb dX4_settleOne_68 (by decide) ?_
      refine lv_isub hx hb dX4_settleOne_69 ?_
      refine va_mmax hx hb (hml.trans hl.1.symm) hown (hts (.methodLink RX4 59 Lib.Math.max.name) (by decide +kernel)) (hts (.static Lib.Math.max.name) (by decide +kernel)) (hts (.initialized "java/lang/Math") (by decide +kernel)) (hts (.code Lib.Math.max.name Lib.Math.max.code 2 (some .int)) (by decide +kernel)) (Nat.le_of_ble_eq_true rfl) (Nat.le_of_ble_eq_true rfl) (Nat.zero_le _) (Nat.zero_le _) dX4_settleOne_70 ?_
      obtain ⟨g6, hf⟩ := bs_g hf
      refine va_iast hx hb hK hP hD hS 1 0 rfl rfl (bs_inV g6) dX4_settleOne_73 (fun H locs hP hD hS => ?_)
      have hP : va_P (dC, dI) vwCl ([(oh, .inr (4, [.int o_told, .int o_wax, .int o_stick, .int o_givers, .int o_promises, .int (o_pan &&& ((1 <<< (p1 &&& 31)) ^^^ (-1))), .ref oq_keeping, .ref oq_giverOf, .ref oq_deedOf, .ref oq_dayOf, .ref oq_likelyOf, .ref oq_kindOf, .ref oq_settledOf])), (oq_keeping, .inl (cI, 4, .inl (upd o_keeping (o_giverOf p1.toNatClampNeg).toNatClampNeg (if 0 < ((o_keeping (o_giverOf p1.toNatClampNeg).toNatClampNeg) - 1) then (o_keeping (o_giverOf p1.toNatClampNeg).toNatClampNeg) - 1 else 0)))), (oq_giverOf, .inl (cI, 8, .inl o_giverOf)), (oq_deedOf, .inl (cI, 8, .inl o_deedOf)), (oq_dayOf, .inl (cI, 8, .inl o_dayOf)), (oq_likelyOf, .inl (cI, 8, .inl o_likelyOf)), (oq_kindOf, .inl (cI, 8, .inl o_kindOf)), (oq_settledOf, .inl (cI, 8, .inl (upd o_settledOf p1.toNatClampNeg 2)))]) H := hP
      have hD : va_D A ([(oh, .inr (4, [.int o_told, .int o_wax, .int o_stick, .int o_givers, .int o_promises, .int (o_pan &&& ((1 <<< (p1 &&& 31)) ^^^ (-1))), .ref oq_keeping, .ref oq_giverOf, .ref oq_deedOf, .ref oq_dayOf, .ref oq_likelyOf, .ref oq_kindOf, .ref oq_settledOf])), (oq_keeping, .inl (cI, 4, .inl (upd o_keeping (o_giverOf p1.toNatClampNeg).toNatClampNeg (if 0 < ((o_keeping (o_giverOf p1.toNatClampNeg).toNatClampNeg) - 1) then (o_keeping (o_giverOf p1.toNatClampNeg).toNatClampNeg) - 1 else 0)))), (oq_giverOf, .inl (cI, 8, .inl o_giverOf)), (oq_deedOf, .inl (cI, 8, .inl o_deedOf)), (oq_dayOf, .inl (cI, 8, .inl o_dayOf)), (oq_likelyOf, .inl (cI, 8, .inl o_likelyOf)), (oq_kindOf, .inl (cI, 8, .inl o_kindOf)), (oq_settledOf, .inl (cI, 8, .inl (upd o_settledOf p1.toNatClampNeg 2)))]) := hD
      obtain rfl := Option.some.inj hf
      exact hret H locs _ _ hP hS dX4_settleOne_74
    · have hf := bs_f hf c4
      refine lv_bipush (v := 10) hx hb dX4_settleOne_45 (by decide) ?_
      refine lv_aload_n hx hb dX4_settleOne_47 rfl (lv_at hl 1 rfl) ?_
      refine va_get (D := (dC, dI)) (ci := 4) (v := .ref oq_keeping) (C := RX4) (T := TX4) (N := 13) hx hb hts hin4 hown hK hP 0 rfl rfl 6 (by decide) k9 (fun _ h9 => h9) rfl dX4_settleOne_48 ?_
      refine lv_iload_n hx hb dX4_settleOne_51 rfl (lv_at hl 0 rfl) ?_
      obtain ⟨g7, hf⟩ := bs_g hf
      refine va_iald hx hb hK hP 1 0 rfl rfl (bs_inV g7) dX4_settleOne_52 ?_
      refine lv_iconst (v := 1) hx hb dX4_settleOne_53 (by decide) ?_
      refine lv_iadd hx hb dX4_settleOne_54 ?_
      refine va_mmin hx hb (hml.trans hl.1.symm) hown (hts (.methodLink RX4 53 Lib.Math.min.name) (by decide +kernel)) (hts (.static Lib.Math.min.name) (by decide +kernel)) (hts (.initialized "java/lang/Math") (by decide +kernel)) (hts (.code Lib.Math.min.name Lib.Math.min.code 2 (some .int)) (by decide +kernel)) (Nat.le_of_ble_eq_true rfl) (Nat.le_of_ble_eq_true rfl) (Nat.zero_le _) (Nat.zero_le _) dX4_settleOne_55 ?_
      refine lv_goto (tgt := 73) hx hb dX4_settleOne_58 (by decide) ?_
      obtain ⟨g8, hf⟩ := bs_g hf
      refine va_iast hx hb hK hP hD hS 1 0 rfl rfl (bs_inV g8) dX4_settleOne_73 (fun H locs hP hD hS => ?_)
      have hP : va_P (dC, dI) vwCl ([(oh, .inr (4, [.int o_told, .int o_wax, .int o_stick, .int o_givers, .int o_promises, .int (o_pan &&& ((1 <<< (p1 &&& 31)) ^^^ (-1))), .ref oq_keeping, .ref oq_giverOf, .ref oq_deedOf, .ref oq_dayOf, .ref oq_likelyOf, .ref oq_kindOf, .ref oq_settledOf])), (oq_keeping, .inl (cI, 4, .inl (upd o_keeping (o_giverOf p1.toNatClampNeg).toNatClampNeg (if ((o_keeping (o_giverOf p1.toNatClampNeg).toNatClampNeg) + 1) < 10 then (o_keeping (o_giverOf p1.toNatClampNeg).toNatClampNeg) + 1 else 10)))), (oq_giverOf, .inl (cI, 8, .inl o_giverOf)), (oq_deedOf, .inl (cI, 8, .inl o_deedOf)), (oq_dayOf, .inl (cI, 8, .inl o_dayOf)), (oq_likelyOf, .inl (cI, 8, .inl o_likelyOf)), (oq_kindOf, .inl (cI, 8, .inl o_kindOf)), (oq_settledOf, .inl (cI, 8, .inl (upd o_settledOf p1.toNatClampNeg 2)))]) H := hP
      have hD : va_D A ([(oh, .inr (4, [.int o_told, .int o_wax, .int o_stick, .int o_givers, .int o_promises, .int (o_pan &&& ((1 <<< (p1 &&& 31)) ^^^ (-1))), .ref oq_keeping, .ref oq_giverOf, .ref oq_deedOf, .ref oq_dayOf, .ref oq_likelyOf, .ref oq_kindOf, .ref oq_settledOf])), (oq_keeping, .inl (cI, 4, .inl (upd o_keeping (o_giverOf p1.toNatClampNeg).toNatClampNeg (if ((o_keeping (o_giverOf p1.toNatClampNeg).toNatClampNeg) + 1) < 10 then (o_keeping (o_giverOf p1.toNatClampNeg).toNatClampNeg) + 1 else 10)))), (oq_giverOf, .inl (cI, 8, .inl o_giverOf)), (oq_deedOf, .inl (cI, 8, .inl o_deedOf)), (oq_dayOf, .inl (cI, 8, .inl o_dayOf)), (oq_likelyOf, .inl (cI, 8, .inl o_likelyOf)), (oq_kindOf, .inl (cI, 8, .inl o_kindOf)), (oq_settledOf, .inl (cI, 8, .inl (upd o_settledOf p1.toNatClampNeg 2)))]) := hD
      obtain rfl := Option.some.inj hf
      exact hret H locs _ _ hP hS dX4_settleOne_74
  · have hf := bs_f hf c2
    refine lv_iconst (v := 1) hx hb dX4_settleOne_16 (by decide) ?_
    refine lv_goto (tgt := 21) hx hb dX4_settleOne_17 (by decide) ?_
    obtain ⟨g9, hf⟩ := bs_g hf
    refine va_iast hx hb hK hP hD hS 7 0 rfl rfl (bs_inV g9) dX4_settleOne_21 (fun H locs hP hD hS => ?_)
    have hP : va_P (dC, dI) vwCl ([(oh, .inr (4, [.int o_told, .int o_wax, .int o_stick, .int o_givers, .int o_promises, .int o_pan, .ref oq_keeping, .ref oq_giverOf, .ref oq_deedOf, .ref oq_dayOf, .ref oq_likelyOf, .ref oq_kindOf, .ref oq_settledOf])), (oq_keeping, .inl (cI, 4, .inl o_keeping)), (oq_giverOf, .inl (cI, 8, .inl o_giverOf)), (oq_deedOf, .inl (cI, 8, .inl o_deedOf)), (oq_dayOf, .inl (cI, 8, .inl o_dayOf)), (oq_likelyOf, .inl (cI, 8, .inl o_likelyOf)), (oq_kindOf, .inl (cI, 8, .inl o_kindOf)), (oq_settledOf, .inl (cI, 8, .inl (upd o_settledOf p1.toNatClampNeg 1)))]) H := hP
    have hD : va_D A ([(oh, .inr (4, [.int o_told, .int o_wax, .int o_stick, .int o_givers, .int o_promises, .int o_pan, .ref oq_keeping, .ref oq_giverOf, .ref oq_deedOf, .ref oq_dayOf, .ref oq_likelyOf, .ref oq_kindOf, .ref oq_settledOf])), (oq_keeping, .inl (cI, 4, .inl o_keeping)), (oq_giverOf, .inl (cI, 8, .inl o_giverOf)), (oq_deedOf, .inl (cI, 8, .inl o_deedOf)), (oq_dayOf, .inl (cI, 8, .inl o_dayOf)), (oq_likelyOf, .inl (cI, 8, .inl o_likelyOf)), (oq_kindOf, .inl (cI, 8, .inl o_kindOf)), (oq_settledOf, .inl (cI, 8, .inl (upd o_settledOf p1.toNatClampNeg 1)))]) := hD
    refine lv_aload_n hx hb dX4_settleOne_22 rfl (lv_at hl 1 rfl) ?_
    refine lv_dup hx hb dX4_settleOne_23 rfl ?_
    refine va_get (D := (dC, dI)) (ci := 4) (v := .int o_pan) (C := RX4) (T := TX4) (N := 13) hx hb hts hin4 hown hK hP 0 rfl rfl 5 (by decide) k44 (fun _ h9 => h9) rfl dX4_settleOne_24 ?_
    refine lv_iconst (v := 1) hx hb dX4_settleOne_27 (by decide) ?_
    refine lv_iload_n hx hb dX4_settleOne_28 rfl (lv_at hl 2 rfl) ?_
    refine lv_ishl hx hb dX4_settleOne_29 ?_
    refine lv_iconst (v := (-1)) hx hb dX4_settleOne_30 (by decide) ?_
    refine lv_ixor hx hb dX4_settleOne_31 ?_
    refine lv_iand hx hb dX4_settleOne_32 ?_
    refine va_put (D := (dC, dI)) (ci := 4) (v := .int (o_pan &&& ((1 <<< (p1 &&& 31)) ^^^ (-1)))) (ty := .int) (C := RX4) (T := TX4) (N := 13) hx hb hts hin4 tyX4 tyX4_ok nmX4 hown hK hP hD hS 0 rfl rfl 5 (by decide) k44 (fun _ h9 => h9) rfl (by decide +kernel) rfl rfl (Nat.le_of_ble_eq_true rfl) dX4_settleOne_33 (fun H locs hP hD hS => ?_)
    have hP : va_P (dC, dI) vwCl ([(oh, .inr (4, [.int o_told, .int o_wax, .int o_stick, .int o_givers, .int o_promises, .int (o_pan &&& ((1 <<< (p1 &&& 31)) ^^^ (-1))), .ref oq_keeping, .ref oq_giverOf, .ref oq_deedOf, .ref oq_dayOf, .ref oq_likelyOf, .ref oq_kindOf, .ref oq_settledOf])), (oq_keeping, .inl (cI, 4, .inl o_keeping)), (oq_giverOf, .inl (cI, 8, .inl o_giverOf)), (oq_deedOf, .inl (cI, 8, .inl o_deedOf)), (oq_dayOf, .inl (cI, 8, .inl o_dayOf)), (oq_likelyOf, .inl (cI, 8, .inl o_likelyOf)), (oq_kindOf, .inl (cI, 8, .inl o_kindOf)), (oq_settledOf, .inl (cI, 8, .inl (upd o_settledOf p1.toNatClampNeg 1)))]) H := hP
    have hD : va_D A ([(oh, .inr (4, [.int o_told, .int o_wax, .int o_stick, .int o_givers, .int o_promises, .int (o_pan &&& ((1 <<< (p1 &&& 31)) ^^^ (-1))), .ref oq_keeping, .ref oq_giverOf, .ref oq_deedOf, .ref oq_dayOf, .ref oq_likelyOf, .ref oq_kindOf, .ref oq_settledOf])), (oq_keeping, .inl (cI, 4, .inl o_keeping)), (oq_giverOf, .inl (cI, 8, .inl o_giverOf)), (oq_deedOf, .inl (cI, 8, .inl o_deedOf)), (oq_dayOf, .inl (cI, 8, .inl o_dayOf)), (oq_likelyOf, .inl (cI, 8, .inl o_likelyOf)), (oq_kindOf, .inl (cI, 8, .inl o_kindOf)), (oq_settledOf, .inl (cI, 8, .inl (upd o_settledOf p1.toNatClampNeg 1)))]) := hD
    refine lv_aload_n hx hb dX4_settleOne_36 rfl (lv_at hl 1 rfl) ?_
    refine va_get (D := (dC, dI)) (ci := 4) (v := .ref oq_keeping) (C := RX4) (T := TX4) (N := 13) hx hb hts hin4 hown hK hP 0 rfl rfl 6 (by decide) k9 (fun _ h9 => h9) rfl dX4_settleOne_37 ?_
    refine lv_iload_n hx hb dX4_settleOne_40 rfl (lv_at hl 0 rfl) ?_
    refine lv_iload_n hx hb dX4_settleOne_41 rfl (lv_at hl 3 rfl) ?_
    refine lv_if_eq (tgt := 61) hx hb dX4_settleOne_42 (by decide) (fun c10 => ?_) (fun c10 => ?_)
    · have hf := bs_t hf c10
      refine lv_iconst (v := 0) hx hb dX4_settleOne_61 (by decide) ?_
      refine lv_aload_n hx hb dX4_settleOne_62 rfl (lv_at hl 1 rfl) ?_
      refine va_get (D := (dC, dI)) (ci := 4) (v := .ref oq_keeping) (C := RX4) (T := TX4) (N := 13) hx hb hts hin4 hown hK hP 0 rfl rfl 6 (by decide) k9 (fun _ h9 => h9) rfl dX4_settleOne_63 ?_
      refine lv_iload_n hx hb dX4_settleOne_66 rfl (lv_at hl 0 rfl) ?_
      obtain ⟨g11, hf⟩ := bs_g hf
      refine va_iald hx hb hK hP 1 0 rfl rfl (bs_inV g11) dX4_settleOne_67 ?_
      refine lv_iconst (v := 1) hx hb dX4_settleOne_68 (by decide) ?_
      refine lv_isub hx hb dX4_settleOne_69 ?_
      refine va_mmax hx hb (hml.trans hl.1.symm) hown (hts (.methodLink RX4 59 Lib.Math.max.name) (by decide +kernel)) (hts (.static Lib.Math.max.name) (by decide +kernel)) (hts (.initialized "java/lang/Math") (by decide +kernel)) (hts (.code Lib.Math.max.name Lib.Math.max.code 2 (some .int)) (by decide +kernel)) (Nat.le_of_ble_eq_true rfl) (Nat.le_of_ble_eq_true rfl) (Nat.zero_le _) (Nat.zero_le _) dX4_settleOne_70 ?_
      obtain ⟨g12, hf⟩ := bs_g hf
      refine va_iast hx hb hK hP hD hS 1 0 rfl rfl (bs_inV g12) dX4_settleOne_73 (fun H locs hP hD hS => ?_)
      have hP : va_P (dC, dI) vwCl ([(oh, .inr (4, [.int o_told, .int o_wax, .int o_stick, .int o_givers, .int o_promises, .int (o_pan &&& ((1 <<< (p1 &&& 31)) ^^^ (-1))), .ref oq_keeping, .ref oq_giverOf, .ref oq_deedOf, .ref oq_dayOf, .ref oq_likelyOf, .ref oq_kindOf, .ref oq_settledOf])), (oq_keeping, .inl (cI, 4, .inl (upd o_keeping (o_giverOf p1.toNatClampNeg).toNatClampNeg (if 0 < ((o_keeping (o_giverOf p1.toNatClampNeg).toNatClampNeg) - 1) then (o_keeping (o_giverOf p1.toNatClampNeg).toNatClampNeg) - 1 else 0)))), (oq_giverOf, .inl (cI, 8, .inl o_giverOf)), (oq_deedOf, .inl (cI, 8, .inl o_deedOf)), (oq_dayOf, .inl (cI, 8, .inl o_dayOf)), (oq_likelyOf, .inl (cI, 8, .inl o_likelyOf)), (oq_kindOf, .inl (cI, 8, .inl o_kindOf)), (oq_settledOf, .inl (cI, 8, .inl (upd o_settledOf p1.toNatClampNeg 1)))]) H := hP
      have hD : va_D A ([(oh, .inr (4, [.int o_told, .int o_wax, .int o_stick, .int o_givers, .int o_promises, .int (o_pan &&& ((1 <<< (p1 &&& 31)) ^^^ (-1))), .ref oq_keeping, .ref oq_giverOf, .ref oq_deedOf, .ref oq_dayOf, .ref oq_likelyOf, .ref oq_kindOf, .ref oq_settledOf])), (oq_keeping, .inl (cI, 4, .inl (upd o_keeping (o_giverOf p1.toNatClampNeg).toNatClampNeg (if 0 < ((o_keeping (o_giverOf p1.toNatClampNeg).toNatClampNeg) - 1) then (o_keeping (o_giverOf p1.toNatClampNeg).toNatClampNeg) - 1 else 0)))), (oq_giverOf, .inl (cI, 8, .inl o_giverOf)), (oq_deedOf, .inl (cI, 8, .inl o_deedOf)), (oq_dayOf, .inl (cI, 8, .inl o_dayOf)), (oq_likelyOf, .inl (cI, 8, .inl o_likelyOf)), (oq_kindOf, .inl (cI, 8, .inl o_kindOf)), (oq_settledOf, .inl (cI, 8, .inl (upd o_settledOf p1.toNatClampNeg 1)))]) := hD
      obtain rfl := Option.some.inj hf
      exact hret H locs _ _ hP hS dX4_settleOne_74
    · have hf := bs_f hf c10
      refine lv_bipush (v := 10) hx hb dX4_settleOne_45 (by decide) ?_
      refine lv_aload_n hx hb dX4_settleOne_47 rfl (lv_at hl 1 rfl) ?_
      refine va_get (D := (dC, dI)) (ci := 4) (v := .ref oq_keeping) (C := RX4) (T := TX4) (N := 13) hx hb hts hin4 hown hK hP 0 rfl rfl 6 (by decide) k9 (fun _ h9 => h9) rfl dX4_settleOne_48 ?_
      refine lv_iload_n hx hb dX4_settleOne_51 rfl (lv_at hl 0 rfl) ?_
      obtain ⟨g13, hf⟩ := bs_g hf
      refine va_iald hx hb hK hP 1 0 rfl rfl (bs_inV g13) dX4_settleOne_52 ?_
      refine lv_iconst (v := 1) hx hb dX4_settleOne_53 (by decide) ?_
      refine lv_iadd hx hb dX4_settleOne_54 ?_
      refine va_mmin hx hb (hml.trans hl.1.symm) hown (hts (.methodLink RX4 53 Lib.Math.min.name) (by decide +kernel)) (hts (.static Lib.Math.min.name) (by decide +kernel)) (hts (.initialized "java/lang/Math") (by decide +kernel)) (hts (.code Lib.Math.min.name Lib.Math.min.code 2 (some .int)) (by decide +kernel)) (Nat.le_of_ble_eq_true rfl) (Nat.le_of_ble_eq_true rfl) (Nat.zero_le _) (Nat.zero_le _) dX4_settleOne_55 ?_
      refine lv_goto (tgt := 73) hx hb dX4_settleOne_58 (by decide) ?_
      obtain ⟨g14, hf⟩ := bs_g hf
      refine va_iast hx hb hK hP hD hS 1 0 rfl rfl (bs_inV g14) dX4_settleOne_73 (fun H locs hP hD hS => ?_)
      have hP : va_P (dC, dI) vwCl ([(oh, .inr (4, [.int o_told, .int o_wax, .int o_stick, .int o_givers, .int o_promises, .int (o_pan &&& ((1 <<< (p1 &&& 31)) ^^^ (-1))), .ref oq_keeping, .ref oq_giverOf, .ref oq_deedOf, .ref oq_dayOf, .ref oq_likelyOf, .ref oq_kindOf, .ref oq_settledOf])), (oq_keeping, .inl (cI, 4, .inl (upd o_keeping (o_giverOf p1.toNatClampNeg).toNatClampNeg (if ((o_keeping (o_giverOf p1.toNatClampNeg).toNatClampNeg) + 1) < 10 then (o_keeping (o_giverOf p1.toNatClampNeg).toNatClampNeg) + 1 else 10)))), (oq_giverOf, .inl (cI, 8, .inl o_giverOf)), (oq_deedOf, .inl (cI, 8, .inl o_deedOf)), (oq_dayOf, .inl (cI, 8, .inl o_dayOf)), (oq_likelyOf, .inl (cI, 8, .inl o_likelyOf)), (oq_kindOf, .inl (cI, 8, .inl o_kindOf)), (oq_settledOf, .inl (cI, 8, .inl (upd o_settledOf p1.toNatClampNeg 1)))]) H := hP
      have hD : va_D A ([(oh, .inr (4, [.int o_told, .int o_wax, .int o_stick, .int o_givers, .int o_promises, .int (o_pan &&& ((1 <<< (p1 &&& 31)) ^^^ (-1))), .ref oq_keeping, .ref oq_giverOf, .ref oq_deedOf, .ref oq_dayOf, .ref oq_likelyOf, .ref oq_kindOf, .ref oq_settledOf])), (oq_keeping, .inl (cI, 4, .inl (upd o_keeping (o_giverOf p1.toNatClampNeg).toNatClampNeg (if ((o_keeping (o_giverOf p1.toNatClampNeg).toNatClampNeg) + 1) < 10 then (o_keeping (o_giverOf p1.toNatClampNeg).toNatClampNeg) + 1 else 10)))), (oq_giverOf, .inl (cI, 8, .inl o_giverOf)), (oq_deedOf, .inl (cI, 8, .inl o_deedOf)), (oq_dayOf, .inl (cI, 8, .inl o_dayOf)), (oq_likelyOf, .inl (cI, 8, .inl o_likelyOf)), (oq_kindOf, .inl (cI, 8, .inl o_kindOf)), (oq_settledOf, .inl (cI, 8, .inl (upd o_settledOf p1.toNatClampNeg 1)))]) := hD
      obtain rfl := Option.some.inj hf
      exact hret H locs _ _ hP hS dX4_settleOne_74
set_option maxHeartbeats 4000000 in
set_option maxRecDepth 100000 in
theorem k_X4_settleByDays (l : Launch) (dC : Nat → ClassId) (dI : Nat → Nat → Nat) (cI cZ cS cG : ClassId) (oh : Nat) (oq_keeping : Nat) (oq_giverOf : Nat) (oq_deedOf : Nat) (oq_dayOf : Nat) (oq_likelyOf : Nat) (oq_kindOf : Nat) (oq_settledOf : Nat) (o_told : Int32) (o_wax : Int32) (o_stick : Int32) (o_givers : Int32) (o_promises : Int32) (o_pan : Int32) (o_keeping : Nat → Int32) (o_giverOf : Nat → Int32) (o_deedOf : Nat → Int32) (o_dayOf : Nat → Int32) (o_likelyOf : Nat → Int32) (o_kindOf : Nat → Int32) (o_settledOf : Nat → Int32) (p1 : Int32) (out : Int32 × (Nat → Int32) × (Nat → Int32)) (hf : f_X4_settleByDays o_promises o_pan o_keeping o_giverOf o_dayOf o_likelyOf o_kindOf o_settledOf p1 = some out) : bs_CV l dC dI cI cZ cS cG yX4_settleByDays wsX4_settleByDays ({ frames := 4, cells := 0, slots := 0, locals := 91 } : Room) [.ref oh, .int p1] ([(oh, .inr (4, [.int o_told, .int o_wax, .int o_stick, .int o_givers, .int o_promises, .int o_pan, .ref oq_keeping, .ref oq_giverOf, .ref oq_deedOf, .ref oq_dayOf, .ref oq_likelyOf, .ref oq_kindOf, .ref oq_settledOf])), (oq_keeping, .inl (cI, 4, .inl o_keeping)), (oq_giverOf, .inl (cI, 8, .inl o_giverOf)), (oq_deedOf, .inl (cI, 8, .inl o_deedOf)), (oq_dayOf, .inl (cI, 8, .inl o_dayOf)), (oq_likelyOf, .inl (cI, 8, .inl o_likelyOf)), (oq_kindOf, .inl (cI, 8, .inl o_kindOf)), (oq_settledOf, .inl (cI, 8, .inl o_settledOf))]) ([(oh, .inr (4, [.int o_told, .int o_wax, .int o_stick, .int o_givers, .int o_promises, .int out.1, .ref oq_keeping, .ref oq_giverOf, .ref oq_deedOf, .ref oq_dayOf, .ref oq_likelyOf, .ref oq_kindOf, .ref oq_settledOf])), (oq_keeping, .inl (cI, 4, .inl out.2.1)), (oq_giverOf, .inl (cI, 8, .inl o_giverOf)), (oq_deedOf, .inl (cI, 8, .inl o_deedOf)), (oq_dayOf, .inl (cI, 8, .inl o_dayOf)), (oq_likelyOf, .inl (cI, 8, .inl o_likelyOf)), (oq_kindOf, .inl (cI, 8, .inl o_kindOf)), (oq_settledOf, .inl (cI, 8, .inl out.2.2))]) := by
  refine bs_ofV (cc := cX4_settleByDays) (maxL := 4) (by decide) rfl (Nat.le_of_ble_eq_true rfl) ?_
  intro p e s m below meth c A Q hx hb hown hml hts hE H locs hP hD hA hS ls hl hret
  have hK := hE.1
  have hl : lv_has ls 4 [(0, .ref oh), (1, .int p1)] := hl
  have hin4 : ∀ w ∈ u_ws RX4 TX4 13, w ∈ wsX4_settleByDays := by decide +kernel
  have k21 := hts (.fieldLink RX4 21 "PromiseScales$Scales" "dayOf" "[I") (by decide +kernel)
  have k41 := hts (.fieldLink RX4 41 "PromiseScales$Scales" "promises" "I") (by decide +kernel)
  unfold f_X4_settleByDays at hf
  refine lv_iconst (v := 0) hx hb dX4_settleByDays_0 (by decide) ?_
  refine lv_istore_n (lv' := [(2, .int 0), (0, .ref oh), (1, .int p1)]) hx hb dX4_settleByDays_1 rfl hl (by decide) rfl (fun ls hl => ?_)
  have L_2 : ∀ (fuel : Nat) (o_pan_2 : Int32) (o_keeping_2 : Nat → Int32) (o_settledOf_2 : Nat → Int32) (x2_2 : Int32) (H : Heap) (locs : List Loc) (ls : Array Slot), va_P (dC, dI) vwCl ([(oh, .inr (4, [.int o_told, .int o_wax, .int o_stick, .int o_givers, .int o_promises, .int o_pan_2, .ref oq_keeping, .ref oq_giverOf, .ref oq_deedOf, .ref oq_dayOf, .ref oq_likelyOf, .ref oq_kindOf, .ref oq_settledOf])), (oq_keeping, .inl (cI, 4, .inl o_keeping_2)), (oq_giverOf, .inl (cI, 8, .inl o_giverOf)), (oq_deedOf, .inl (cI, 8, .inl o_deedOf)), (oq_dayOf, .inl (cI, 8, .inl o_dayOf)), (oq_likelyOf, .inl (cI, 8, .inl o_likelyOf)), (oq_kindOf, .inl (cI, 8, .inl o_kindOf)), (oq_settledOf, .inl (cI, 8, .inl o_settledOf_2))]) H → va_D A ([(oh, .inr (4, [.int o_told, .int o_wax, .int o_stick, .int o_givers, .int o_promises, .int o_pan_2, .ref oq_keeping, .ref oq_giverOf, .ref oq_deedOf, .ref oq_dayOf, .ref oq_likelyOf, .ref oq_kindOf, .ref oq_settledOf])), (oq_keeping, .inl (cI, 4, .inl o_keeping_2)), (oq_giverOf, .inl (cI, 8, .inl o_giverOf)), (oq_deedOf, .inl (cI, 8, .inl o_deedOf)), (oq_dayOf, .inl (cI, 8, .inl o_dayOf)), (oq_likelyOf, .inl (cI, 8, .inl o_likelyOf)), (oq_kindOf, .inl (cI, 8, .inl o_kindOf)), (oq_settledOf, .inl (cI, 8, .inl o_settledOf_2))]) → va_S A s.heap H locs → lv_has ls 4 [(0, .ref oh), (1, .int p1), (2, .int x2_2)] → f_X4_settleByDays_L2 o_promises o_giverOf o_dayOf o_likelyOf o_kindOf p1 fuel o_pan_2 o_keeping_2 o_settledOf_2 x2_2 = some out → W p l e ({ frames := 4, cells := 0, slots := 0, locals := 91 } : Room) s m ([.ref oh, .int p1] : List Value).toArray below meth c H locs 0 0 Q (F0 m 2 ls []) := by
    intro fuel
    induction fuel with
    | zero =>
      intro o_pan_2 o_keeping_2 o_settledOf_2 x2_2 H locs ls hP hD hS hl hf
      cases (show (none : Option (Int32 × (Nat → Int32) × (Nat → Int32))) = some out from hf)
    | succ n_2 ih_2 =>
      intro o_pan_2 o_keeping_2 o_settledOf_2 x2_2 H locs ls hP hD hS hl hf
      have hf := (f_X4_settleByDays_L2_s o_promises o_giverOf o_dayOf o_likelyOf o_kindOf p1 n_2 o_pan_2 o_keeping_2 o_settledOf_2 x2_2).symm.trans hf
      refine lv_iload_n hx hb dX4_settleByDays_2 rfl (lv_at hl 2 rfl) ?_
      refine lv_bipush (v := 9) hx hb dX4_settleByDays_3 (by decide) ?_
      refine lv_icmp_gt (tgt := 67) hx hb dX4_settleByDays_5 (by decide) (fun c1 => ?_) (fun c1 => ?_)
      · have hf := bs_t hf c1
        obtain rfl := Option.some.inj hf
        exact hret H locs _ _ hP hS dX4_settleByDays_67
      · have hf := bs_f hf c1
        refine lv_iconst (v := 0) hx hb dX4_settleByDays_8 (by decide) ?_
        refine lv_istore_n (lv' := [(3, .int 0), (0, .ref oh), (1, .int p1), (2, .int x2_2)]) hx hb dX4_settleByDays_9 rfl hl (by decide) rfl (fun ls hl => ?_)
        have L_10 : ∀ (fuel : Nat) (o_pan_10 : Int32) (o_keeping_10 : Nat → Int32) (o_settledOf_10 : Nat → Int32) (x3_10 : Int32) (H : Heap) (locs : List Loc) (ls : Array Slot), va_P (dC, dI) vwCl ([(oh, .inr (4, [.int o_told, .int o_wax, .int o_stick, .int o_givers, .int o_promises, .int o_pan_10, .ref oq_keeping, .ref oq_giverOf, .ref oq_deedOf, .ref oq_dayOf, .ref oq_likelyOf, .ref oq_kindOf, .ref oq_settledOf])), (oq_keeping, .inl (cI, 4, .inl o_keeping_10)), (oq_giverOf, .inl (cI, 8, .inl o_giverOf)), (oq_deedOf, .inl (cI, 8, .inl o_deedOf)), (oq_dayOf, .inl (cI, 8, .inl o_dayOf)), (oq_likelyOf, .inl (cI, 8, .inl o_likelyOf)), (oq_kindOf, .inl (cI, 8, .inl o_kindOf)), (oq_settledOf, .inl (cI, 8, .inl o_settledOf_10))]) H → va_D A ([(oh, .inr (4, [.int o_told, .int o_wax, .int o_stick, .int o_givers, .int o_promises, .int o_pan_10, .ref oq_keeping, .ref oq_giverOf, .ref oq_deedOf, .ref oq_dayOf, .ref oq_likelyOf, .ref oq_kindOf, .ref oq_settledOf])), (oq_keeping, .inl (cI, 4, .inl o_keeping_10)), (oq_giverOf, .inl (cI, 8, .inl o_giverOf)), (oq_deedOf, .inl (cI, 8, .inl o_deedOf)), (oq_dayOf, .inl (cI, 8, .inl o_dayOf)), (oq_likelyOf, .inl (cI, 8, .inl o_likelyOf)), (oq_kindOf, .inl (cI, 8, .inl o_kindOf)), (oq_settledOf, .inl (cI, 8, .inl o_settledOf_10))]) → va_S A s.heap H locs → lv_has ls 4 [(0, .ref oh), (1, .int p1), (2, .int x2_2), (3, .int x3_10)] → f_X4_settleByDays_L10 (f_X4_settleByDays_L2 o_promises o_giverOf o_dayOf o_likelyOf o_kindOf p1 n_2) o_promises o_giverOf o_dayOf o_likelyOf o_kindOf p1 x2_2 fuel o_pan_10 o_keeping_10 o_settledOf_10 x3_10 = some out → W p l e ({ frames := 4, cells := 0, slots := 0, locals := 91 } : Room) s m ([.ref oh, .int p1] : List Value).toArray below meth c H locs 0 0 Q (F0 m 10 ls []) := by
          intro fuel
          induction fuel with
          | zero =>
            intro o_pan_10 o_keeping_10 o_settledOf_10 x3_10 H locs ls hP hD hS hl hf
            cases (show (none : Option (Int32 × (Nat → Int32) × (Nat → Int32))) = some out from hf)
          | succ n_10 ih_10 =>
            intro o_pan_10 o_keeping_10 o_settledOf_10 x3_10 H locs ls hP hD hS hl hf
            have hf := (f_X4_settleByDays_L10_s (f_X4_settleByDays_L2 o_promises o_giverOf o_dayOf o_likelyOf o_kindOf p1 n_2) o_promises o_giverOf o_dayOf o_likelyOf o_kindOf p1 x2_2 n_10 o_pan_10 o_keeping_10 o_settledOf_10 x3_10).symm.trans hf
            refine lv_iload_n hx hb dX4_settleByDays_10 rfl (lv_at hl 3 rfl) ?_
            refine lv_aload_n hx hb dX4_settleByDays_11 rfl (lv_at hl 0 rfl) ?_
            refine va_get (D := (dC, dI)) (ci := 4) (v := .int o_promises) (C := RX4) (T := TX4) (N := 13) hx hb hts hin4 hown hK hP 0 rfl rfl 4 (by decide) k41 (fun _ h9 => h9) rfl dX4_settleByDays_12 ?_
            refine lv_icmp_ge (tgt := 61) hx hb dX4_settleByDays_15 (by decide) (fun c2 => ?_) (fun c2 => ?_)
            · have hf := bs_t hf c2
              refine lv_iinc (v := x2_2 + 1) (lv' := [(2, .int (x2_2 + 1)), (0, .ref oh), (1, .int p1), (3, .int x3_10)]) hx hb dX4_settleByDays_61 hl (k := 2) rfl rfl (by decide) rfl (fun ls hl => ?_)
              refine lv_goto (tgt := 2) hx hb dX4_settleByDays_64 (by decide) ?_
              exact ih_2 o_pan_10 o_keeping_10 o_settledOf_10 (x2_2 + 1) H locs ls hP hD hS (lv_sub hl [1, 2, 0] rfl) hf
            · have hf := bs_f hf c2
              refine lv_aload_n hx hb dX4_settleByDays_18 rfl (lv_at hl 0 rfl) ?_
              refine va_get (D := (dC, dI)) (ci := 4) (v := .ref oq_dayOf) (C := RX4) (T := TX4) (N := 13) hx hb hts hin4 hown hK hP 0 rfl rfl 9 (by decide) k21 (fun _ h9 => h9) rfl dX4_settleByDays_19 ?_
              refine lv_iload_n hx hb dX4_settleByDays_22 rfl (lv_at hl 3 rfl) ?_
              obtain ⟨g3, hf⟩ := bs_g hf
              refine va_iald hx hb hK hP 4 0 rfl rfl (bs_inV g3) dX4_settleByDays_23 ?_
              refine lv_iload_n hx hb dX4_settleByDays_24 rfl (lv_at hl 2 rfl) ?_
              refine lv_icmp_ne (tgt := 55) hx hb dX4_settleByDays_25 (by decide) (fun c4 => ?_) (fun c4 => ?_)
              · have hf := bs_f hf c4
                refine lv_iinc (v := x3_10 + 1) (lv' := [(3, .int (x3_10 + 1)), (0, .ref oh), (1, .int p1), (2, .int x2_2)]) hx hb dX4_settleByDays_55 hl (k := 3) rfl rfl (by decide) rfl (fun ls hl => ?_)
                refine lv_goto (tgt := 10) hx hb dX4_settleByDays_58 (by decide) ?_
                exact ih_10 o_pan_10 o_keeping_10 o_settledOf_10 (x3_10 + 1) H locs ls hP hD hS (lv_sub hl [1, 2, 3, 0] rfl) hf
              · have hf := bs_t hf c4
                refine lv_aload_n hx hb dX4_settleByDays_28 rfl (lv_at hl 0 rfl) ?_
                refine lv_iload_n hx hb dX4_settleByDays_29 rfl (lv_at hl 3 rfl) ?_
                obtain ⟨z5, hz5, hf⟩ := bs_b hf
                refine bs_cViR ⟨hx, hb, hml, hown, hts⟩ (k_X4_isSettled l dC dI cI cZ cS cG oh oq_keeping oq_giverOf oq_deedOf oq_dayOf oq_likelyOf oq_kindOf oq_settledOf o_told o_wax o_stick o_givers o_promises o_pan_10 o_keeping_10 o_giverOf o_deedOf o_dayOf o_likelyOf o_kindOf o_settledOf_10 x3_10 z5 hz5) (cwV 1 hts gX4_settleByDays_X4_isSettled rfl rfl rfl (by decide +kernel) ⟨Nat.le_of_ble_eq_true rfl, Nat.le_of_ble_eq_true rfl⟩) hE hP hD hA hS [0, 1, 2, 3, 4, 5, 6, 7] rfl rfl 4 0 rfl rfl rfl rfl hl.1 (Nat.le_of_ble_eq_true rfl) dX4_settleByDays_30 (fun H locs hP hS => ?_)
                refine lv_if_ne (tgt := 55) hx hb dX4_settleByDays_33 (by decide) (fun c6 => ?_) (fun c6 => ?_)
                · have hf := bs_f hf c6
                  refine lv_iinc (v := x3_10 + 1) (lv' := [(3, .int (x3_10 + 1)), (0, .ref oh), (1, .int p1), (2, .int x2_2)]) hx hb dX4_settleByDays_55 hl (k := 3) rfl rfl (by decide) rfl (fun ls hl => ?_)
                  refine lv_goto (tgt := 10) hx hb dX4_settleByDays_58 (by decide) ?_
                  exact ih_10 o_pan_10 o_keeping_10 o_settledOf_10 (x3_10 + 1) H locs ls hP hD hS (lv_sub hl [1, 2, 3, 0] rfl) hf
                · have hf := bs_t hf c6
                  refine lv_aload_n hx hb dX4_settleByDays_36 rfl (lv_at hl 0 rfl) ?_
                  refine lv_iload_n hx hb dX4_settleByDays_37 rfl (lv_at hl 3 rfl) ?_
                  refine lv_aload_n hx hb dX4_settleByDays_38 rfl (lv_at hl 0 rfl) ?_
                  refine lv_iload_n hx hb dX4_settleByDays_39 rfl (lv_at hl 3 rfl) ?_
                  obtain ⟨z7, hz7, hf⟩ := bs_b hf
                  refine bs_cViR ⟨hx, hb, hml, hown, hts⟩ (k_X4_weightOf l dC dI cI cZ cS cG oh oq_keeping oq_giverOf oq_deedOf oq_dayOf oq_likelyOf oq_kindOf oq_settledOf o_told o_wax o_stick o_givers o_promises o_pan_10 o_keeping_10 o_giverOf o_deedOf o_dayOf o_likelyOf o_kindOf o_settledOf_10 x3_10 z7 hz7) (cwV 1 hts gX4_settleByDays_X4_weightOf rfl rfl rfl (by decide +kernel) ⟨Nat.le_of_ble_eq_true rfl, Nat.le_of_ble_eq_true rfl⟩) hE hP hD hA hS [0, 1, 2, 3, 4, 5, 6, 7] rfl rfl 4 0 rfl rfl rfl rfl hl.1 (Nat.le_of_ble_eq_true rfl) dX4_settleByDays_40 (fun H locs hP hS => ?_)
                  refine lv_iload_n hx hb dX4_settleByDays_43 rfl (lv_at hl 1 rfl) ?_
                  refine lv_icmp_lt (tgt := 51) hx hb dX4_settleByDays_44 (by decide) (fun c8 => ?_) (fun c8 => ?_)
                  · have hf := bs_t hf c8
                    refine lv_iconst (v := 0) hx hb dX4_settleByDays_51 (by decide) ?_
                    obtain ⟨z9, hz9, hf⟩ := bs_b hf
                    refine bs_cVv (ws1 := [(oh, .inr (4, [.int o_told, .int o_wax, .int o_stick, .int o_givers, .int o_promises, .int z9.1, .ref oq_keeping, .ref oq_giverOf, .ref oq_deedOf, .ref oq_dayOf, .ref oq_likelyOf, .ref oq_kindOf, .ref oq_settledOf])), (oq_keeping, .inl (cI, 4, .inl z9.2.1)), (oq_giverOf, .inl (cI, 8, .inl o_giverOf)), (oq_deedOf, .inl (cI, 8, .inl o_deedOf)), (oq_dayOf, .inl (cI, 8, .inl o_dayOf)), (oq_likelyOf, .inl (cI, 8, .inl o_likelyOf)), (oq_kindOf, .inl (cI, 8, .inl o_kindOf)), (oq_settledOf, .inl (cI, 8, .inl z9.2.2))]) ⟨hx, hb, hml, hown, hts⟩ (k_X4_settleOne l dC dI cI cZ cS cG oh oq_keeping oq_giverOf oq_deedOf oq_dayOf oq_likelyOf oq_kindOf oq_settledOf o_told o_wax o_stick o_givers o_promises o_pan_10 o_keeping_10 o_giverOf o_deedOf o_dayOf o_likelyOf o_kindOf o_settledOf_10 x3_10 (0 : Int32) z9 hz9) (cwV 2 hts gX4_settleByDays_X4_settleOne rfl rfl rfl (by decide +kernel) ⟨Nat.le_of_ble_eq_true rfl, Nat.le_of_ble_eq_true rfl⟩) hE hP hD hA hS [0, 1, 2, 3, 4, 5, 6, 7] rfl rfl 4 0 rfl rfl rfl rfl rfl rfl rfl hl.1 (Nat.le_of_ble_eq_true rfl) dX4_settleByDays_52 (fun H locs hP hD hS => ?_)
                    refine lv_iinc (v := x3_10 + 1) (lv' := [(3, .int (x3_10 + 1)), (0, .ref oh), (1, .int p1), (2, .int x2_2)]) hx hb dX4_settleByDays_55 hl (k := 3) rfl rfl (by decide) rfl (fun ls hl => ?_)
                    refine lv_goto (tgt := 10) hx hb dX4_settleByDays_58 (by decide) ?_
                    exact ih_10 z9.1 z9.2.1 z9.2.2 (x3_10 + 1) H locs ls hP hD hS (lv_sub hl [1, 2, 3, 0] rfl) hf
                  · have hf := bs_f hf c8
                    refine lv_iconst (v := 1) hx hb dX4_settleByDays_47 (by decide) ?_
                    refine lv_goto (tgt := 52) hx hb dX4_settleByDays_48 (by decide) ?_
                    obtain ⟨z10, hz10, hf⟩ := bs_b hf
                    refine bs_cVv (ws1 := [(oh, .inr (4, [.int o_told, .int o_wax, .int o_stick, .int o_givers, .int o_promises, .int z10.1, .ref oq_keeping, .ref oq_giverOf, .ref oq_deedOf, .ref oq_dayOf, .ref oq_likelyOf, .ref oq_kindOf, .ref oq_settledOf])), (oq_keeping, .inl (cI, 4, .inl z10.2.1)), (oq_giverOf, .inl (cI, 8, .inl o_giverOf)), (oq_deedOf, .inl (cI, 8, .inl o_deedOf)), (oq_dayOf, .inl (cI, 8, .inl o_dayOf)), (oq_likelyOf, .inl (cI, 8, .inl o_likelyOf)), (oq_kindOf, .inl (cI, 8, .inl o_kindOf)), (oq_settledOf, .inl (cI, 8, .inl z10.2.2))]) ⟨hx, hb, hml, hown, hts⟩ (k_X4_settleOne l dC dI cI cZ cS cG oh oq_keeping oq_giverOf oq_deedOf oq_dayOf oq_likelyOf oq_kindOf oq_settledOf o_told o_wax o_stick o_givers o_promises o_pan_10 o_keeping_10 o_giverOf o_deedOf o_dayOf o_likelyOf o_kindOf o_settledOf_10 x3_10 (1 : Int32) z10 hz10) (cwV 2 hts gX4_settleByDays_X4_settleOne rfl rfl rfl (by decide +kernel) ⟨Nat.le_of_ble_eq_true rfl, Nat.le_of_ble_eq_true rfl⟩) hE hP hD hA hS [0, 1, 2, 3, 4, 5, 6, 7] rfl rfl 4 0 rfl rfl rfl rfl rfl rfl rfl hl.1 (Nat.le_of_ble_eq_true rfl) dX4_settleByDays_52 (fun H locs hP hD hS => ?_)
                    refine lv_iinc (v := x3_10 + 1) (lv' := [(3, .int (x3_10 + 1)), (0, .ref oh), (1, .int p1), (2, .int x2_2)]) hx hb dX4_settleByDays_55 hl (k := 3) rfl rfl (by decide) rfl (fun ls hl => ?_)
                    refine lv_goto (tgt := 10) hx hb dX4_settleByDays_58 (by decide) ?_
                    exact ih_10 z10.1 z10.2.1 z10.2.2 (x3_10 + 1) H locs ls hP hD hS (lv_sub hl [1, 2, 3, 0] rfl) hf
        exact L_10 bs_F o_pan_2 o_keeping_2 o_settledOf_2 (0 : Int32) H locs ls hP hD hS (lv_sub hl [1, 2, 3, 0] rfl) hf
  exact L_2 bs_F o_pan o_keeping o_settledOf (0 : Int32) H locs ls hP hD hS (lv_sub hl [1, 2, 0] rfl) hf
set_option maxHeartbeats 4000000 in
set_option maxRecDepth 100000 in
theorem k_X4_howManyKept (l : Launch) (dC : Nat → ClassId) (dI : Nat → Nat → Nat) (cI cZ cS cG : ClassId) (oh : Nat) (oq_keeping : Nat) (oq_giverOf : Nat) (oq_deedOf : Nat) (oq_dayOf : Nat) (oq_likelyOf : Nat) (oq_kindOf : Nat) (oq_settledOf : Nat) (o_told : Int32) (o_wax : Int32) (o_stick : Int32) (o_givers : Int32) (o_promises : Int32) (o_pan : Int32) (o_keeping : Nat → Int32) (o_giverOf : Nat → Int32) (o_deedOf : Nat → Int32) (o_dayOf : Nat → Int32) (o_likelyOf : Nat → Int32) (o_kindOf : Nat → Int32) (o_settledOf : Nat → Int32) (p1 : Int32) (out : Int32) (hf : f_X4_howManyKept o_promises o_giverOf o_settledOf p1 = some out) : bs_C l dC dI cI cZ cS cG yX4_howManyKept wsX4_howManyKept ({ frames := 0, cells := 0, slots := 0, locals := 0 } : Room) [.ref oh, .int p1] ([(oh, .inr (4, [.int o_told, .int o_wax, .int o_stick, .int o_givers, .int o_promises, .int o_pan, .ref oq_keeping, .ref oq_giverOf, .ref oq_deedOf, .ref oq_dayOf, .ref oq_likelyOf, .ref oq_kindOf, .ref oq_settledOf])), (oq_keeping, .inl (cI, 4, .inl o_keeping)), (oq_giverOf, .inl (cI, 8, .inl o_giverOf)), (oq_deedOf, .inl (cI, 8, .inl o_deedOf)), (oq_dayOf, .inl (cI, 8, .inl o_dayOf)), (oq_likelyOf, .inl (cI, 8, .inl o_likelyOf)), (oq_kindOf, .inl (cI, 8, .inl o_kindOf)), (oq_settledOf, .inl (cI, 8, .inl o_settledOf))]) out ([(oh, .inr (4, [.int o_told, .int o_wax, .int o_stick, .int o_givers, .int o_promises, .int o_pan, .ref oq_keeping, .ref oq_giverOf, .ref oq_deedOf, .ref oq_dayOf, .ref oq_likelyOf, .ref oq_kindOf, .ref oq_settledOf])), (oq_keeping, .inl (cI, 4, .inl o_keeping)), (oq_giverOf, .inl (cI, 8, .inl o_giverOf)), (oq_deedOf, .inl (cI, 8, .inl o_deedOf)), (oq_dayOf, .inl (cI, 8, .inl o_dayOf)), (oq_likelyOf, .inl (cI, 8, .inl o_likelyOf)), (oq_kindOf, .inl (cI, 8, .inl o_kindOf)), (oq_settledOf, .inl (cI, 8, .inl o_settledOf))]) := by
  refine bs_ofI (cc := cX4_howManyKept) (maxL := 4) (by decide) rfl (Nat.le_of_ble_eq_true rfl) ?_
  intro p e s m below meth c A Q hx hb hown hml hts hE H locs hP hD hA hS ls hl hret
  have hK := hE.1
  have hl : lv_has ls 4 [(0, .ref oh), (1, .int p1)] := hl
  have hin4 : ∀ w ∈ u_ws RX4 TX4 13, w ∈ wsX4_howManyKept := by decide +kernel
  have k15 := hts (.fieldLink RX4 15 "PromiseScales$Scales" "giverOf" "[I") (by decide +kernel)
  have k30 := hts (.fieldLink RX4 30 "PromiseScales$Scales" "settledOf" "[I") (by decide +kernel)
  have k41 := hts (.fieldLink RX4 41 "PromiseScales$Scales" "promises" "I") (by decide +kernel)
  unfold f_X4_howManyKept at hf
  refine lv_iconst (v := 0) hx hb dX4_howManyKept_0 (by decide) ?_
  refine lv_istore_n (lv' := [(2, .int 0), (0, .ref oh), (1, .int p1)]) hx hb dX4_howManyKept_1 rfl hl (by decide) rfl (fun ls hl => ?_)
  refine lv_iconst (v := 0) hx hb dX4_howManyKept_2 (by decide) ?_
  refine lv_istore_n (lv' := [(3, .int 0), (2, .int 0), (0, .ref oh), (1, .int p1)]) hx hb dX4_howManyKept_3 rfl hl (by decide) rfl (fun ls hl => ?_)
  have L_4 : ∀ (fuel : Nat) (x2_4 : Int32) (x3_4 : Int32) (H : Heap) (locs : List Loc) (ls : Array Slot), va_P (dC, dI) vwCl ([(oh, .inr (4, [.int o_told, .int o_wax, .int o_stick, .int o_givers, .int o_promises, .int o_pan, .ref oq_keeping, .ref oq_giverOf, .ref oq_deedOf, .ref oq_dayOf, .ref oq_likelyOf, .ref oq_kindOf, .ref oq_settledOf])), (oq_keeping, .inl (cI, 4, .inl o_keeping)), (oq_giverOf, .inl (cI, 8, .inl o_giverOf)), (oq_deedOf, .inl (cI, 8, .inl o_deedOf)), (oq_dayOf, .inl (cI, 8, .inl o_dayOf)), (oq_likelyOf, .inl (cI, 8, .inl o_likelyOf)), (oq_kindOf, .inl (cI, 8, .inl o_kindOf)), (oq_settledOf, .inl (cI, 8, .inl o_settledOf))]) H → va_D A ([(oh, .inr (4, [.int o_told, .int o_wax, .int o_stick, .int o_givers, .int o_promises, .int o_pan, .ref oq_keeping, .ref oq_giverOf, .ref oq_deedOf, .ref oq_dayOf, .ref oq_likelyOf, .ref oq_kindOf, .ref oq_settledOf])), (oq_keeping, .inl (cI, 4, .inl o_keeping)), (oq_giverOf, .inl (cI, 8, .inl o_giverOf)), (oq_deedOf, .inl (cI, 8, .inl o_deedOf)), (oq_dayOf, .inl (cI, 8, .inl o_dayOf)), (oq_likelyOf, .inl (cI, 8, .inl o_likelyOf)), (oq_kindOf, .inl (cI, 8, .inl o_kindOf)), (oq_settledOf, .inl (cI, 8, .inl o_settledOf))]) → va_S A s.heap H locs → lv_has ls 4 [(0, .ref oh), (1, .int p1), (2, .int x2_4), (3, .int x3_4)] → f_X4_howManyKept_L4 o_promises o_giverOf o_settledOf p1 fuel x2_4 x3_4 = some out → W p l e ({ frames := 0, cells := 0, slots := 0, locals := 0 } : Room) s m ([.ref oh, .int p1] : List Value).toArray below meth c H locs 0 0 Q (F0 m 4 ls []) := by
    intro fuel
    induction fuel with
    | zero =>
      intro x2_4 x3_4 H locs ls hP hD hS hl hf
      cases (show (none : Option (Int32)) = some out from hf)
    | succ n_4 ih_4 =>
      intro x2_4 x3_4 H locs ls hP hD hS hl hf
      have hf := (f_X4_howManyKept_L4_s o_promises o_giverOf o_settledOf p1 n_4 x2_4 x3_4).symm.trans hf
      refine lv_iload_n hx hb dX4_howManyKept_4 rfl (lv_at hl 3 rfl) ?_
      refine lv_aload_n hx hb dX4_howManyKept_5 rfl (lv_at hl 0 rfl) ?_
      refine va_get (D := (dC, dI)) (ci := 4) (v := .int o_promises) (C := RX4) (T := TX4) (N := 13) hx hb hts hin4 hown hK hP 0 rfl rfl 4 (by decide) k41 (fun _ h9 => h9) rfl dX4_howManyKept_6 ?_
      refine lv_icmp_ge (tgt := 46) hx hb dX4_howManyKept_9 (by decide) (fun c1 => ?_) (fun c1 => ?_)
      · have hf := bs_t hf c1
        refine lv_iload_n hx hb dX4_howManyKept_46 rfl (lv_at hl 2 rfl) ?_
        obtain rfl := Option.some.inj hf
        exact hret H locs _ _ hP hS rfl dX4_howManyKept_47
      · have hf := bs_f hf c1
        refine lv_iload_n hx hb dX4_howManyKept_12 rfl (lv_at hl 2 rfl) ?_
        refine lv_aload_n hx hb dX4_howManyKept_13 rfl (lv_at hl 0 rfl) ?_
        refine va_get (D := (dC, dI)) (ci := 4) (v := .ref oq_giverOf) (C := RX4) (T := TX4) (N := 13) hx hb hts hin4 hown hK hP 0 rfl rfl 7 (by decide) k15 (fun _ h9 => h9) rfl dX4_howManyKept_14 ?_
        refine lv_iload_n hx hb dX4_howManyKept_17 rfl (lv_at hl 3 rfl) ?_
        obtain ⟨g2, hf⟩ := bs_g hf
        refine va_iald hx hb hK hP 2 0 rfl rfl (bs_inV g2) dX4_howManyKept_18 ?_
        refine lv_iload_n hx hb dX4_howManyKept_19 rfl (lv_at hl 1 rfl) ?_
        refine lv_icmp_ne (tgt := 37) hx hb dX4_howManyKept_20 (by decide) (fun c3 => ?_) (fun c3 => ?_)
        · have hf := bs_f hf c3
          refine lv_iconst (v := 0) hx hb dX4_howManyKept_37 (by decide) ?_
          refine lv_iadd hx hb dX4_howManyKept_38 ?_
          refine lv_istore_n (lv' := [(2, .int (x2_4 + 0)), (0, .ref oh), (1, .int p1), (3, .int x3_4)]) hx hb dX4_howManyKept_39 rfl hl (by decide) rfl (fun ls hl => ?_)
          refine lv_iinc (v := x3_4 + 1) (lv' := [(3, .int (x3_4 + 1)), (2, .int (x2_4 + 0)), (0, .ref oh), (1, .int p1)]) hx hb dX4_howManyKept_40 hl (k := 3) rfl rfl (by decide) rfl (fun ls hl => ?_)
          refine lv_goto (tgt := 4) hx hb dX4_howManyKept_43 (by decide) ?_
          exact ih_4 (x2_4 + 0) (x3_4 + 1) H locs ls hP hD hS (lv_sub hl [2, 3, 1, 0] rfl) hf
        · have hf := bs_t hf c3
          refine lv_aload_n hx hb dX4_howManyKept_23 rfl (lv_at hl 0 rfl) ?_
          refine va_get (D := (dC, dI)) (ci := 4) (v := .ref oq_settledOf) (C := RX4) (T := TX4) (N := 13) hx hb hts hin4 hown hK hP 0 rfl rfl 12 (by decide) k30 (fun _ h9 => h9) rfl dX4_howManyKept_24 ?_
          refine lv_iload_n hx hb dX4_howManyKept_27 rfl (lv_at hl 3 rfl) ?_
          obtain ⟨g4, hf⟩ := bs_g hf
          refine va_iald hx hb hK hP 7 0 rfl rfl (bs_inV g4) dX4_howManyKept_28 ?_
          refine lv_iconst (v := 1) hx hb dX4_howManyKept_29 (by decide) ?_
          refine lv_icmp_ne (tgt := 37) hx hb dX4_howManyKept_30 (by decide) (fun c5 => ?_) (fun c5 => ?_)
          · have hf := bs_f hf c5
            refine lv_iconst (v := 0) hx hb dX4_howManyKept_37 (by decide) ?_
            refine lv_iadd hx hb dX4_howManyKept_38 ?_
            refine lv_istore_n (lv' := [(2, .int (x2_4 + 0)), (0, .ref oh), (1, .int p1), (3, .int x3_4)]) hx hb dX4_howManyKept_39 rfl hl (by decide) rfl (fun ls hl => ?_)
            refine lv_iinc (v := x3_4 + 1) (lv' := [(3, .int (x3_4 + 1)), (2, .int (x2_4 + 0)), (0, .ref oh), (1, .int p1)]) hx hb dX4_howManyKept_40 hl (k := 3) rfl rfl (by decide) rfl (fun ls hl => ?_)
            refine lv_goto (tgt := 4) hx hb dX4_howManyKept_43 (by decide) ?_
            exact ih_4 (x2_4 + 0) (x3_4 + 1) H locs ls hP hD hS (lv_sub hl [2, 3, 1, 0] rfl) hf
          · have hf := bs_t hf c5
            refine lv_iconst (v := 1) hx hb dX4_howManyKept_33 (by decide) ?_
            refine lv_goto (tgt := 38) hx hb dX4_howManyKept_34 (by decide) ?_
            refine lv_iadd hx hb dX4_howManyKept_38 ?_
            refine lv_istore_n (lv' := [(2, .int (x2_4 + 1)), (0, .ref oh), (1, .int p1), (3, .int x3_4)]) hx hb dX4_howManyKept_39 rfl hl (by decide) rfl (fun ls hl => ?_)
            refine lv_iinc (v := x3_4 + 1) (lv' := [(3, .int (x3_4 + 1)), (2, .int (x2_4 + 1)), (0, .ref oh), (1, .int p1)]) hx hb dX4_howManyKept_40 hl (k := 3) rfl rfl (by decide) rfl (fun ls hl => ?_)
            refine lv_goto (tgt := 4) hx hb dX4_howManyKept_43 (by decide) ?_
            exact ih_4 (x2_4 + 1) (x3_4 + 1) H locs ls hP hD hS (lv_sub hl [2, 3, 1, 0] rfl) hf
  exact L_4 bs_F (0 : Int32) (0 : Int32) H locs ls hP hD hS (lv_sub hl [2, 3, 1, 0] rfl) hf
set_option maxHeartbeats 4000000 in
set_option maxRecDepth 100000 in
theorem k_X4_weightBy (l : Launch) (dC : Nat → ClassId) (dI : Nat → Nat → Nat) (cI cZ cS cG : ClassId) (oh : Nat) (oq_keeping : Nat) (oq_giverOf : Nat) (oq_deedOf : Nat) (oq_dayOf : Nat) (oq_likelyOf : Nat) (oq_kindOf : Nat) (oq_settledOf : Nat) (o_told : Int32) (o_wax : Int32) (o_stick : Int32) (o_givers : Int32) (o_promises : Int32) (o_pan : Int32) (o_keeping : Nat → Int32) (o_giverOf : Nat → Int32) (o_deedOf : Nat → Int32) (o_dayOf : Nat → Int32) (o_likelyOf : Nat → Int32) (o_kindOf : Nat → Int32) (o_settledOf : Nat → Int32) (p1 : Int32) (p2 : Int32) (out : Int32) (hf : f_X4_weightBy o_keeping o_giverOf o_likelyOf o_kindOf o_settledOf p1 p2 = some out) : bs_C l dC dI cI cZ cS cG yX4_weightBy wsX4_weightBy ({ frames := 4, cells := 0, slots := 0, locals := 91 } : Room) [.ref oh, .int p1, .int p2] ([(oh, .inr (4, [.int o_told, .int o_wax, .int o_stick, .int o_givers, .int o_promises, .int o_pan, .ref oq_keeping, .ref oq_giverOf, .ref oq_deedOf, .ref oq_dayOf, .ref oq_likelyOf, .ref oq_kindOf, .ref oq_settledOf])), (oq_keeping, .inl (cI, 4, .inl o_keeping)), (oq_giverOf, .inl (cI, 8, .inl o_giverOf)), (oq_deedOf, .inl (cI, 8, .inl o_deedOf)), (oq_dayOf, .inl (cI, 8, .inl o_dayOf)), (oq_likelyOf, .inl (cI, 8, .inl o_likelyOf)), (oq_kindOf, .inl (cI, 8, .inl o_kindOf)), (oq_settledOf, .inl (cI, 8, .inl o_settledOf))]) out ([(oh, .inr (4, [.int o_told, .int o_wax, .int o_stick, .int o_givers, .int o_promises, .int o_pan, .ref oq_keeping, .ref oq_giverOf, .ref oq_deedOf, .ref oq_dayOf, .ref oq_likelyOf, .ref oq_kindOf, .ref oq_settledOf])), (oq_keeping, .inl (cI, 4, .inl o_keeping)), (oq_giverOf, .inl (cI, 8, .inl o_giverOf)), (oq_deedOf, .inl (cI, 8, .inl o_deedOf)), (oq_dayOf, .inl (cI, 8, .inl o_dayOf)), (oq_likelyOf, .inl (cI, 8, .inl o_likelyOf)), (oq_kindOf, .inl (cI, 8, .inl o_kindOf)), (oq_settledOf, .inl (cI, 8, .inl o_settledOf))]) := by
  refine bs_ofI (cc := cX4_weightBy) (maxL := 3) (by decide) rfl (Nat.le_of_ble_eq_true rfl) ?_
  intro p e s m below meth c A Q hx hb hown hml hts hE H locs hP hD hA hS ls hl hret
  have hK := hE.1
  have hl : lv_has ls 3 [(0, .ref oh), (1, .int p1), (2, .int p2)] := hl
  unfold f_X4_weightBy at hf
  refine lv_aload_n hx hb dX4_weightBy_0 rfl (lv_at hl 0 rfl) ?_
  refine lv_iload_n hx hb dX4_weightBy_1 rfl (lv_at hl 1 rfl) ?_
  refine lv_iload_n hx hb dX4_weightBy_2 rfl (lv_at hl 2 rfl) ?_
  refine lv_iload_n hx hb dX4_weightBy_3 rfl (lv_at hl 1 rfl) ?_
  refine lv_if_ne (tgt := 11) hx hb dX4_weightBy_4 (by decide) (fun c1 => ?_) (fun c1 => ?_)
  · have hf := bs_f hf c1
    refine lv_aload_n hx hb dX4_weightBy_11 rfl (lv_at hl 0 rfl) ?_
    refine lv_iload_n hx hb dX4_weightBy_12 rfl (lv_at hl 1 rfl) ?_
    refine lv_iconst (v := 1) hx hb dX4_weightBy_13 (by decide) ?_
    refine lv_isub hx hb dX4_weightBy_14 ?_
    obtain ⟨z2, hz2, hf⟩ := bs_b hf
    refine bs_cViR ⟨hx, hb, hml, hown, hts⟩ (k_X4_weightOf l dC dI cI cZ cS cG oh oq_keeping oq_giverOf oq_deedOf oq_dayOf oq_likelyOf oq_kindOf oq_settledOf o_told o_wax o_stick o_givers o_promises o_pan o_keeping o_giverOf o_deedOf o_dayOf o_likelyOf o_kindOf o_settledOf (p1 - 1) z2 hz2) (cwV 1 hts gX4_weightBy_X4_weightOf rfl rfl rfl (by decide +kernel) ⟨Nat.le_of_ble_eq_true rfl, Nat.le_of_ble_eq_true rfl⟩) hE hP hD hA hS [0, 1, 2, 3, 4, 5, 6, 7] rfl rfl 4 0 rfl rfl rfl rfl hl.1 (Nat.le_of_ble_eq_true rfl) dX4_weightBy_15 (fun H locs hP hS => ?_)
    obtain ⟨z3, hz3, hf⟩ := bs_b hf
    refine bs_cViR ⟨hx, hb, hml, hown, hts⟩ (k_X4_weightIf l dC dI cI cZ cS cG oh oq_keeping oq_giverOf oq_deedOf oq_dayOf oq_likelyOf oq_kindOf oq_settledOf o_told o_wax o_stick o_givers o_promises o_pan o_keeping o_giverOf o_deedOf o_dayOf o_likelyOf o_kindOf o_settledOf p1 p2 z2 z3 hz3) (cwV 3 hts gX4_weightBy_X4_weightIf rfl rfl rfl (by decide +kernel) ⟨Nat.le_of_ble_eq_true rfl, Nat.le_of_ble_eq_true rfl⟩) hE hP hD hA hS [0, 1, 2, 3, 4, 5, 6, 7] rfl rfl 4 0 rfl rfl rfl rfl hl.1 (Nat.le_of_ble_eq_true rfl) dX4_weightBy_18 (fun H locs hP hS => ?_)
    obtain rfl := Option.some.inj hf
    exact hret H locs _ _ hP hS rfl dX4_weightBy_21
  · have hf := bs_t hf c1
    refine lv_iconst (v := 0) hx hb dX4_weightBy_7 (by decide) ?_
    refine lv_goto (tgt := 18) hx hb dX4_weightBy_8 (by decide) ?_
    obtain ⟨z4, hz4, hf⟩ := bs_b hf
    refine bs_cViR ⟨hx, hb, hml, hown, hts⟩ (k_X4_weightIf l dC dI cI cZ cS cG oh oq_keeping oq_giverOf oq_deedOf oq_dayOf oq_likelyOf oq_kindOf oq_settledOf o_told o_wax o_stick o_givers o_promises o_pan o_keeping o_giverOf o_deedOf o_dayOf o_likelyOf o_kindOf o_settledOf p1 p2 (0 : Int32) z4 hz4) (cwV 3 hts gX4_weightBy_X4_weightIf rfl rfl rfl (by decide +kernel) ⟨Nat.le_of_ble_eq_true rfl, Nat.le_of_ble_eq_true rfl⟩) hE hP hD hA hS [0, 1, 2, 3, 4, 5, 6, 7] rfl rfl 4 0 rfl rfl rfl rfl hl.1 (Nat.le_of_ble_eq_true rfl) dX4_weightBy_18 (fun H locs hP hS => ?_)
    obtain rfl := Option.some.inj hf
    exact hret H locs _ _ hP hS rfl dX4_weightBy_21
set_option maxHeartbeats 4000000 in
set_option maxRecDepth 100000 in
theorem k_X4_bestKindOf (l : Launch) (dC : Nat → ClassId) (dI : Nat → Nat → Nat) (cI cZ cS cG : ClassId) (oh : Nat) (oq_keeping : Nat) (oq_giverOf : Nat) (oq_deedOf : Nat) (oq_dayOf : Nat) (oq_likelyOf : Nat) (oq_kindOf : Nat) (oq_settledOf : Nat) (o_told : Int32) (o_wax : Int32) (o_stick : Int32) (o_givers : Int32) (o_promises : Int32) (o_pan : Int32) (o_keeping : Nat → Int32) (o_giverOf : Nat → Int32) (o_deedOf : Nat → Int32) (o_dayOf : Nat → Int32) (o_likelyOf : Nat → Int32) (o_kindOf : Nat → Int32) (o_settledOf : Nat → Int32) (p1 : Int32) (out : Int32) (hf : f_X4_bestKindOf o_keeping o_giverOf o_likelyOf o_kindOf o_settledOf p1 = some out) : bs_C l dC dI cI cZ cS cG yX4_bestKindOf wsX4_bestKindOf ({ frames := 5, cells := 0, slots := 0, locals := 113 } : Room) [.ref oh, .int p1] ([(oh, .inr (4, [.int o_told, .int o_wax, .int o_stick, .int o_givers, .int o_promises, .int o_pan, .ref oq_keeping, .ref oq_giverOf, .ref oq_deedOf, .ref oq_dayOf, .ref oq_likelyOf, .ref oq_kindOf, .ref oq_settledOf])), (oq_keeping, .inl (cI, 4, .inl o_keeping)), (oq_giverOf, .inl (cI, 8, .inl o_giverOf)), (oq_deedOf, .inl (cI, 8, .inl o_deedOf)), (oq_dayOf, .inl (cI, 8, .inl o_dayOf)), (oq_likelyOf, .inl (cI, 8, .inl o_likelyOf)), (oq_kindOf, .inl (cI, 8, .inl o_kindOf)), (oq_settledOf, .inl (cI, 8, .inl o_settledOf))]) out ([(oh, .inr (4, [.int o_told, .int o_wax, .int o_stick, .int o_givers, .int o_promises, .int o_pan, .ref oq_keeping, .ref oq_giverOf, .ref oq_deedOf, .ref oq_dayOf, .ref oq_likelyOf, .ref oq_kindOf, .ref oq_settledOf])), (oq_keeping, .inl (cI, 4, .inl o_keeping)), (oq_giverOf, .inl (cI, 8, .inl o_giverOf)), (oq_deedOf, .inl (cI, 8, .inl o_deedOf)), (oq_dayOf, .inl (cI, 8, .inl o_dayOf)), (oq_likelyOf, .inl (cI, 8, .inl o_likelyOf)), (oq_kindOf, .inl (cI, 8, .inl o_kindOf)), (oq_settledOf, .inl (cI, 8, .inl o_settledOf))]) := by
  refine bs_ofI (cc := cX4_bestKindOf) (maxL := 4) (by decide) rfl (Nat.le_of_ble_eq_true rfl) ?_
  intro p e s m below meth c A Q hx hb hown hml hts hE H locs hP hD hA hS ls hl hret
  have hK := hE.1
  have hl : lv_has ls 4 [(0, .ref oh), (1, .int p1)] := hl
  unfold f_X4_bestKindOf at hf
  refine lv_iconst (v := 1) hx hb dX4_bestKindOf_0 (by decide) ?_
  refine lv_istore_n (lv' := [(2, .int 1), (0, .ref oh), (1, .int p1)]) hx hb dX4_bestKindOf_1 rfl hl (by decide) rfl (fun ls hl => ?_)
  refine lv_iconst (v := 2) hx hb dX4_bestKindOf_2 (by decide) ?_
  refine lv_istore_n (lv' := [(3, .int 2), (2, .int 1), (0, .ref oh), (1, .int p1)]) hx hb dX4_bestKindOf_3 rfl hl (by decide) rfl (fun ls hl => ?_)
  have L_4 : ∀ (fuel : Nat) (x2_4 : Int32) (x3_4 : Int32) (H : Heap) (locs : List Loc) (ls : Array Slot), va_P (dC, dI) vwCl ([(oh, .inr (4, [.int o_told, .int o_wax, .int o_stick, .int o_givers, .int o_promises, .int o_pan, .ref oq_keeping, .ref oq_giverOf, .ref oq_deedOf, .ref oq_dayOf, .ref oq_likelyOf, .ref oq_kindOf, .ref oq_settledOf])), (oq_keeping, .inl (cI, 4, .inl o_keeping)), (oq_giverOf, .inl (cI, 8, .inl o_giverOf)), (oq_deedOf, .inl (cI, 8, .inl o_deedOf)), (oq_dayOf, .inl (cI, 8, .inl o_dayOf)), (oq_likelyOf, .inl (cI, 8, .inl o_likelyOf)), (oq_kindOf, .inl (cI, 8, .inl o_kindOf)), (oq_settledOf, .inl (cI, 8, .inl o_settledOf))]) H → va_D A ([(oh, .inr (4, [.int o_told, .int o_wax, .int o_stick, .int o_givers, .int o_promises, .int o_pan, .ref oq_keeping, .ref oq_giverOf, .ref oq_deedOf, .ref oq_dayOf, .ref oq_likelyOf, .ref oq_kindOf, .ref oq_settledOf])), (oq_keeping, .inl (cI, 4, .inl o_keeping)), (oq_giverOf, .inl (cI, 8, .inl o_giverOf)), (oq_deedOf, .inl (cI, 8, .inl o_deedOf)), (oq_dayOf, .inl (cI, 8, .inl o_dayOf)), (oq_likelyOf, .inl (cI, 8, .inl o_likelyOf)), (oq_kindOf, .inl (cI, 8, .inl o_kindOf)), (oq_settledOf, .inl (cI, 8, .inl o_settledOf))]) → va_S A s.heap H locs → lv_has ls 4 [(0, .ref oh), (1, .int p1), (2, .int x2_4), (3, .int x3_4)] → f_X4_bestKindOf_L4 o_keeping o_giverOf o_likelyOf o_kindOf o_settledOf p1 fuel x2_4 x3_4 = some out → W p l e ({ frames := 5, cells := 0, slots := 0, locals := 113 } : Room) s m ([.ref oh, .int p1] : List Value).toArray below meth c H locs 0 0 Q (F0 m 4 ls []) := by
    intro fuel
    induction fuel with
    | zero =>
      intro x2_4 x3_4 H locs ls hP hD hS hl hf
      cases (show (none : Option (Int32)) = some out from hf)
    | succ n_4 ih_4 =>
      intro x2_4 x3_4 H locs ls hP hD hS hl hf
      have hf := (f_X4_bestKindOf_L4_s o_keeping o_giverOf o_likelyOf o_kindOf o_settledOf p1 n_4 x2_4 x3_4).symm.trans hf
      refine lv_iload_n hx hb dX4_bestKindOf_4 rfl (lv_at hl 3 rfl) ?_
      refine lv_iconst (v := 5) hx hb dX4_bestKindOf_5 (by decide) ?_
      refine lv_icmp_gt (tgt := 32) hx hb dX4_bestKindOf_6 (by decide) (fun c1 => ?_) (fun c1 => ?_)
      · have hf := bs_t hf c1
        refine lv_iload_n hx hb dX4_bestKindOf_32 rfl (lv_at hl 2 rfl) ?_
        obtain rfl := Option.some.inj hf
        exact hret H locs _ _ hP hS rfl dX4_bestKindOf_33
      · have hf := bs_f hf c1
        refine lv_aload_n hx hb dX4_bestKindOf_9 rfl (lv_at hl 0 rfl) ?_
        refine lv_iload_n hx hb dX4_bestKindOf_10 rfl (lv_at hl 1 rfl) ?_
        refine lv_iload_n hx hb dX4_bestKindOf_11 rfl (lv_at hl 3 rfl) ?_
        obtain ⟨z2, hz2, hf⟩ := bs_b hf
        refine bs_cViR ⟨hx, hb, hml, hown, hts⟩ (k_X4_weightBy l dC dI cI cZ cS cG oh oq_keeping oq_giverOf oq_deedOf oq_dayOf oq_likelyOf oq_kindOf oq_settledOf o_told o_wax o_stick o_givers o_promises o_pan o_keeping o_giverOf o_deedOf o_dayOf o_likelyOf o_kindOf o_settledOf p1 x3_4 z2 hz2) (cwV 2 hts gX4_bestKindOf_X4_weightBy rfl rfl rfl (by decide +kernel) ⟨Nat.le_of_ble_eq_true rfl, Nat.le_of_ble_eq_true rfl⟩) hE hP hD hA hS [0, 1, 2, 3, 4, 5, 6, 7] rfl rfl 4 0 rfl rfl rfl rfl hl.1 (Nat.le_of_ble_eq_true rfl) dX4_bestKindOf_12 (fun H locs hP hS => ?_)
        refine lv_aload_n hx hb dX4_bestKindOf_15 rfl (lv_at hl 0 rfl) ?_
        refine lv_iload_n hx hb dX4_bestKindOf_16 rfl (lv_at hl 1 rfl) ?_
        refine lv_iload_n hx hb dX4_bestKindOf_17 rfl (lv_at hl 2 rfl) ?_
        obtain ⟨z3, hz3, hf⟩ := bs_b hf
        refine bs_cViR ⟨hx, hb, hml, hown, hts⟩ (k_X4_weightBy l dC dI cI cZ cS cG oh oq_keeping oq_giverOf oq_deedOf oq_dayOf oq_likelyOf oq_kindOf oq_settledOf o_told o_wax o_stick o_givers o_promises o_pan o_keeping o_giverOf o_deedOf o_dayOf o_likelyOf o_kindOf o_settledOf p1 x2_4 z3 hz3) (cwV 2 hts gX4_bestKindOf_X4_weightBy rfl rfl rfl (by decide +kernel) ⟨Nat.le_of_ble_eq_true rfl, Nat.le_of_ble_eq_true rfl⟩) hE hP hD hA hS [0, 1, 2, 3, 4, 5, 6, 7] rfl rfl 4 0 rfl rfl rfl rfl hl.1 (Nat.le_of_ble_eq_true rfl) dX4_bestKindOf_18 (fun H locs hP hS => ?_)
        refine lv_icmp_le (tgt := 26) hx hb dX4_bestKindOf_21 (by decide) (fun c4 => ?_) (fun c4 => ?_)
        · have hf := bs_t hf c4
          refine lv_iinc (v := x3_4 + 1) (lv' := [(3, .int (x3_4 + 1)), (0, .ref oh), (1, .int p1), (2, .int x2_4)]) hx hb dX4_bestKindOf_26 hl (k := 3) rfl rfl (by decide) rfl (fun ls hl => ?_)
          refine lv_goto (tgt := 4) hx hb dX4_bestKindOf_29 (by decide) ?_
          exact ih_4 x2_4 (x3_4 + 1) H locs ls hP hD hS (lv_sub hl [1, 2, 3, 0] rfl) hf
        · have hf := bs_f hf c4
          refine lv_iload_n hx hb dX4_bestKindOf_24 rfl (lv_at hl 3 rfl) ?_
          refine lv_istore_n (lv' := [(2, .int x3_4), (0, .ref oh), (1, .int p1), (3, .int x3_4)]) hx hb dX4_bestKindOf_25 rfl hl (by decide) rfl (fun ls hl => ?_)
          refine lv_iinc (v := x3_4 + 1) (lv' := [(3, .int (x3_4 + 1)), (2, .int x3_4), (0, .ref oh), (1, .int p1)]) hx hb dX4_bestKindOf_26 hl (k := 3) rfl rfl (by decide) rfl (fun ls hl => ?_)
          refine lv_goto (tgt := 4) hx hb dX4_bestKindOf_29 (by decide) ?_
          exact ih_4 x3_4 (x3_4 + 1) H locs ls hP hD hS (lv_sub hl [2, 3, 1, 0] rfl) hf
  exact L_4 bs_F (1 : Int32) (2 : Int32) H locs ls hP hD hS (lv_sub hl [2, 3, 1, 0] rfl) hf
set_option maxHeartbeats 4000000 in
set_option maxRecDepth 100000 in
theorem k_X4_readingOf (l : Launch) (dC : Nat → ClassId) (dI : Nat → Nat → Nat) (cI cZ cS cG : ClassId) (oh : Nat) (oq_keeping : Nat) (oq_giverOf : Nat) (oq_deedOf : Nat) (oq_dayOf : Nat) (oq_likelyOf : Nat) (oq_kindOf : Nat) (oq_settledOf : Nat) (o_told : Int32) (o_wax : Int32) (o_stick : Int32) (o_givers : Int32) (o_promises : Int32) (o_pan : Int32) (o_keeping : Nat → Int32) (o_giverOf : Nat → Int32) (o_deedOf : Nat → Int32) (o_dayOf : Nat → Int32) (o_likelyOf : Nat → Int32) (o_kindOf : Nat → Int32) (o_settledOf : Nat → Int32) (p1 : Int32) (out : Int32) (hf : f_X4_readingOf o_wax o_stick o_promises o_keeping o_giverOf o_likelyOf o_kindOf o_settledOf p1 = some out) : bs_C l dC dI cI cZ cS cG yX4_readingOf wsX4_readingOf ({ frames := 3, cells := 0, slots := 0, locals := 68 } : Room) [.ref oh, .int p1] ([(oh, .inr (4, [.int o_told, .int o_wax, .int o_stick, .int o_givers, .int o_promises, .int o_pan, .ref oq_keeping, .ref oq_giverOf, .ref oq_deedOf, .ref oq_dayOf, .ref oq_likelyOf, .ref oq_kindOf, .ref oq_settledOf])), (oq_keeping, .inl (cI, 4, .inl o_keeping)), (oq_giverOf, .inl (cI, 8, .inl o_giverOf)), (oq_deedOf, .inl (cI, 8, .inl o_deedOf)), (oq_dayOf, .inl (cI, 8, .inl o_dayOf)), (oq_likelyOf, .inl (cI, 8, .inl o_likelyOf)), (oq_kindOf, .inl (cI, 8, .inl o_kindOf)), (oq_settledOf, .inl (cI, 8, .inl o_settledOf))]) out ([(oh, .inr (4, [.int o_told, .int o_wax, .int o_stick, .int o_givers, .int o_promises, .int o_pan, .ref oq_keeping, .ref oq_giverOf, .ref oq_deedOf, .ref oq_dayOf, .ref oq_likelyOf, .ref oq_kindOf, .ref oq_settledOf])), (oq_keeping, .inl (cI, 4, .inl o_keeping)), (oq_giverOf, .inl (cI, 8, .inl o_giverOf)), (oq_deedOf, .inl (cI, 8, .inl o_deedOf)), (oq_dayOf, .inl (cI, 8, .inl o_dayOf)), (oq_likelyOf, .inl (cI, 8, .inl o_likelyOf)), (oq_kindOf, .inl (cI, 8, .inl o_kindOf)), (oq_settledOf, .inl (cI, 8, .inl o_settledOf))]) := by
  refine bs_ofI (cc := cX4_readingOf) (maxL := 5) (by decide) rfl (Nat.le_of_ble_eq_true rfl) ?_
  intro p e s m below meth c A Q hx hb hown hml hts hE H locs hP hD hA hS ls hl hret
  have hK := hE.1
  have hl : lv_has ls 5 [(0, .ref oh), (1, .int p1)] := hl
  have hin4 : ∀ w ∈ u_ws RX4 TX4 13, w ∈ wsX4_readingOf := by decide +kernel
  have k41 := hts (.fieldLink RX4 41 "PromiseScales$Scales" "promises" "I") (by decide +kernel)
  have k47 := hts (.fieldLink RX4 47 "PromiseScales$Scales" "wax" "I") (by decide +kernel)
  have k50 := hts (.fieldLink RX4 50 "PromiseScales$Scales" "stick" "I") (by decide +kernel)
  unfold f_X4_readingOf at hf
  refine lv_aload_n hx hb dX4_readingOf_0 rfl (lv_at hl 0 rfl) ?_
  refine va_get (D := (dC, dI)) (ci := 4) (v := .int o_wax) (C := RX4) (T := TX4) (N := 13) hx hb hts hin4 hown hK hP 0 rfl rfl 1 (by decide) k47 (fun _ h9 => h9) rfl dX4_readingOf_1 ?_
  refine lv_istore_n (lv' := [(2, .int o_wax), (0, .ref oh), (1, .int p1)]) hx hb dX4_readingOf_4 rfl hl (by decide) rfl (fun ls hl => ?_)
  refine lv_iconst (v := 0) hx hb dX4_readingOf_5 (by decide) ?_
  refine lv_istore_n (lv' := [(3, .int 0), (2, .int o_wax), (0, .ref oh), (1, .int p1)]) hx hb dX4_readingOf_6 rfl hl (by decide) rfl (fun ls hl => ?_)
  refine lv_iconst (v := 0) hx hb dX4_readingOf_7 (by decide) ?_
  refine lv_istore (lv' := [(4, .int 0), (3, .int 0), (2, .int o_wax), (0, .ref oh), (1, .int p1)]) hx hb dX4_readingOf_8 hl (by decide) rfl (fun ls hl => ?_)
  have L_10 : ∀ (fuel : Nat) (x2_10 : Int32) (x3_10 : Int32) (x4_10 : Int32) (H : Heap) (locs : List Loc) (ls : Array Slot), va_P (dC, dI) vwCl ([(oh, .inr (4, [.int o_told, .int o_wax, .int o_stick, .int o_givers, .int o_promises, .int o_pan, .ref oq_keeping, .ref oq_giverOf, .ref oq_deedOf, .ref oq_dayOf, .ref oq_likelyOf, .ref oq_kindOf, .ref oq_settledOf])), (oq_keeping, .inl (cI, 4, .inl o_keeping)), (oq_giverOf, .inl (cI, 8, .inl o_giverOf)), (oq_deedOf, .inl (cI, 8, .inl o_deedOf)), (oq_dayOf, .inl (cI, 8, .inl o_dayOf)), (oq_likelyOf, .inl (cI, 8, .inl o_likelyOf)), (oq_kindOf, .inl (cI, 8, .inl o_kindOf)), (oq_settledOf, .inl (cI, 8, .inl o_settledOf))]) H → va_D A ([(oh, .inr (4, [.int o_told, .int o_wax, .int o_stick, .int o_givers, .int o_promises, .int o_pan, .ref oq_keeping, .ref oq_giverOf, .ref oq_deedOf, .ref oq_dayOf, .ref oq_likelyOf, .ref oq_kindOf, .ref oq_settledOf])), (oq_keeping, .inl (cI, 4, .inl o_keeping)), (oq_giverOf, .inl (cI, 8, .inl o_giverOf)), (oq_deedOf, .inl (cI, 8, .inl o_deedOf)), (oq_dayOf, .inl (cI, 8, .inl o_dayOf)), (oq_likelyOf, .inl (cI, 8, .inl o_likelyOf)), (oq_kindOf, .inl (cI, 8, .inl o_kindOf)), (oq_settledOf, .inl (cI, 8, .inl o_settledOf))]) → va_S A s.heap H locs → lv_has ls 5 [(0, .ref oh), (1, .int p1), (2, .int x2_10), (3, .int x3_10), (4, .int x4_10)] → f_X4_readingOf_L10 o_wax o_stick o_promises o_keeping o_giverOf o_likelyOf o_kindOf o_settledOf p1 fuel x2_10 x3_10 x4_10 = some out → W p l e ({ frames := 3, cells := 0, slots := 0, locals := 68 } : Room) s m ([.ref oh, .int p1] : List Value).toArray below meth c H locs 0 0 Q (F0 m 10 ls []) := by
    intro fuel
    induction fuel with
    | zero =>
      intro x2_10 x3_10 x4_10 H locs ls hP hD hS hl hf
      cases (show (none : Option (Int32)) = some out from hf)
    | succ n_10 ih_10 =>
      intro x2_10 x3_10 x4_10 H locs ls hP hD hS hl hf
      have hf := (f_X4_readingOf_L10_s o_wax o_stick o_promises o_keeping o_giverOf o_likelyOf o_kindOf o_settledOf p1 n_10 x2_10 x3_10 x4_10).symm.trans hf
      refine lv_iload hx hb dX4_readingOf_10 (lv_at hl 4 rfl) ?_
      refine lv_aload_n hx hb dX4_readingOf_12 rfl (lv_at hl 0 rfl) ?_
      refine va_get (D := (dC, dI)) (ci := 4) (v := .int o_promises) (C := RX4) (T := TX4) (N := 13) hx hb hts hin4 hown hK hP 0 rfl rfl 4 (by decide) k41 (fun _ h9 => h9) rfl dX4_readingOf_13 ?_
      refine lv_icmp_ge (tgt := 51) hx hb dX4_readingOf_16 (by decide) (fun c1 => ?_) (fun c1 => ?_)
      · have hf := bs_t hf c1
        refine lv_iload_n hx hb dX4_readingOf_51 rfl (lv_at hl 2 rfl) ?_
        refine lv_aload_n hx hb dX4_readingOf_52 rfl (lv_at hl 0 rfl) ?_
        refine va_get (D := (dC, dI)) (ci := 4) (v := .int o_stick) (C := RX4) (T := TX4) (N := 13) hx hb hts hin4 hown hK hP 0 rfl rfl 2 (by decide) k50 (fun _ h9 => h9) rfl dX4_readingOf_53 ?_
        obtain ⟨z2, hz2, hf⟩ := bs_b hf
        refine bs_cSn ⟨hx, hb, hml, hown, hts⟩ (k_X6_reading l dC dI cI cZ cS cG x2_10 o_stick z2 hz2) ⟨va_cnB 2 hts gX4_readingOf_X6_reading_n87 rfl rfl rfl hE.2.1 (hts (.initialized RX6) (by decide +kernel)) (by decide +kernel) ⟨Nat.le_of_ble_eq_true rfl, Nat.le_of_ble_eq_true rfl⟩, (hts (.static yX6_reading) (by decide +kernel)), trivial⟩ hE hP hD hA hS rfl rfl hl.1 (Nat.le_of_ble_eq_true rfl) dX4_readingOf_56 (fun H locs hP hS => ?_)
        obtain rfl := Option.some.inj hf
        exact hret H locs _ _ hP hS rfl dX4_readingOf_59
      · have hf := bs_f hf c1
        refine lv_aload_n hx hb dX4_readingOf_19 rfl (lv_at hl 0 rfl) ?_
        refine lv_iload hx hb dX4_readingOf_20 (lv_at hl 4 rfl) ?_
        refine lv_iload_n hx hb dX4_readingOf_22 rfl (lv_at hl 3 rfl) ?_
        obtain ⟨z3, hz3, hf⟩ := bs_b hf
        refine bs_cViR ⟨hx, hb, hml, hown, hts⟩ (k_X4_weightAfter l dC dI cI cZ cS cG oh oq_keeping oq_giverOf oq_deedOf oq_dayOf oq_likelyOf oq_kindOf oq_settledOf o_told o_wax o_stick o_givers o_promises o_pan o_keeping o_giverOf o_deedOf o_dayOf o_likelyOf o_kindOf o_settledOf x4_10 x3_10 z3 hz3) (cwV 2 hts gX4_readingOf_X4_weightAfter rfl rfl rfl (by decide +kernel) ⟨Nat.le_of_ble_eq_true rfl, Nat.le_of_ble_eq_true rfl⟩) hE hP hD hA hS [0, 1, 2, 3, 4, 5, 6, 7] rfl rfl 4 0 rfl rfl rfl rfl hl.1 (Nat.le_of_ble_eq_true rfl) dX4_readingOf_23 (fun H locs hP hS => ?_)
        refine lv_istore_n (lv' := [(3, .int z3), (0, .ref oh), (1, .int p1), (2, .int x2_10), (4, .int x4_10)]) hx hb dX4_readingOf_26 rfl hl (by decide) rfl (fun ls hl => ?_)
        refine lv_iload_n hx hb dX4_readingOf_27 rfl (lv_at hl 3 rfl) ?_
        refine lv_iload_n hx hb dX4_readingOf_28 rfl (lv_at hl 2 rfl) ?_
        refine lv_iload hx hb dX4_readingOf_29 (lv_at hl 4 rfl) ?_
        refine lv_ishr hx hb dX4_readingOf_31 ?_
        refine lv_iconst (v := 1) hx hb dX4_readingOf_32 (by decide) ?_
        refine lv_iand hx hb dX4_readingOf_33 ?_
        refine lv_iconst (v := 1) hx hb dX4_readingOf_34 (by decide) ?_
        refine lv_icmp_ne (tgt := 42) hx hb dX4_readingOf_35 (by decide) (fun c4 => ?_) (fun c4 => ?_)
        · have hf := bs_f hf c4
          refine lv_iconst (v := 0) hx hb dX4_readingOf_42 (by decide) ?_
          refine lv_iadd hx hb dX4_readingOf_43 ?_
          refine lv_istore_n (lv' := [(2, .int (x2_10 + 0)), (3, .int z3), (0, .ref oh), (1, .int p1), (4, .int x4_10)]) hx hb dX4_readingOf_44 rfl hl (by decide) rfl (fun ls hl => ?_)
          refine lv_iinc (v := x4_10 + 1) (lv' := [(4, .int (x4_10 + 1)), (2, .int (x2_10 + 0)), (3, .int z3), (0, .ref oh), (1, .int p1)]) hx hb dX4_readingOf_45 hl (k := 4) rfl rfl (by decide) rfl (fun ls hl => ?_)
          refine lv_goto (tgt := 10) hx hb dX4_readingOf_48 (by decide) ?_
          exact ih_10 (x2_10 + 0) z3 (x4_10 + 1) H locs ls hP hD hS (lv_sub hl [3, 4, 1, 2, 0] rfl) hf
        · have hf := bs_t hf c4
          refine lv_iload_n hx hb dX4_readingOf_38 rfl (lv_at hl 0 rfl) ?_
          refine lv_goto (tgt := 43) hx hb dX4_readingOf_39 (by decide) ?_
          refine lv_iadd hx hb dX4_readingOf_43 ?_
          refine lv_istore_n (lv' := [(2, .int (x2_10 + z3)), (3, .int z3), (0, .ref oh), (1, .int p1), (4, .int x4_10)]) hx hb dX4_readingOf_44 rfl hl (by decide) rfl (fun ls hl => ?_)
          refine lv_iinc (v := x4_10 + 1) (lv' := [(4, .int (x4_10 + 1)), (2, .int (x2_10 + z3)), (3, .int z3), (0, .ref oh), (1, .int p1)]) hx hb dX4_readingOf_45 hl (k := 4) rfl rfl (by decide) rfl (fun ls hl => ?_)
          refine lv_goto (tgt := 10) hx hb dX4_readingOf_48 (by decide) ?_
          exact ih_10 (x2_10 + z3) z3 (x4_10 + 1) H locs ls hP hD hS (lv_sub hl [3, 4, 1, 2, 0] rfl) hf
  exact L_10 bs_F o_wax (0 : Int32) (0 : Int32) H locs ls hP hD hS (lv_sub hl [3, 4, 2, 1, 0] rfl) hf
set_option maxHeartbeats 4000000 in
set_option maxRecDepth 100000 in
theorem k_X4_howManyPairs (l : Launch) (dC : Nat → ClassId) (dI : Nat → Nat → Nat) (cI cZ cS cG : ClassId) (oh : Nat) (oq_keeping : Nat) (oq_giverOf : Nat) (oq_deedOf : Nat) (oq_dayOf : Nat) (oq_likelyOf : Nat) (oq_kindOf : Nat) (oq_settledOf : Nat) (o_told : Int32) (o_wax : Int32) (o_stick : Int32) (o_givers : Int32) (o_promises : Int32) (o_pan : Int32) (o_keeping : Nat → Int32) (o_giverOf : Nat → Int32) (o_deedOf : Nat → Int32) (o_dayOf : Nat → Int32) (o_likelyOf : Nat → Int32) (o_kindOf : Nat → Int32) (o_settledOf : Nat → Int32) (out : Int32) (hf : f_X4_howManyPairs o_promises o_giverOf o_deedOf o_dayOf o_settledOf = some out) : bs_C l dC dI cI cZ cS cG yX4_howManyPairs wsX4_howManyPairs ({ frames := 2, cells := 0, slots := 0, locals := 43 } : Room) [.ref oh] ([(oh, .inr (4, [.int o_told, .int o_wax, .int o_stick, .int o_givers, .int o_promises, .int o_pan, .ref oq_keeping, .ref oq_giverOf, .ref oq_deedOf, .ref oq_dayOf, .ref oq_likelyOf, .ref oq_kindOf, .ref oq_settledOf])), (oq_keeping, .inl (cI, 4, .inl o_keeping)), (oq_giverOf, .inl (cI, 8, .inl o_giverOf)), (oq_deedOf, .inl (cI, 8, .inl o_deedOf)), (oq_dayOf, .inl (cI, 8, .inl o_dayOf)), (oq_likelyOf, .inl (cI, 8, .inl o_likelyOf)), (oq_kindOf, .inl (cI, 8, .inl o_kindOf)), (oq_settledOf, .inl (cI, 8, .inl o_settledOf))]) out ([(oh, .inr (4, [.int o_told, .int o_wax, .int o_stick, .int o_givers, .int o_promises, .int o_pan, .ref oq_keeping, .ref oq_giverOf, .ref oq_deedOf, .ref oq_dayOf, .ref oq_likelyOf, .ref oq_kindOf, .ref oq_settledOf])), (oq_keeping, .inl (cI, 4, .inl o_keeping)), (oq_giverOf, .inl (cI, 8, .inl o_giverOf)), (oq_deedOf, .inl (cI, 8, .inl o_deedOf)), (oq_dayOf, .inl (cI, 8, .inl o_dayOf)), (oq_likelyOf, .inl (cI, 8, .inl o_likelyOf)), (oq_kindOf, .inl (cI, 8, .inl o_kindOf)), (oq_settledOf, .inl (cI, 8, .inl o_settledOf))]) := by
  refine bs_ofI (cc := cX4_howManyPairs) (maxL := 4) (by decide) rfl (Nat.le_of_ble_eq_true rfl) ?_
  intro p e s m below meth c A Q hx hb hown hml hts hE H locs hP hD hA hS ls hl hret
  have hK := hE.1
  have hl : lv_has ls 4 [(0, .ref oh)] := hl
  have hin4 : ∀ w ∈ u_ws RX4 TX4 13, w ∈ wsX4_howManyPairs := by decide +kernel
  have k41 := hts (.fieldLink RX4 41 "PromiseScales$Scales" "promises" "I") (by decide +kernel)
  unfold f_X4_howManyPairs at hf
  refine lv_iconst (v := 0) hx hb dX4_howManyPairs_0 (by decide) ?_
  refine lv_istore_n (lv' := [(1, .int 0), (0, .ref oh)]) hx hb dX4_howManyPairs_1 rfl hl (by decide) rfl (fun ls hl => ?_)
  refine lv_iconst (v := 0) hx hb dX4_howManyPairs_2 (by decide) ?_
  refine lv_istore_n (lv' := [(2, .int 0), (1, .int 0), (0, .ref oh)]) hx hb dX4_howManyPairs_3 rfl hl (by decide) rfl (fun ls hl => ?_)
  have L_4 : ∀ (fuel : Nat) (x1_4 : Int32) (x2_4 : Int32) (H : Heap) (locs : List Loc) (ls : Array Slot), va_P (dC, dI) vwCl ([(oh, .inr (4, [.int o_told, .int o_wax, .int o_stick, .int o_givers, .int o_promises, .int o_pan, .ref oq_keeping, .ref oq_giverOf, .ref oq_deedOf, .ref oq_dayOf, .ref oq_likelyOf, .ref oq_kindOf, .ref oq_settledOf])), (oq_keeping, .inl (cI, 4, .inl o_keeping)), (oq_giverOf, .inl (cI, 8, .inl o_giverOf)), (oq_deedOf, .inl (cI, 8, .inl o_deedOf)), (oq_dayOf, .inl (cI, 8, .inl o_dayOf)), (oq_likelyOf, .inl (cI, 8, .inl o_likelyOf)), (oq_kindOf, .inl (cI, 8, .inl o_kindOf)), (oq_settledOf, .inl (cI, 8, .inl o_settledOf))]) H → va_D A ([(oh, .inr (4, [.int o_told, .int o_wax, .int o_stick, .int o_givers, .int o_promises, .int o_pan, .ref oq_keeping, .ref oq_giverOf, .ref oq_deedOf, .ref oq_dayOf, .ref oq_likelyOf, .ref oq_kindOf, .ref oq_settledOf])), (oq_keeping, .inl (cI, 4, .inl o_keeping)), (oq_giverOf, .inl (cI, 8, .inl o_giverOf)), (oq_deedOf, .inl (cI, 8, .inl o_deedOf)), (oq_dayOf, .inl (cI, 8, .inl o_dayOf)), (oq_likelyOf, .inl (cI, 8, .inl o_likelyOf)), (oq_kindOf, .inl (cI, 8, .inl o_kindOf)), (oq_settledOf, .inl (cI, 8, .inl o_settledOf))]) → va_S A s.heap H locs → lv_has ls 4 [(0, .ref oh), (1, .int x1_4), (2, .int x2_4)] → f_X4_howManyPairs_L4 o_promises o_giverOf o_deedOf o_dayOf o_settledOf fuel x1_4 x2_4 = some out → W p l e ({ frames := 2, cells := 0, slots := 0, locals := 43 } : Room) s m ([.ref oh] : List Value).toArray below meth c H locs 0 0 Q (F0 m 4 ls []) := by
    intro fuel
    induction fuel with
    | zero =>
      intro x1_4 x2_4 H locs ls hP hD hS hl hf
      cases (show (none : Option (Int32)) = some out from hf)
    | succ n_4 ih_4 =>
      intro x1_4 x2_4 H locs ls hP hD hS hl hf
      have hf := (f_X4_howManyPairs_L4_s o_promises o_giverOf o_deedOf o_dayOf o_settledOf n_4 x1_4 x2_4).symm.trans hf
      refine lv_iload_n hx hb dX4_howManyPairs_4 rfl (lv_at hl 2 rfl) ?_
      refine lv_aload_n hx hb dX4_howManyPairs_5 rfl (lv_at hl 0 rfl) ?_
      refine va_get (D := (dC, dI)) (ci := 4) (v := .int o_promises) (C := RX4) (T := TX4) (N := 13) hx hb hts hin4 hown hK hP 0 rfl rfl 4 (by decide) k41 (fun _ h9 => h9) rfl dX4_howManyPairs_6 ?_
      refine lv_icmp_ge (tgt := 53) hx hb dX4_howManyPairs_9 (by decide) (fun c1 => ?_) (fun c1 => ?_)
      · have hf := bs_t hf c1
        refine lv_iload_n hx hb dX4_howManyPairs_53 rfl (lv_at hl 1 rfl) ?_
        obtain rfl := Option.some.inj hf
        exact hret H locs _ _ hP hS rfl dX4_howManyPairs_54
      · have hf := bs_f hf c1
        refine lv_iload_n hx hb dX4_howManyPairs_12 rfl (lv_at hl 2 rfl) ?_
        refine lv_iconst (v := 1) hx hb dX4_howManyPairs_13 (by decide) ?_
        refine lv_iadd hx hb dX4_howManyPairs_14 ?_
        refine lv_istore_n (lv' := [(3, .int (x2_4 + 1)), (0, .ref oh), (1, .int x1_4), (2, .int x2_4)]) hx hb dX4_howManyPairs_15 rfl hl (by decide) rfl (fun ls hl => ?_)
        have L_16 : ∀ (fuel : Nat) (x1_16 : Int32) (x3_16 : Int32) (H : Heap) (locs : List Loc) (ls : Array Slot), va_P (dC, dI) vwCl ([(oh, .inr (4, [.int o_told, .int o_wax, .int o_stick, .int o_givers, .int o_promises, .int o_pan, .ref oq_keeping, .ref oq_giverOf, .ref oq_deedOf, .ref oq_dayOf, .ref oq_likelyOf, .ref oq_kindOf, .ref oq_settledOf])), (oq_keeping, .inl (cI, 4, .inl o_keeping)), (oq_giverOf, .inl (cI, 8, .inl o_giverOf)), (oq_deedOf, .inl (cI, 8, .inl o_deedOf)), (oq_dayOf, .inl (cI, 8, .inl o_dayOf)), (oq_likelyOf, .inl (cI, 8, .inl o_likelyOf)), (oq_kindOf, .inl (cI, 8, .inl o_kindOf)), (oq_settledOf, .inl (cI, 8, .inl o_settledOf))]) H → va_D A ([(oh, .inr (4, [.int o_told, .int o_wax, .int o_stick, .int o_givers, .int o_promises, .int o_pan, .ref oq_keeping, .ref oq_giverOf, .ref oq_deedOf, .ref oq_dayOf, .ref oq_likelyOf, .ref oq_kindOf, .ref oq_settledOf])), (oq_keeping, .inl (cI, 4, .inl o_keeping)), (oq_giverOf, .inl (cI, 8, .inl o_giverOf)), (oq_deedOf, .inl (cI, 8, .inl o_deedOf)), (oq_dayOf, .inl (cI, 8, .inl o_dayOf)), (oq_likelyOf, .inl (cI, 8, .inl o_likelyOf)), (oq_kindOf, .inl (cI, 8, .inl o_kindOf)), (oq_settledOf, .inl (cI, 8, .inl o_settledOf))]) → va_S A s.heap H locs → lv_has ls 4 [(0, .ref oh), (1, .int x1_16), (2, .int x2_4), (3, .int x3_16)] → f_X4_howManyPairs_L16 (f_X4_howManyPairs_L4 o_promises o_giverOf o_deedOf o_dayOf o_settledOf n_4) o_promises o_giverOf o_deedOf o_dayOf o_settledOf x2_4 fuel x1_16 x3_16 = some out → W p l e ({ frames := 2, cells := 0, slots := 0, locals := 43 } : Room) s m ([.ref oh] : List Value).toArray below meth c H locs 0 0 Q (F0 m 16 ls []) := by
          intro fuel
          induction fuel with
          | zero =>
            intro x1_16 x3_16 H locs ls hP hD hS hl hf
            cases (show (none : Option (Int32)) = some out from hf)
          | succ n_16 ih_16 =>
            intro x1_16 x3_16 H locs ls hP hD hS hl hf
            have hf := (f_X4_howManyPairs_L16_s (f_X4_howManyPairs_L4 o_promises o_giverOf o_deedOf o_dayOf o_settledOf n_4) o_promises o_giverOf o_deedOf o_dayOf o_settledOf x2_4 n_16 x1_16 x3_16).symm.trans hf
            refine lv_iload_n hx hb dX4_howManyPairs_16 rfl (lv_at hl 3 rfl) ?_
            refine lv_aload_n hx hb dX4_howManyPairs_17 rfl (lv_at hl 0 rfl) ?_
            refine va_get (D := (dC, dI)) (ci := 4) (v := .int o_promises) (C := RX4) (T := TX4) (N := 13) hx hb hts hin4 hown hK hP 0 rfl rfl 4 (by decide) k41 (fun _ h9 => h9) rfl dX4_howManyPairs_18 ?_
            refine lv_icmp_ge (tgt := 47) hx hb dX4_howManyPairs_21 (by decide) (fun c2 => ?_) (fun c2 => ?_)
            · have hf := bs_t hf c2
              refine lv_iinc (v := x2_4 + 1) (lv' := [(2, .int (x2_4 + 1)), (0, .ref oh), (1, .int x1_16), (3, .int x3_16)]) hx hb dX4_howManyPairs_47 hl (k := 2) rfl rfl (by decide) rfl (fun ls hl => ?_)
              refine lv_goto (tgt := 4) hx hb dX4_howManyPairs_50 (by decide) ?_
              exact ih_4 x1_16 (x2_4 + 1) H locs ls hP hD hS (lv_sub hl [1, 2, 0] rfl) hf
            · have hf := bs_f hf c2
              refine lv_iload_n hx hb dX4_howManyPairs_24 rfl (lv_at hl 1 rfl) ?_
              refine lv_aload_n hx hb dX4_howManyPairs_25 rfl (lv_at hl 0 rfl) ?_
              refine lv_iload_n hx hb dX4_howManyPairs_26 rfl (lv_at hl 2 rfl) ?_
              refine lv_iload_n hx hb dX4_howManyPairs_27 rfl (lv_at hl 3 rfl) ?_
              obtain ⟨z3, hz3, hf⟩ := bs_b hf
              refine bs_cViR ⟨hx, hb, hml, hown, hts⟩ (k_X4_doClash l dC dI cI cZ cS cG oh oq_keeping oq_giverOf oq_deedOf oq_dayOf oq_likelyOf oq_kindOf oq_settledOf o_told o_wax o_stick o_givers o_promises o_pan o_keeping o_giverOf o_deedOf o_dayOf o_likelyOf o_kindOf o_settledOf x2_4 x3_16 z3 hz3) (cwV 2 hts gX4_howManyPairs_X4_doClash rfl rfl rfl (by decide +kernel) ⟨Nat.le_of_ble_eq_true rfl, Nat.le_of_ble_eq_true rfl⟩) hE hP hD hA hS [0, 1, 2, 3, 4, 5, 6, 7] rfl rfl 4 0 rfl rfl rfl rfl hl.1 (Nat.le_of_ble_eq_true rfl) dX4_howManyPairs_28 (fun H locs hP hS => ?_)
              refine lv_if_eq (tgt := 38) hx hb dX4_howManyPairs_31 (by decide) (fun c4 => ?_) (fun c4 => ?_)
              · have hf := bs_t hf c4
                refine lv_iconst (v := 0) hx hb dX4_howManyPairs_38 (by decide) ?_
                refine lv_iadd hx hb dX4_howManyPairs_39 ?_
                refine lv_istore_n (lv' := [(1, .int (x1_16 + 0)), (0, .ref oh), (2, .int x2_4), (3, .int x3_16)]) hx hb dX4_howManyPairs_40 rfl hl (by decide) rfl (fun ls hl => ?_)
                refine lv_iinc (v := x3_16 + 1) (lv' := [(3, .int (x3_16 + 1)), (1, .int (x1_16 + 0)), (0, .ref oh), (2, .int x2_4)]) hx hb dX4_howManyPairs_41 hl (k := 3) rfl rfl (by decide) rfl (fun ls hl => ?_)
                refine lv_goto (tgt := 16) hx hb dX4_howManyPairs_44 (by decide) ?_
                exact ih_16 (x1_16 + 0) (x3_16 + 1) H locs ls hP hD hS (lv_sub hl [2, 1, 3, 0] rfl) hf
              · have hf := bs_f hf c4
                refine lv_iconst (v := 1) hx hb dX4_howManyPairs_34 (by decide) ?_
                refine lv_goto (tgt := 39) hx hb dX4_howManyPairs_35 (by decide) ?_
                refine lv_iadd hx hb dX4_howManyPairs_39 ?_
                refine lv_istore_n (lv' := [(1, .int (x1_16 + 1)), (0, .ref oh), (2, .int x2_4), (3, .int x3_16)]) hx hb dX4_howManyPairs_40 rfl hl (by decide) rfl (fun ls hl => ?_)
                refine lv_iinc (v := x3_16 + 1) (lv' := [(3, .int (x3_16 + 1)), (1, .int (x1_16 + 1)), (0, .ref oh), (2, .int x2_4)]) hx hb dX4_howManyPairs_41 hl (k := 3) rfl rfl (by decide) rfl (fun ls hl => ?_)
                refine lv_goto (tgt := 16) hx hb dX4_howManyPairs_44 (by decide) ?_
                exact ih_16 (x1_16 + 1) (x3_16 + 1) H locs ls hP hD hS (lv_sub hl [2, 1, 3, 0] rfl) hf
        exact L_16 bs_F x1_4 (x2_4 + 1) H locs ls hP hD hS (lv_sub hl [1, 2, 3, 0] rfl) hf
  exact L_4 bs_F (0 : Int32) (0 : Int32) H locs ls hP hD hS (lv_sub hl [2, 1, 0] rfl) hf
set_option maxHeartbeats 4000000 in
set_option maxRecDepth 100000 in
theorem k_X4_firstPair (l : Launch) (dC : Nat → ClassId) (dI : Nat → Nat → Nat) (cI cZ cS cG : ClassId) (oh : Nat) (oq_keeping : Nat) (oq_giverOf : Nat) (oq_deedOf : Nat) (oq_dayOf : Nat) (oq_likelyOf : Nat) (oq_kindOf : Nat) (oq_settledOf : Nat) (o_told : Int32) (o_wax : Int32) (o_stick : Int32) (o_givers : Int32) (o_promises : Int32) (o_pan : Int32) (o_keeping : Nat → Int32) (o_giverOf : Nat → Int32) (o_deedOf : Nat → Int32) (o_dayOf : Nat → Int32) (o_likelyOf : Nat → Int32) (o_kindOf : Nat → Int32) (o_settledOf : Nat → Int32) (out : Int32) (hf : f_X4_firstPair o_promises o_giverOf o_deedOf o_dayOf o_settledOf = some out) : bs_C l dC dI cI cZ cS cG yX4_firstPair wsX4_firstPair ({ frames := 2, cells := 0, slots := 0, locals := 43 } : Room) [.ref oh] ([(oh, .inr (4, [.int o_told, .int o_wax, .int o_stick, .int o_givers, .int o_promises, .int o_pan, .ref oq_keeping, .ref oq_giverOf, .ref oq_deedOf, .ref oq_dayOf, .ref oq_likelyOf, .ref oq_kindOf, .ref oq_settledOf])), (oq_keeping, .inl (cI, 4, .inl o_keeping)), (oq_giverOf, .inl (cI, 8, .inl o_giverOf)), (oq_deedOf, .inl (cI, 8, .inl o_deedOf)), (oq_dayOf, .inl (cI, 8, .inl o_dayOf)), (oq_likelyOf, .inl (cI, 8, .inl o_likelyOf)), (oq_kindOf, .inl (cI, 8, .inl o_kindOf)), (oq_settledOf, .inl (cI, 8, .inl o_settledOf))]) out ([(oh, .inr (4, [.int o_told, .int o_wax, .int o_stick, .int o_givers, .int o_promises, .int o_pan, .ref oq_keeping, .ref oq_giverOf, .ref oq_deedOf, .ref oq_dayOf, .ref oq_likelyOf, .ref oq_kindOf, .ref oq_settledOf])), (oq_keeping, .inl (cI, 4, .inl o_keeping)), (oq_giverOf, .inl (cI, 8, .inl o_giverOf)), (oq_deedOf, .inl (cI, 8, .inl o_deedOf)), (oq_dayOf, .inl (cI, 8, .inl o_dayOf)), (oq_likelyOf, .inl (cI, 8, .inl o_likelyOf)), (oq_kindOf, .inl (cI, 8, .inl o_kindOf)), (oq_settledOf, .inl (cI, 8, .inl o_settledOf))]) := by
  refine bs_ofI (cc := cX4_firstPair) (maxL := 3) (by decide) rfl (Nat.le_of_ble_eq_true rfl) ?_
  intro p e s m below meth c A Q hx hb hown hml hts hE H locs hP hD hA hS ls hl hret
  have hK := hE.1
  have hl : lv_has ls 3 [(0, .ref oh)] := hl
  have hin4 : ∀ w ∈ u_ws RX4 TX4 13, w ∈ wsX4_firstPair := by decide +kernel
  have k41 := hts (.fieldLink RX4 41 "PromiseScales$Scales" "promises" "I") (by decide +kernel)
  unfold f_X4_firstPair at hf
  refine lv_iconst (v := 0) hx hb dX4_firstPair_0 (by decide) ?_
  refine lv_istore_n (lv' := [(1, .int 0), (0, .ref oh)]) hx hb dX4_firstPair_1 rfl hl (by decide) rfl (fun ls hl => ?_)
  have L_2 : ∀ (fuel : Nat) (x1_2 : Int32) (H : Heap) (locs : List Loc) (ls : Array Slot), va_P (dC, dI) vwCl ([(oh, .inr (4, [.int o_told, .int o_wax, .int o_stick, .int o_givers, .int o_promises, .int o_pan, .ref oq_keeping, .ref oq_giverOf, .ref oq_deedOf, .ref oq_dayOf, .ref oq_likelyOf, .ref oq_kindOf, .ref oq_settledOf])), (oq_keeping, .inl (cI, 4, .inl o_keeping)), (oq_giverOf, .inl (cI, 8, .inl o_giverOf)), (oq_deedOf, .inl (cI, 8, .inl o_deedOf)), (oq_dayOf, .inl (cI, 8, .inl o_dayOf)), (oq_likelyOf, .inl (cI, 8, .inl o_likelyOf)), (oq_kindOf, .inl (cI, 8, .inl o_kindOf)), (oq_settledOf, .inl (cI, 8, .inl o_settledOf))]) H → va_D A ([(oh, .inr (4, [.int o_told, .int o_wax, .int o_stick, .int o_givers, .int o_promises, .int o_pan, .ref oq_keeping, .ref oq_giverOf, .ref oq_deedOf, .ref oq_dayOf, .ref oq_likelyOf, .ref oq_kindOf, .ref oq_settledOf])), (oq_keeping, .inl (cI, 4, .inl o_keeping)), (oq_giverOf, .inl (cI, 8, .inl o_giverOf)), (oq_deedOf, .inl (cI, 8, .inl o_deedOf)), (oq_dayOf, .inl (cI, 8, .inl o_dayOf)), (oq_likelyOf, .inl (cI, 8, .inl o_likelyOf)), (oq_kindOf, .inl (cI, 8, .inl o_kindOf)), (oq_settledOf, .inl (cI, 8, .inl o_settledOf))]) → va_S A s.heap H locs → lv_has ls 3 [(0, .ref oh), (1, .int x1_2)] → f_X4_firstPair_L2 o_promises o_giverOf o_deedOf o_dayOf o_settledOf fuel x1_2 = some out → W p l e ({ frames := 2, cells := 0, slots := 0, locals := 43 } : Room) s m ([.ref oh] : List Value).toArray below meth c H locs 0 0 Q (F0 m 2 ls []) := by
    intro fuel
    induction fuel with
    | zero =>
      intro x1_2 H locs ls hP hD hS hl hf
      cases (show (none : Option (Int32)) = some out from hf)
    | succ n_2 ih_2 =>
      intro x1_2 H locs ls hP hD hS hl hf
      have hf := (f_X4_firstPair_L2_s o_promises o_giverOf o_deedOf o_dayOf o_settledOf n_2 x1_2).symm.trans hf
      refine lv_iload_n hx hb dX4_firstPair_2 rfl (lv_at hl 1 rfl) ?_
      refine lv_aload_n hx hb dX4_firstPair_3 rfl (lv_at hl 0 rfl) ?_
      refine va_get (D := (dC, dI)) (ci := 4) (v := .int o_promises) (C := RX4) (T := TX4) (N := 13) hx hb hts hin4 hown hK hP 0 rfl rfl 4 (by decide) k41 (fun _ h9 => h9) rfl dX4_firstPair_4 ?_
      refine lv_icmp_ge (tgt := 50) hx hb dX4_firstPair_7 (by decide) (fun c1 => ?_) (fun c1 => ?_)
      · have hf := bs_t hf c1
        refine lv_ldc hx hb hown (hts (.constant RX4 94 (-1000000)) (by decide +kernel)) dX4_firstPair_50 ?_
        obtain rfl := Option.some.inj hf
        exact hret H locs _ _ hP hS rfl dX4_firstPair_52
      · have hf := bs_f hf c1
        refine lv_iload_n hx hb dX4_firstPair_10 rfl (lv_at hl 1 rfl) ?_
        refine lv_iconst (v := 1) hx hb dX4_firstPair_11 (by decide) ?_
        refine lv_iadd hx hb dX4_firstPair_12 ?_
        refine lv_istore_n (lv' := [(2, .int (x1_2 + 1)), (0, .ref oh), (1, .int x1_2)]) hx hb dX4_firstPair_13 rfl hl (by decide) rfl (fun ls hl => ?_)
        have L_14 : ∀ (fuel : Nat) (x2_14 : Int32) (H : Heap) (locs : List Loc) (ls : Array Slot), va_P (dC, dI) vwCl ([(oh, .inr (4, [.int o_told, .int o_wax, .int o_stick, .int o_givers, .int o_promises, .int o_pan, .ref oq_keeping, .ref oq_giverOf, .ref oq_deedOf, .ref oq_dayOf, .ref oq_likelyOf, .ref oq_kindOf, .ref oq_settledOf])), (oq_keeping, .inl (cI, 4, .inl o_keeping)), (oq_giverOf, .inl (cI, 8, .inl o_giverOf)), (oq_deedOf, .inl (cI, 8, .inl o_deedOf)), (oq_dayOf, .inl (cI, 8, .inl o_dayOf)), (oq_likelyOf, .inl (cI, 8, .inl o_likelyOf)), (oq_kindOf, .inl (cI, 8, .inl o_kindOf)), (oq_settledOf, .inl (cI, 8, .inl o_settledOf))]) H → va_D A ([(oh, .inr (4, [.int o_told, .int o_wax, .int o_stick, .int o_givers, .int o_promises, .int o_pan, .ref oq_keeping, .ref oq_giverOf, .ref oq_deedOf, .ref oq_dayOf, .ref oq_likelyOf, .ref oq_kindOf, .ref oq_settledOf])), (oq_keeping, .inl (cI, 4, .inl o_keeping)), (oq_giverOf, .inl (cI, 8, .inl o_giverOf)), (oq_deedOf, .inl (cI, 8, .inl o_deedOf)), (oq_dayOf, .inl (cI, 8, .inl o_dayOf)), (oq_likelyOf, .inl (cI, 8, .inl o_likelyOf)), (oq_kindOf, .inl (cI, 8, .inl o_kindOf)), (oq_settledOf, .inl (cI, 8, .inl o_settledOf))]) → va_S A s.heap H locs → lv_has ls 3 [(0, .ref oh), (1, .int x1_2), (2, .int x2_14)] → f_X4_firstPair_L14 (f_X4_firstPair_L2 o_promises o_giverOf o_deedOf o_dayOf o_settledOf n_2) o_promises o_giverOf o_deedOf o_dayOf o_settledOf x1_2 fuel x2_14 = some out → W p l e ({ frames := 2, cells := 0, slots := 0, locals := 43 } : Room) s m ([.ref oh] : List Value).toArray below meth c H locs 0 0 Q (F0 m 14 ls []) := by
          intro fuel
          induction fuel with
          | zero =>
            intro x2_14 H locs ls hP hD hS hl hf
            cases (show (none : Option (Int32)) = some out from hf)
          | succ n_14 ih_14 =>
            intro x2_14 H locs ls hP hD hS hl hf
            have hf := (f_X4_firstPair_L14_s (f_X4_firstPair_L2 o_promises o_giverOf o_deedOf o_dayOf o_settledOf n_2) o_promises o_giverOf o_deedOf o_dayOf o_settledOf x1_2 n_14 x2_14).symm.trans hf
            refine lv_iload_n hx hb dX4_firstPair_14 rfl (lv_at hl 2 rfl) ?_
            refine lv_aload_n hx hb dX4_firstPair_15 rfl (lv_at hl 0 rfl) ?_
            refine va_get (D := (dC, dI)) (ci := 4) (v := .int o_promises) (C := RX4) (T := TX4) (N := 13) hx hb hts hin4 hown hK hP 0 rfl rfl 4 (by decide) k41 (fun _ h9 => h9) rfl dX4_firstPair_16 ?_
            refine lv_icmp_ge (tgt := 44) hx hb dX4_firstPair_19 (by decide) (fun c2 => ?_) (fun c2 => ?_)
            · have hf := bs_t hf c2
              refine lv_iinc (v := x1_2 + 1) (lv' := [(1, .int (x1_2 + 1)), (0, .ref oh), (2, .int x2_14)]) hx hb dX4_firstPair_44 hl (k := 1) rfl rfl (by decide) rfl (fun ls hl => ?_)
              refine lv_goto (tgt := 2) hx hb dX4_firstPair_47 (by decide) ?_
              exact ih_2 (x1_2 + 1) H locs ls hP hD hS (lv_sub hl [1, 0] rfl) hf
            · have hf := bs_f hf c2
              refine lv_aload_n hx hb dX4_firstPair_22 rfl (lv_at hl 0 rfl) ?_
              refine lv_iload_n hx hb dX4_firstPair_23 rfl (lv_at hl 1 rfl) ?_
              refine lv_iload_n hx hb dX4_firstPair_24 rfl (lv_at hl 2 rfl) ?_
              obtain ⟨z3, hz3, hf⟩ := bs_b hf
              refine bs_cViR ⟨hx, hb, hml, hown, hts⟩ (k_X4_doClash l dC dI cI cZ cS cG oh oq_keeping oq_giverOf oq_deedOf oq_dayOf oq_likelyOf oq_kindOf oq_settledOf o_told o_wax o_stick o_givers o_promises o_pan o_keeping o_giverOf o_deedOf o_dayOf o_likelyOf o_kindOf o_settledOf x1_2 x2_14 z3 hz3) (cwV 2 hts gX4_firstPair_X4_doClash rfl rfl rfl (by decide +kernel) ⟨Nat.le_of_ble_eq_true rfl, Nat.le_of_ble_eq_true rfl⟩) hE hP hD hA hS [0, 1, 2, 3, 4, 5, 6, 7] rfl rfl 4 0 rfl rfl rfl rfl hl.1 (Nat.le_of_ble_eq_true rfl) dX4_firstPair_25 (fun H locs hP hS => ?_)
              refine lv_if_eq (tgt := 38) hx hb dX4_firstPair_28 (by decide) (fun c4 => ?_) (fun c4 => ?_)
              · have hf := bs_t hf c4
                refine lv_iinc (v := x2_14 + 1) (lv' := [(2, .int (x2_14 + 1)), (0, .ref oh), (1, .int x1_2)]) hx hb dX4_firstPair_38 hl (k := 2) rfl rfl (by decide) rfl (fun ls hl => ?_)
                refine lv_goto (tgt := 14) hx hb dX4_firstPair_41 (by decide) ?_
                exact ih_14 (x2_14 + 1) H locs ls hP hD hS (lv_sub hl [1, 2, 0] rfl) hf
              · have hf := bs_f hf c4
                refine lv_bipush (v := 8) hx hb dX4_firstPair_31 (by decide) ?_
                refine lv_iload_n hx hb dX4_firstPair_33 rfl (lv_at hl 1 rfl) ?_
                refine lv_imul hx hb dX4_firstPair_34 ?_
                refine lv_iload_n hx hb dX4_firstPair_35 rfl (lv_at hl 2 rfl) ?_
                refine lv_iadd hx hb dX4_firstPair_36 ?_
                obtain rfl := Option.some.inj hf
                exact hret H locs _ _ hP hS rfl dX4_firstPair_37
        exact L_14 bs_F (x1_2 + 1) H locs ls hP hD hS (lv_sub hl [1, 2, 0] rfl) hf
  exact L_2 bs_F (0 : Int32) H locs ls hP hD hS (lv_sub hl [1, 0] rfl) hf
set_option maxHeartbeats 4000000 in
set_option maxRecDepth 100000 in
theorem k_X4_isPlainToCome (l : Launch) (dC : Nat → ClassId) (dI : Nat → Nat → Nat) (cI cZ cS cG : ClassId) (oh : Nat) (oq_keeping : Nat) (oq_giverOf : Nat) (oq_deedOf : Nat) (oq_dayOf : Nat) (oq_likelyOf : Nat) (oq_kindOf : Nat) (oq_settledOf : Nat) (o_told : Int32) (o_wax : Int32) (o_stick : Int32) (o_givers : Int32) (o_promises : Int32) (o_pan : Int32) (o_keeping : Nat → Int32) (o_giverOf : Nat → Int32) (o_deedOf : Nat → Int32) (o_dayOf : Nat → Int32) (o_likelyOf : Nat → Int32) (o_kindOf : Nat → Int32) (o_settledOf : Nat → Int32) (p1 : Int32) (p2 : Int32) (out : Int32) (hf : f_X4_isPlainToCome o_giverOf o_kindOf o_settledOf p1 p2 = some out) : bs_C l dC dI cI cZ cS cG yX4_isPlainToCome wsX4_isPlainToCome ({ frames := 1, cells := 0, slots := 0, locals := 21 } : Room) [.ref oh, .int p1, .int p2] ([(oh, .inr (4, [.int o_told, .int o_wax, .int o_stick, .int o_givers, .int o_promises, .int o_pan, .ref oq_keeping, .ref oq_giverOf, .ref oq_deedOf, .ref oq_dayOf, .ref oq_likelyOf, .ref oq_kindOf, .ref oq_settledOf])), (oq_keeping, .inl (cI, 4, .inl o_keeping)), (oq_giverOf, .inl (cI, 8, .inl o_giverOf)), (oq_deedOf, .inl (cI, 8, .inl o_deedOf)), (oq_dayOf, .inl (cI, 8, .inl o_dayOf)), (oq_likelyOf, .inl (cI, 8, .inl o_likelyOf)), (oq_kindOf, .inl (cI, 8, .inl o_kindOf)), (oq_settledOf, .inl (cI, 8, .inl o_settledOf))]) out ([(oh, .inr (4, [.int o_told, .int o_wax, .int o_stick, .int o_givers, .int o_promises, .int o_pan, .ref oq_keeping, .ref oq_giverOf, .ref oq_deedOf, .ref oq_dayOf, .ref oq_likelyOf, .ref oq_kindOf, .ref oq_settledOf])), (oq_keeping, .inl (cI, 4, .inl o_keeping)), (oq_giverOf, .inl (cI, 8, .inl o_giverOf)), (oq_deedOf, .inl (cI, 8, .inl o_deedOf)), (oq_dayOf, .inl (cI, 8, .inl o_dayOf)), (oq_likelyOf, .inl (cI, 8, .inl o_likelyOf)), (oq_kindOf, .inl (cI, 8, .inl o_kindOf)), (oq_settledOf, .inl (cI, 8, .inl o_settledOf))]) := by
  refine bs_ofI (cc := cX4_isPlainToCome) (maxL := 3) (by decide) rfl (Nat.le_of_ble_eq_true rfl) ?_
  intro p e s m below meth c A Q hx hb hown hml hts hE H locs hP hD hA hS ls hl hret
  have hK := hE.1
  have hl : lv_has ls 3 [(0, .ref oh), (1, .int p1), (2, .int p2)] := hl
  have hin4 : ∀ w ∈ u_ws RX4 TX4 13, w ∈ wsX4_isPlainToCome := by decide +kernel
  have k15 := hts (.fieldLink RX4 15 "PromiseScales$Scales" "giverOf" "[I") (by decide +kernel)
  have k27 := hts (.fieldLink RX4 27 "PromiseScales$Scales" "kindOf" "[I") (by decide +kernel)
  unfold f_X4_isPlainToCome at hf
  refine lv_aload_n hx hb dX4_isPlainToCome_0 rfl (lv_at hl 0 rfl) ?_
  refine va_get (D := (dC, dI)) (ci := 4) (v := .ref oq_giverOf) (C := RX4) (T := TX4) (N := 13) hx hb hts hin4 hown hK hP 0 rfl rfl 7 (by decide) k15 (fun _ h9 => h9) rfl dX4_isPlainToCome_1 ?_
  refine lv_iload_n hx hb dX4_isPlainToCome_4 rfl (lv_at hl 1 rfl) ?_
  obtain ⟨g1, hf⟩ := bs_g hf
  refine va_iald hx hb hK hP 2 0 rfl rfl (bs_inV g1) dX4_isPlainToCome_5 ?_
  refine lv_iload_n hx hb dX4_isPlainToCome_6 rfl (lv_at hl 2 rfl) ?_
  refine lv_icmp_ne (tgt := 32) hx hb dX4_isPlainToCome_7 (by decide) (fun c2 => ?_) (fun c2 => ?_)
  · have hf := bs_f hf c2
    refine lv_iconst (v := 0) hx hb dX4_isPlainToCome_32 (by decide) ?_
    obtain rfl := Option.some.inj hf
    exact hret H locs _ _ hP hS bs_n0 dX4_isPlainToCome_33
  · have hf := bs_t hf c2
    refine lv_aload_n hx hb dX4_isPlainToCome_10 rfl (lv_at hl 0 rfl) ?_
    refine va_get (D := (dC, dI)) (ci := 4) (v := .ref oq_kindOf) (C := RX4) (T := TX4) (N := 13) hx hb hts hin4 hown hK hP 0 rfl rfl 11 (by decide) k27 (fun _ h9 => h9) rfl dX4_isPlainToCome_11 ?_
    refine lv_iload_n hx hb dX4_isPlainToCome_14 rfl (lv_at hl 1 rfl) ?_
    obtain ⟨g3, hf⟩ := bs_g hf
    refine va_iald hx hb hK hP 6 0 rfl rfl (bs_inV g3) dX4_isPlainToCome_15 ?_
    refine lv_iconst (v := 1) hx hb dX4_isPlainToCome_16 (by decide) ?_
    refine lv_icmp_ne (tgt := 32) hx hb dX4_isPlainToCome_17 (by decide) (fun c4 => ?_) (fun c4 => ?_)
    · have hf := bs_f hf c4
      refine lv_iconst (v := 0) hx hb dX4_isPlainToCome_32 (by decide) ?_
      obtain rfl := Option.some.inj hf
      exact hret H locs _ _ hP hS bs_n0 dX4_isPlainToCome_33
    · have hf := bs_t hf c4
      refine lv_aload_n hx hb dX4_isPlainToCome_20 rfl (lv_at hl 0 rfl) ?_
      refine lv_iload_n hx hb dX4_isPlainToCome_21 rfl (lv_at hl 1 rfl) ?_
      obtain ⟨z5, hz5, hf⟩ := bs_b hf
      refine bs_cViR ⟨hx, hb, hml, hown, hts⟩ (k_X4_isSettled l dC dI cI cZ cS cG oh oq_keeping oq_giverOf oq_deedOf oq_dayOf oq_likelyOf oq_kindOf oq_settledOf o_told o_wax o_stick o_givers o_promises o_pan o_keeping o_giverOf o_deedOf o_dayOf o_likelyOf o_kindOf o_settledOf p1 z5 hz5) (cwV 1 hts gX4_isPlainToCome_X4_isSettled rfl rfl rfl (by decide +kernel) ⟨Nat.le_of_ble_eq_true rfl, Nat.le_of_ble_eq_true rfl⟩) hE hP hD hA hS [0, 1, 2, 3, 4, 5, 6, 7] rfl rfl 4 0 rfl rfl rfl rfl hl.1 (Nat.le_of_ble_eq_true rfl) dX4_isPlainToCome_22 (fun H locs hP hS => ?_)
      refine lv_if_ne (tgt := 32) hx hb dX4_isPlainToCome_25 (by decide) (fun c6 => ?_) (fun c6 => ?_)
      · have hf := bs_f hf c6
        refine lv_iconst (v := 0) hx hb dX4_isPlainToCome_32 (by decide) ?_
        obtain rfl := Option.some.inj hf
        exact hret H locs _ _ hP hS bs_n0 dX4_isPlainToCome_33
      · have hf := bs_t hf c6
        refine lv_iconst (v := 1) hx hb dX4_isPlainToCome_28 (by decide) ?_
        refine lv_goto (tgt := 33) hx hb dX4_isPlainToCome_29 (by decide) ?_
        obtain rfl := Option.some.inj hf
        exact hret H locs _ _ hP hS bs_n1 dX4_isPlainToCome_33
set_option maxHeartbeats 4000000 in
set_option maxRecDepth 100000 in
theorem k_X4_howManyPlain (l : Launch) (dC : Nat → ClassId) (dI : Nat → Nat → Nat) (cI cZ cS cG : ClassId) (oh : Nat) (oq_keeping : Nat) (oq_giverOf : Nat) (oq_deedOf : Nat) (oq_dayOf : Nat) (oq_likelyOf : Nat) (oq_kindOf : Nat) (oq_settledOf : Nat) (o_told : Int32) (o_wax : Int32) (o_stick : Int32) (o_givers : Int32) (o_promises : Int32) (o_pan : Int32) (o_keeping : Nat → Int32) (o_giverOf : Nat → Int32) (o_deedOf : Nat → Int32) (o_dayOf : Nat → Int32) (o_likelyOf : Nat → Int32) (o_kindOf : Nat → Int32) (o_settledOf : Nat → Int32) (p1 : Int32) (out : Int32) (hf : f_X4_howManyPlain o_promises o_giverOf o_kindOf o_settledOf p1 = some out) : bs_C l dC dI cI cZ cS cG yX4_howManyPlain wsX4_howManyPlain ({ frames := 2, cells := 0, slots := 0, locals := 43 } : Room) [.ref oh, .int p1] ([(oh, .inr (4, [.int o_told, .int o_wax, .int o_stick, .int o_givers, .int o_promises, .int o_pan, .ref oq_keeping, .ref oq_giverOf, .ref oq_deedOf, .ref oq_dayOf, .ref oq_likelyOf, .ref oq_kindOf, .ref oq_settledOf])), (oq_keeping, .inl (cI, 4, .inl o_keeping)), (oq_giverOf, .inl (cI, 8, .inl o_giverOf)), (oq_deedOf, .inl (cI, 8, .inl o_deedOf)), (oq_dayOf, .inl (cI, 8, .inl o_dayOf)), (oq_likelyOf, .inl (cI, 8, .inl o_likelyOf)), (oq_kindOf, .inl (cI, 8, .inl o_kindOf)), (oq_settledOf, .inl (cI, 8, .inl o_settledOf))]) out ([(oh, .inr (4, [.int o_told, .int o_wax, .int o_stick, .int o_givers, .int o_promises, .int o_pan, .ref oq_keeping, .ref oq_giverOf, .ref oq_deedOf, .ref oq_dayOf, .ref oq_likelyOf, .ref oq_kindOf, .ref oq_settledOf])), (oq_keeping, .inl (cI, 4, .inl o_keeping)), (oq_giverOf, .inl (cI, 8, .inl o_giverOf)), (oq_deedOf, .inl (cI, 8, .inl o_deedOf)), (oq_dayOf, .inl (cI, 8, .inl o_dayOf)), (oq_likelyOf, .inl (cI, 8, .inl o_likelyOf)), (oq_kindOf, .inl (cI, 8, .inl o_kindOf)), (oq_settledOf, .inl (cI, 8, .inl o_settledOf))]) := by
  refine bs_ofI (cc := cX4_howManyPlain) (maxL := 4) (by decide) rfl (Nat.le_of_ble_eq_true rfl) ?_
  intro p e s m below meth c A Q hx hb hown hml hts hE H locs hP hD hA hS ls hl hret
  have hK := hE.1
  have hl : lv_has ls 4 [(0, .ref oh), (1, .int p1)] := hl
  have hin4 : ∀ w ∈ u_ws RX4 TX4 13, w ∈ wsX4_howManyPlain := by decide +kernel
  have k41 := hts (.fieldLink RX4 41 "PromiseScales$Scales" "promises" "I") (by decide +kernel)
  unfold f_X4_howManyPlain at hf
  refine lv_iconst (v := 0) hx hb dX4_howManyPlain_0 (by decide) ?_
  refine lv_istore_n (lv' := [(2, .int 0), (0, .ref oh), (1, .int p1)]) hx hb dX4_howManyPlain_1 rfl hl (by decide) rfl (fun ls hl => ?_)
  refine lv_iconst (v := 0) hx hb dX4_howManyPlain_2 (by decide) ?_
  refine lv_istore_n (lv' := [(3, .int 0), (2, .int 0), (0, .ref oh), (1, .int p1)]) hx hb dX4_howManyPlain_3 rfl hl (by decide) rfl (fun ls hl => ?_)
  have L_4 : ∀ (fuel : Nat) (x2_4 : Int32) (x3_4 : Int32) (H : Heap) (locs : List Loc) (ls : Array Slot), va_P (dC, dI) vwCl ([(oh, .inr (4, [.int o_told, .int o_wax, .int o_stick, .int o_givers, .int o_promises, .int o_pan, .ref oq_keeping, .ref oq_giverOf, .ref oq_deedOf, .ref oq_dayOf, .ref oq_likelyOf, .ref oq_kindOf, .ref oq_settledOf])), (oq_keeping, .inl (cI, 4, .inl o_keeping)), (oq_giverOf, .inl (cI, 8, .inl o_giverOf)), (oq_deedOf, .inl (cI, 8, .inl o_deedOf)), (oq_dayOf, .inl (cI, 8, .inl o_dayOf)), (oq_likelyOf, .inl (cI, 8, .inl o_likelyOf)), (oq_kindOf, .inl (cI, 8, .inl o_kindOf)), (oq_settledOf, .inl (cI, 8, .inl o_settledOf))]) H → va_D A ([(oh, .inr (4, [.int o_told, .int o_wax, .int o_stick, .int o_givers, .int o_promises, .int o_pan, .ref oq_keeping, .ref oq_giverOf, .ref oq_deedOf, .ref oq_dayOf, .ref oq_likelyOf, .ref oq_kindOf, .ref oq_settledOf])), (oq_keeping, .inl (cI, 4, .inl o_keeping)), (oq_giverOf, .inl (cI, 8, .inl o_giverOf)), (oq_deedOf, .inl (cI, 8, .inl o_deedOf)), (oq_dayOf, .inl (cI, 8, .inl o_dayOf)), (oq_likelyOf, .inl (cI, 8, .inl o_likelyOf)), (oq_kindOf, .inl (cI, 8, .inl o_kindOf)), (oq_settledOf, .inl (cI, 8, .inl o_settledOf))]) → va_S A s.heap H locs → lv_has ls 4 [(0, .ref oh), (1, .int p1), (2, .int x2_4), (3, .int x3_4)] → f_X4_howManyPlain_L4 o_promises o_giverOf o_kindOf o_settledOf p1 fuel x2_4 x3_4 = some out → W p l e ({ frames := 2, cells := 0, slots := 0, locals := 43 } : Room) s m ([.ref oh, .int p1] : List Value).toArray below meth c H locs 0 0 Q (F0 m 4 ls []) := by
    intro fuel
    induction fuel with
    | zero =>
      intro x2_4 x3_4 H locs ls hP hD hS hl hf
      cases (show (none : Option (Int32)) = some out from hf)
    | succ n_4 ih_4 =>
      intro x2_4 x3_4 H locs ls hP hD hS hl hf
      have hf := (f_X4_howManyPlain_L4_s o_promises o_giverOf o_kindOf o_settledOf p1 n_4 x2_4 x3_4).symm.trans hf
      refine lv_iload_n hx hb dX4_howManyPlain_4 rfl (lv_at hl 3 rfl) ?_
      refine lv_aload_n hx hb dX4_howManyPlain_5 rfl (lv_at hl 0 rfl) ?_
      refine va_get (D := (dC, dI)) (ci := 4) (v := .int o_promises) (C := RX4) (T := TX4) (N := 13) hx hb hts hin4 hown hK hP 0 rfl rfl 4 (by decide) k41 (fun _ h9 => h9) rfl dX4_howManyPlain_6 ?_
      refine lv_icmp_ge (tgt := 35) hx hb dX4_howManyPlain_9 (by decide) (fun c1 => ?_) (fun c1 => ?_)
      · have hf := bs_t hf c1
        refine lv_iload_n hx hb dX4_howManyPlain_35 rfl (lv_at hl 2 rfl) ?_
        obtain rfl := Option.some.inj hf
        exact hret H locs _ _ hP hS rfl dX4_howManyPlain_36
      · have hf := bs_f hf c1
        refine lv_iload_n hx hb dX4_howManyPlain_12 rfl (lv_at hl 2 rfl) ?_
        refine lv_aload_n hx hb dX4_howManyPlain_13 rfl (lv_at hl 0 rfl) ?_
        refine lv_iload_n hx hb dX4_howManyPlain_14 rfl (lv_at hl 3 rfl) ?_
        refine lv_iload_n hx hb dX4_howManyPlain_15 rfl (lv_at hl 1 rfl) ?_
        obtain ⟨z2, hz2, hf⟩ := bs_b hf
        refine bs_cViR ⟨hx, hb, hml, hown, hts⟩ (k_X4_isPlainToCome l dC dI cI cZ cS cG oh oq_keeping oq_giverOf oq_deedOf oq_dayOf oq_likelyOf oq_kindOf oq_settledOf o_told o_wax o_stick o_givers o_promises o_pan o_keeping o_giverOf o_deedOf o_dayOf o_likelyOf o_kindOf o_settledOf x3_4 p1 z2 hz2) (cwV 2 hts gX4_howManyPlain_X4_isPlainToCome rfl rfl rfl (by decide +kernel) ⟨Nat.le_of_ble_eq_true rfl, Nat.le_of_ble_eq_true rfl⟩) hE hP hD hA hS [0, 1, 2, 3, 4, 5, 6, 7] rfl rfl 4 0 rfl rfl rfl rfl hl.1 (Nat.le_of_ble_eq_true rfl) dX4_howManyPlain_16 (fun H locs hP hS => ?_)
        refine lv_if_eq (tgt := 26) hx hb dX4_howManyPlain_19 (by decide) (fun c3 => ?_) (fun c3 => ?_)
        · have hf := bs_t hf c3
          refine lv_iconst (v := 0) hx hb dX4_howManyPlain_26 (by decide) ?_
          refine lv_iadd hx hb dX4_howManyPlain_27 ?_
          refine lv_istore_n (lv' := [(2, .int (x2_4 + 0)), (0, .ref oh), (1, .int p1), (3, .int x3_4)]) hx hb dX4_howManyPlain_28 rfl hl (by decide) rfl (fun ls hl => ?_)
          refine lv_iinc (v := x3_4 + 1) (lv' := [(3, .int (x3_4 + 1)), (2, .int (x2_4 + 0)), (0, .ref oh), (1, .int p1)]) hx hb dX4_howManyPlain_29 hl (k := 3) rfl rfl (by decide) rfl (fun ls hl => ?_)
          refine lv_goto (tgt := 4) hx hb dX4_howManyPlain_32 (by decide) ?_
          exact ih_4 (x2_4 + 0) (x3_4 + 1) H locs ls hP hD hS (lv_sub hl [2, 3, 1, 0] rfl) hf
        · have hf := bs_f hf c3
          refine lv_iconst (v := 1) hx hb dX4_howManyPlain_22 (by decide) ?_
          refine lv_goto (tgt := 27) hx hb dX4_howManyPlain_23 (by decide) ?_
          refine lv_iadd hx hb dX4_howManyPlain_27 ?_
          refine lv_istore_n (lv' := [(2, .int (x2_4 + 1)), (0, .ref oh), (1, .int p1), (3, .int x3_4)]) hx hb dX4_howManyPlain_28 rfl hl (by decide) rfl (fun ls hl => ?_)
          refine lv_iinc (v := x3_4 + 1) (lv' := [(3, .int (x3_4 + 1)), (2, .int (x2_4 + 1)), (0, .ref oh), (1, .int p1)]) hx hb dX4_howManyPlain_29 hl (k := 3) rfl rfl (by decide) rfl (fun ls hl => ?_)
          refine lv_goto (tgt := 4) hx hb dX4_howManyPlain_32 (by decide) ?_
          exact ih_4 (x2_4 + 1) (x3_4 + 1) H locs ls hP hD hS (lv_sub hl [2, 3, 1, 0] rfl) hf
  exact L_4 bs_F (0 : Int32) (0 : Int32) H locs ls hP hD hS (lv_sub hl [2, 3, 1, 0] rfl) hf
set_option maxHeartbeats 4000000 in
set_option maxRecDepth 100000 in
theorem k_X4_plainWeigh (l : Launch) (dC : Nat → ClassId) (dI : Nat → Nat → Nat) (cI cZ cS cG : ClassId) (oh : Nat) (oq_keeping : Nat) (oq_giverOf : Nat) (oq_deedOf : Nat) (oq_dayOf : Nat) (oq_likelyOf : Nat) (oq_kindOf : Nat) (oq_settledOf : Nat) (aq : Nat) (o_told : Int32) (o_wax : Int32) (o_stick : Int32) (o_givers : Int32) (o_promises : Int32) (o_pan : Int32) (o_keeping : Nat → Int32) (o_giverOf : Nat → Int32) (o_deedOf : Nat → Int32) (o_dayOf : Nat → Int32) (o_likelyOf : Nat → Int32) (o_kindOf : Nat → Int32) (o_settledOf : Nat → Int32) (a : Nat → Int32) (p1 : Int32) (p2 : Int32) (p4 : Int32) (out : Int32) (hf : f_X4_plainWeigh o_promises o_giverOf o_likelyOf o_kindOf o_settledOf a p1 p2 p4 = some out) : bs_C l dC dI cI cZ cS cG yX4_plainWeigh wsX4_plainWeigh ({ frames := 2, cells := 0, slots := 0, locals := 43 } : Room) [.ref oh, .int p1, .int p2, .ref aq, .int p4] ([(oh, .inr (4, [.int o_told, .int o_wax, .int o_stick, .int o_givers, .int o_promises, .int o_pan, .ref oq_keeping, .ref oq_giverOf, .ref oq_deedOf, .ref oq_dayOf, .ref oq_likelyOf, .ref oq_kindOf, .ref oq_settledOf])), (oq_keeping, .inl (cI, 4, .inl o_keeping)), (oq_giverOf, .inl (cI, 8, .inl o_giverOf)), (oq_deedOf, .inl (cI, 8, .inl o_deedOf)), (oq_dayOf, .inl (cI, 8, .inl o_dayOf)), (oq_likelyOf, .inl (cI, 8, .inl o_likelyOf)), (oq_kindOf, .inl (cI, 8, .inl o_kindOf)), (oq_settledOf, .inl (cI, 8, .inl o_settledOf)), (aq, .inl (cI, 40, .inl a))]) out ([(oh, .inr (4, [.int o_told, .int o_wax, .int o_stick, .int o_givers, .int o_promises, .int o_pan, .ref oq_keeping, .ref oq_giverOf, .ref oq_deedOf, .ref oq_dayOf, .ref oq_likelyOf, .ref oq_kindOf, .ref oq_settledOf])), (oq_keeping, .inl (cI, 4, .inl o_keeping)), (oq_giverOf, .inl (cI, 8, .inl o_giverOf)), (oq_deedOf, .inl (cI, 8, .inl o_deedOf)), (oq_dayOf, .inl (cI, 8, .inl o_dayOf)), (oq_likelyOf, .inl (cI, 8, .inl o_likelyOf)), (oq_kindOf, .inl (cI, 8, .inl o_kindOf)), (oq_settledOf, .inl (cI, 8, .inl o_settledOf)), (aq, .inl (cI, 40, .inl a))]) := by
  refine bs_ofI (cc := cX4_plainWeigh) (maxL := 7) (by decide) rfl (Nat.le_of_ble_eq_true rfl) ?_
  intro p e s m below meth c A Q hx hb hown hml hts hE H locs hP hD hA hS ls hl hret
  have hK := hE.1
  have hl : lv_has ls 7 [(0, .ref oh), (1, .int p1), (2, .int p2), (3, .ref aq), (4, .int p4)] := hl
  have hin4 : ∀ w ∈ u_ws RX4 TX4 13, w ∈ wsX4_plainWeigh := by decide +kernel
  have k41 := hts (.fieldLink RX4 41 "PromiseScales$Scales" "promises" "I") (by decide +kernel)
  unfold f_X4_plainWeigh at hf
  refine lv_iload hx hb dX4_plainWeigh_0 (lv_at hl 4 rfl) ?_
  refine lv_istore (lv' := [(5, .int p4), (0, .ref oh), (1, .int p1), (2, .int p2), (3, .ref aq), (4, .int p4)]) hx hb dX4_plainWeigh_2 hl (by decide) rfl (fun ls hl => ?_)
  refine lv_iconst (v := 0) hx hb dX4_plainWeigh_4 (by decide) ?_
  refine lv_istore (lv' := [(6, .int 0), (5, .int p4), (0, .ref oh), (1, .int p1), (2, .int p2), (3, .ref aq), (4, .int p4)]) hx hb dX4_plainWeigh_5 hl (by decide) rfl (fun ls hl => ?_)
  have L_7 : ∀ (fuel : Nat) (x5_7 : Int32) (x6_7 : Int32) (H : Heap) (locs : List Loc) (ls : Array Slot), va_P (dC, dI) vwCl ([(oh, .inr (4, [.int o_told, .int o_wax, .int o_stick, .int o_givers, .int o_promises, .int o_pan, .ref oq_keeping, .ref oq_giverOf, .ref oq_deedOf, .ref oq_dayOf, .ref oq_likelyOf, .ref oq_kindOf, .ref oq_settledOf])), (oq_keeping, .inl (cI, 4, .inl o_keeping)), (oq_giverOf, .inl (cI, 8, .inl o_giverOf)), (oq_deedOf, .inl (cI, 8, .inl o_deedOf)), (oq_dayOf, .inl (cI, 8, .inl o_dayOf)), (oq_likelyOf, .inl (cI, 8, .inl o_likelyOf)), (oq_kindOf, .inl (cI, 8, .inl o_kindOf)), (oq_settledOf, .inl (cI, 8, .inl o_settledOf)), (aq, .inl (cI, 40, .inl a))]) H → va_D A ([(oh, .inr (4, [.int o_told, .int o_wax, .int o_stick, .int o_givers, .int o_promises, .int o_pan, .ref oq_keeping, .ref oq_giverOf, .ref oq_deedOf, .ref oq_dayOf, .ref oq_likelyOf, .ref oq_kindOf, .ref oq_settledOf])), (oq_keeping, .inl (cI, 4, .inl o_keeping)), (oq_giverOf, .inl (cI, 8, .inl o_giverOf)), (oq_deedOf, .inl (cI, 8, .inl o_deedOf)), (oq_dayOf, .inl (cI, 8, .inl o_dayOf)), (oq_likelyOf, .inl (cI, 8, .inl o_likelyOf)), (oq_kindOf, .inl (cI, 8, .inl o_kindOf)), (oq_settledOf, .inl (cI, 8, .inl o_settledOf)), (aq, .inl (cI, 40, .inl a))]) → va_S A s.heap H locs → lv_has ls 7 [(0, .ref oh), (1, .int p1), (2, .int p2), (3, .ref aq), (5, .int x5_7), (6, .int x6_7)] → f_X4_plainWeigh_L7 o_promises o_giverOf o_likelyOf o_kindOf o_settledOf a p1 p2 fuel x5_7 x6_7 = some out → W p l e ({ frames := 2, cells := 0, slots := 0, locals := 43 } : Room) s m ([.ref oh, .int p1, .int p2, .ref aq, .int p4] : List Value).toArray below meth c H locs 0 0 Q (F0 m 7 ls []) := by
    intro fuel
    induction fuel with
    | zero =>
      intro x5_7 x6_7 H locs ls hP hD hS hl hf
      cases (show (none : Option (Int32)) = some out from hf)
    | succ n_7 ih_7 =>
      intro x5_7 x6_7 H locs ls hP hD hS hl hf
      have hf := (f_X4_plainWeigh_L7_s o_promises o_giverOf o_likelyOf o_kindOf o_settledOf a p1 p2 n_7 x5_7 x6_7).symm.trans hf
      refine lv_iload hx hb dX4_plainWeigh_7 (lv_at hl 5 rfl) ?_
      refine lv_aload_n hx hb dX4_plainWeigh_9 rfl (lv_at hl 0 rfl) ?_
      refine va_get (D := (dC, dI)) (ci := 4) (v := .int o_promises) (C := RX4) (T := TX4) (N := 13) hx hb hts hin4 hown hK hP 0 rfl rfl 4 (by decide) k41 (fun _ h9 => h9) rfl dX4_plainWeigh_10 ?_
      refine lv_icmp_ge (tgt := 51) hx hb dX4_plainWeigh_13 (by decide) (fun c1 => ?_) (fun c1 => ?_)
      · have hf := bs_t hf c1
        refine lv_iconst (v := 1) hx hb dX4_plainWeigh_51 (by decide) ?_
        obtain rfl := Option.some.inj hf
        exact hret H locs _ _ hP hS bs_n1 dX4_plainWeigh_52
      · have hf := bs_f hf c1
        refine lv_aload_n hx hb dX4_plainWeigh_16 rfl (lv_at hl 0 rfl) ?_
        refine lv_iload hx hb dX4_plainWeigh_17 (lv_at hl 5 rfl) ?_
        refine lv_iload_n hx hb dX4_plainWeigh_19 rfl (lv_at hl 1 rfl) ?_
        obtain ⟨z2, hz2, hf⟩ := bs_b hf
        refine bs_cViR ⟨hx, hb, hml, hown, hts⟩ (k_X4_isPlainToCome l dC dI cI cZ cS cG oh oq_keeping oq_giverOf oq_deedOf oq_dayOf oq_likelyOf oq_kindOf oq_settledOf o_told o_wax o_stick o_givers o_promises o_pan o_keeping o_giverOf o_deedOf o_dayOf o_likelyOf o_kindOf o_settledOf x6_7 p1 z2 hz2) (cwV 2 hts gX4_plainWeigh_X4_isPlainToCome rfl rfl rfl (by decide +kernel) ⟨Nat.le_of_ble_eq_true rfl, Nat.le_of_ble_eq_true rfl⟩) hE hP hD hA hS [0, 1, 2, 3, 4, 5, 6, 7] rfl rfl 4 0 rfl rfl rfl rfl hl.1 (Nat.le_of_ble_eq_true rfl) dX4_plainWeigh_20 (fun H locs hP hS => ?_)
        refine lv_if_eq (tgt := 45) hx hb dX4_plainWeigh_23 (by decide) (fun c3 => ?_) (fun c3 => ?_)
        · have hf := bs_t hf c3
          refine lv_iinc (v := x6_7 + 1) (lv' := [(6, .int (x6_7 + 1)), (0, .ref oh), (1, .int p1), (2, .int p2), (3, .ref aq), (5, .int x5_7)]) hx hb dX4_plainWeigh_45 hl (k := 5) rfl rfl (by decide) rfl (fun ls hl => ?_)
          refine lv_goto (tgt := 7) hx hb dX4_plainWeigh_48 (by decide) ?_
          exact ih_7 x5_7 (x6_7 + 1) H locs ls hP hD hS (lv_sub hl [1, 2, 3, 4, 5, 0] rfl) hf
        · have hf := bs_f hf c3
          refine lv_aload_n hx hb dX4_plainWeigh_26 rfl (lv_at hl 3 rfl) ?_
          refine lv_iload hx hb dX4_plainWeigh_27 (lv_at hl 4 rfl) ?_
          obtain ⟨g4, hf⟩ := bs_g hf
          refine va_iald hx hb hK hP 8 0 rfl rfl (bs_inV g4) dX4_plainWeigh_29 ?_
          refine lv_aload_n hx hb dX4_plainWeigh_30 rfl (lv_at hl 0 rfl) ?_
          refine lv_iload hx hb dX4_plainWeigh_31 (lv_at hl 5 rfl) ?_
          refine lv_iload_n hx hb dX4_plainWeigh_33 rfl (lv_at hl 2 rfl) ?_
          obtain ⟨z5, hz5, hf⟩ := bs_b hf
          refine bs_cViR ⟨hx, hb, hml, hown, hts⟩ (k_X4_plainWeight l dC dI cI cZ cS cG oh oq_keeping oq_giverOf oq_deedOf oq_dayOf oq_likelyOf oq_kindOf oq_settledOf o_told o_wax o_stick o_givers o_promises o_pan o_keeping o_giverOf o_deedOf o_dayOf o_likelyOf o_kindOf o_settledOf x6_7 p2 z5 hz5) (cwV 2 hts gX4_plainWeigh_X4_plainWeight rfl rfl rfl (by decide +kernel) ⟨Nat.le_of_ble_eq_true rfl, Nat.le_of_ble_eq_true rfl⟩) hE hP hD hA hS [0, 1, 2, 3, 4, 5, 6, 7] rfl rfl 4 0 rfl rfl rfl rfl hl.1 (Nat.le_of_ble_eq_true rfl) dX4_plainWeigh_34 (fun H locs hP hS => ?_)
          refine lv_icmp_eq (tgt := 42) hx hb dX4_plainWeigh_37 (by decide) (fun c6 => ?_) (fun c6 => ?_)
          · have hf := bs_t hf c6
            refine lv_iinc (v := x5_7 + 1) (lv' := [(5, .int (x5_7 + 1)), (0, .ref oh), (1, .int p1), (2, .int p2), (3, .ref aq), (6, .int x6_7)]) hx hb dX4_plainWeigh_42 hl (k := 4) rfl rfl (by decide) rfl (fun ls hl => ?_)
            refine lv_iinc (v := x6_7 + 1) (lv' := [(6, .int (x6_7 + 1)), (5, .int (x5_7 + 1)), (0, .ref oh), (1, .int p1), (2, .int p2), (3, .ref aq)]) hx hb dX4_plainWeigh_45 hl (k := 5) rfl rfl (by decide) rfl (fun ls hl => ?_)
            refine lv_goto (tgt := 7) hx hb dX4_plainWeigh_48 (by decide) ?_
            exact ih_7 (x5_7 + 1) (x6_7 + 1) H locs ls hP hD hS (lv_sub hl [2, 3, 4, 5, 1, 0] rfl) hf
          · have hf := bs_f hf c6
            refine lv_iconst (v := 0) hx hb dX4_plainWeigh_40 (by decide) ?_
            obtain rfl := Option.some.inj hf
            exact hret H locs _ _ hP hS bs_n0 dX4_plainWeigh_41
  exact L_7 bs_F p4 (0 : Int32) H locs ls hP hD hS (lv_sub hl [2, 3, 4, 5, 1, 0] rfl) hf
set_option maxHeartbeats 4000000 in
set_option maxRecDepth 100000 in
theorem k_X5_isFull (l : Launch) (dC : Nat → ClassId) (dI : Nat → Nat → Nat) (cI cZ cS cG : ClassId) (oh : Nat) (oq_letters : Nat) (o_letters : Nat → Int32) (o_bytes : Int32) (o_at : Int32) (o_faultMet : Int32) (out : Int32) (hf : f_X5_isFull o_bytes = some out) : bs_C l dC dI cI cZ cS cG yX5_isFull wsX5_isFull ({ frames := 0, cells := 0, slots := 0, locals := 0 } : Room) [.ref oh] ([(oh, .inr (5, [.ref oq_letters, .int o_bytes, .int o_at, .int o_faultMet])), (oq_letters, .inl (cI, 120, .inl o_letters))]) out ([(oh, .inr (5, [.ref oq_letters, .int o_bytes, .int o_at, .int o_faultMet])), (oq_letters, .inl (cI, 120, .inl o_letters))]) := by
  refine bs_ofI (cc := cX5_isFull) (maxL := 1) (by decide) rfl (Nat.le_of_ble_eq_true rfl) ?_
  intro p e s m below meth c A Q hx hb hown hml hts hE H locs hP hD hA hS ls hl hret
  have hK := hE.1
  have hl : lv_has ls 1 [(0, .ref oh)] := hl
  have hin5 : ∀ w ∈ u_ws RX5 TX5 4, w ∈ wsX5_isFull := by decide +kernel
  have k15 := hts (.fieldLink RX5 15 "PromiseScales$Tape" "bytes" "I") (by decide +kernel)
  unfold f_X5_isFull at hf
  refine lv_aload_n hx hb dX5_isFull_0 rfl (lv_at hl 0 rfl) ?_
  refine va_get (D := (dC, dI)) (ci := 5) (v := .int o_bytes) (C := RX5) (T := TX5) (N := 4) hx hb hts hin5 hown hK hP 0 rfl rfl 1 (by decide) k15 (fun _ h9 => h9) rfl dX5_isFull_1 ?_
  refine lv_bipush (v := 120) hx hb dX5_isFull_4 (by decide) ?_
  refine lv_icmp_lt (tgt := 13) hx hb dX5_isFull_6 (by decide) (fun c1 => ?_) (fun c1 => ?_)
  · have hf := bs_t hf c1
    refine lv_iconst (v := 0) hx hb dX5_isFull_13 (by decide) ?_
    obtain rfl := Option.some.inj hf
    exact hret H locs _ _ hP hS bs_n0 dX5_isFull_14
  · have hf := bs_f hf c1
    refine lv_iconst (v := 1) hx hb dX5_isFull_9 (by decide) ?_
    refine lv_goto (tgt := 14) hx hb dX5_isFull_10 (by decide) ?_
    obtain rfl := Option.some.inj hf
    exact hret H locs _ _ hP hS bs_n1 dX5_isFull_14
set_option maxHeartbeats 4000000 in
set_option maxRecDepth 100000 in
theorem k_X5_add (l : Launch) (dC : Nat → ClassId) (dI : Nat → Nat → Nat) (cI cZ cS cG : ClassId) (oh : Nat) (oq_letters : Nat) (o_letters : Nat → Int32) (o_bytes : Int32) (o_at : Int32) (o_faultMet : Int32) (p1 : Int32) (out : Int32 × (Nat → Int32) × Int32) (hf : f_X5_add o_letters o_bytes p1 = some out) : bs_C l dC dI cI cZ cS cG yX5_add wsX5_add ({ frames := 1, cells := 0, slots := 0, locals := 20 } : Room) [.ref oh, .int p1] ([(oh, .inr (5, [.ref oq_letters, .int o_bytes, .int o_at, .int o_faultMet])), (oq_letters, .inl (cI, 120, .inl o_letters))]) out.1 ([(oh, .inr (5, [.ref oq_letters, .int out.2.2, .int o_at, .int o_faultMet])), (oq_letters, .inl (cI, 120, .inl out.2.1))]) := by
  refine bs_ofI (cc := cX5_add) (maxL := 2) (by decide) rfl (Nat.le_of_ble_eq_true rfl) ?_
  intro p e s m below meth c A Q hx hb hown hml hts hE H locs hP hD hA hS ls hl hret
  have hK := hE.1
  have hl : lv_has ls 2 [(0, .ref oh), (1, .int p1)] := hl
  have hin5 : ∀ w ∈ u_ws RX5 TX5 4, w ∈ wsX5_add := by decide +kernel
  have k11 := hts (.fieldLink RX5 11 "PromiseScales$Tape" "letters" "[I") (by decide +kernel)
  have k15 := hts (.fieldLink RX5 15 "PromiseScales$Tape" "bytes" "I") (by decide +kernel)
  unfold f_X5_add at hf
  refine lv_aload_n hx hb dX5_add_0 rfl (lv_at hl 0 rfl) ?_
  obtain ⟨z1, hz1, hf⟩ := bs_b hf
  refine bs_cViR ⟨hx, hb, hml, hown, hts⟩ (k_X5_isFull l dC dI cI cZ cS cG oh oq_letters o_letters o_bytes o_at o_faultMet z1 hz1) (cwV 0 hts gX5_add_X5_isFull rfl rfl rfl (by decide +kernel) ⟨Nat.le_of_ble_eq_true rfl, Nat.le_of_ble_eq_true rfl⟩) hE hP hD hA hS [0, 1] rfl rfl 5 0 rfl rfl rfl rfl hl.1 (Nat.le_of_ble_eq_true rfl) dX5_add_1 (fun H locs hP hS => ?_)
  refine lv_if_ne (tgt := 27) hx hb dX5_add_4 (by decide) (fun c2 => ?_) (fun c2 => ?_)
  · have hf := bs_f hf c2
    refine lv_aload_n hx hb dX5_add_27 rfl (lv_at hl 0 rfl) ?_
    refine va_get (D := (dC, dI)) (ci := 5) (v := .int o_bytes) (C := RX5) (T := TX5) (N := 4) hx hb hts hin5 hown hK hP 0 rfl rfl 1 (by decide) k15 (fun _ h9 => h9) rfl dX5_add_28 ?_
    obtain rfl := Option.some.inj hf
    exact hret H locs _ _ hP hS rfl dX5_add_31
  · have hf := bs_t hf c2
    refine lv_aload_n hx hb dX5_add_7 rfl (lv_at hl 0 rfl) ?_
    refine va_get (D := (dC, dI)) (ci := 5) (v := .ref oq_letters) (C := RX5) (T := TX5) (N := 4) hx hb hts hin5 hown hK hP 0 rfl rfl 0 (by decide) k11 (fun _ h9 => h9) rfl dX5_add_8 ?_
    refine lv_aload_n hx hb dX5_add_11 rfl (lv_at hl 0 rfl) ?_
    refine va_get (D := (dC, dI)) (ci := 5) (v := .int o_bytes) (C := RX5) (T := TX5) (N := 4) hx hb hts hin5 hown hK hP 0 rfl rfl 1 (by decide) k15 (fun _ h9 => h9) rfl dX5_add_12 ?_
    refine lv_iload_n hx hb dX5_add_15 rfl (lv_at hl 1 rfl) ?_
    obtain ⟨g3, hf⟩ := bs_g hf
    refine va_iast hx hb hK hP hD hS 1 0 rfl rfl (bs_inV g3) dX5_add_16 (fun H locs hP hD hS => ?_)
    have hP : va_P (dC, dI) vwCl ([(oh, .inr (5, [.ref oq_letters, .int o_bytes, .int o_at, .int o_faultMet])), (oq_letters, .inl (cI, 120, .inl (upd o_letters o_bytes.toNatClampNeg p1)))]) H := hP
    have hD : va_D A ([(oh, .inr (5, [.ref oq_letters, .int o_bytes, .int o_at, .int o_faultMet])), (oq_letters, .inl (cI, 120, .inl (upd o_letters o_bytes.toNatClampNeg p1)))]) := hD
    refine lv_aload_n hx hb dX5_add_17 rfl (lv_at hl 0 rfl) ?_
    refine lv_dup hx hb dX5_add_18 rfl ?_
    refine va_get (D := (dC, dI)) (ci := 5) (v := .int o_bytes) (C := RX5) (T := TX5) (N := 4) hx hb hts hin5 hown hK hP 0 rfl rfl 1 (by decide) k15 (fun _ h9 => h9) rfl dX5_add_19 ?_
    refine lv_iconst (v := 1) hx hb dX5_add_22 (by decide) ?_
    refine lv_iadd hx hb dX5_add_23 ?_
    refine va_put (D := (dC, dI)) (ci := 5) (v := .int (o_bytes + 1)) (ty := .int) (C := RX5) (T := TX5) (N := 4) hx hb hts hin5 tyX5 tyX5_ok nmX5 hown hK hP hD hS 0 rfl rfl 1 (by decide) k15 (fun _ h9 => h9) rfl (by decide +kernel) rfl rfl (Nat.le_of_ble_eq_true rfl) dX5_add_24 (fun H locs hP hD hS => ?_)
    have hP : va_P (dC, dI) vwCl ([(oh, .inr (5, [.ref oq_letters, .int (o_bytes + 1), .int o_at, .int o_faultMet])), (oq_letters, .inl (cI, 120, .inl (upd o_letters o_bytes.toNatClampNeg p1)))]) H := hP
    have hD : va_D A ([(oh, .inr (5, [.ref oq_letters, .int (o_bytes + 1), .int o_at, .int o_faultMet])), (oq_letters, .inl (cI, 120, .inl (upd o_letters o_bytes.toNatClampNeg p1)))]) := hD
    refine lv_aload_n hx hb dX5_add_27 rfl (lv_at hl 0 rfl) ?_
    refine va_get (D := (dC, dI)) (ci := 5) (v := .int (o_bytes + 1)) (C := RX5) (T := TX5) (N := 4) hx hb hts hin5 hown hK hP 0 rfl rfl 1 (by decide) k15 (fun _ h9 => h9) rfl dX5_add_28 ?_
    obtain rfl := Option.some.inj hf
    exact hret H locs _ _ hP hS rfl dX5_add_31
set_option maxHeartbeats 4000000 in
set_option maxRecDepth 100000 in
theorem k_X5_faultPlace (l : Launch) (dC : Nat → ClassId) (dI : Nat → Nat → Nat) (cI cZ cS cG : ClassId) (oh : Nat) (oq_letters : Nat) (o_letters : Nat → Int32) (o_bytes : Int32) (o_at : Int32) (o_faultMet : Int32) (out : Int32) (hf : f_X5_faultPlace o_at = some out) : bs_C l dC dI cI cZ cS cG yX5_faultPlace wsX5_faultPlace ({ frames := 0, cells := 0, slots := 0, locals := 0 } : Room) [.ref oh] ([(oh, .inr (5, [.ref oq_letters, .int o_bytes, .int o_at, .int o_faultMet])), (oq_letters, .inl (cI, 120, .inl o_letters))]) out ([(oh, .inr (5, [.ref oq_letters, .int o_bytes, .int o_at, .int o_faultMet])), (oq_letters, .inl (cI, 120, .inl o_letters))]) := by
  refine bs_ofI (cc := cX5_faultPlace) (maxL := 1) (by decide) rfl (Nat.le_of_ble_eq_true rfl) ?_
  intro p e s m below meth c A Q hx hb hown hml hts hE H locs hP hD hA hS ls hl hret
  have hK := hE.1
  have hl : lv_has ls 1 [(0, .ref oh)] := hl
  have hin5 : ∀ w ∈ u_ws RX5 TX5 4, w ∈ wsX5_faultPlace := by decide +kernel
  have k23 := hts (.fieldLink RX5 23 "PromiseScales$Tape" "at" "I") (by decide +kernel)
  unfold f_X5_faultPlace at hf
  refine lv_aload_n hx hb dX5_faultPlace_0 rfl (lv_at hl 0 rfl) ?_
  refine va_get (D := (dC, dI)) (ci := 5) (v := .int o_at) (C := RX5) (T := TX5) (N := 4) hx hb hts hin5 hown hK hP 0 rfl rfl 2 (by decide) k23 (fun _ h9 => h9) rfl dX5_faultPlace_1 ?_
  obtain rfl := Option.some.inj hf
  exact hret H locs _ _ hP hS rfl dX5_faultPlace_4
set_option maxHeartbeats 4000000 in
set_option maxRecDepth 100000 in
theorem k_X5_meet (l : Launch) (dC : Nat → ClassId) (dI : Nat → Nat → Nat) (cI cZ cS cG : ClassId) (oh : Nat) (oq_letters : Nat) (o_letters : Nat → Int32) (o_bytes : Int32) (o_at : Int32) (o_faultMet : Int32) (p1 : Int32) (out : Int32) (hf : f_X5_meet o_faultMet p1 = some out) : bs_CV l dC dI cI cZ cS cG yX5_meet wsX5_meet ({ frames := 0, cells := 0, slots := 0, locals := 0 } : Room) [.ref oh, .int p1] ([(oh, .inr (5, [.ref oq_letters, .int o_bytes, .int o_at, .int o_faultMet])), (oq_letters, .inl (cI, 120, .inl o_letters))]) ([(oh, .inr (5, [.ref oq_letters, .int o_bytes, .int o_at, .int out])), (oq_letters, .inl (cI, 120, .inl o_letters))]) := by
  refine bs_ofV (cc := cX5_meet) (maxL := 2) (by decide) rfl (Nat.le_of_ble_eq_true rfl) ?_
  intro p e s m below meth c A Q hx hb hown hml hts hE H locs hP hD hA hS ls hl hret
  have hK := hE.1
  have hl : lv_has ls 2 [(0, .ref oh), (1, .int p1)] := hl
  have hin5 : ∀ w ∈ u_ws RX5 TX5 4, w ∈ wsX5_meet := by decide +kernel
  have k26 := hts (.fieldLink RX5 26 "PromiseScales$Tape" "faultMet" "I") (by decide +kernel)
  unfold f_X5_meet at hf
  refine lv_aload_n hx hb dX5_meet_0 rfl (lv_at hl 0 rfl) ?_
  refine lv_iload_n hx hb dX5_meet_1 rfl (lv_at hl 1 rfl) ?_
  refine va_put (D := (dC, dI)) (ci := 5) (v := .int p1) (ty := .int) (C := RX5) (T := TX5) (N := 4) hx hb hts hin5 tyX5 tyX5_ok nmX5 hown hK hP hD hS 0 rfl rfl 3 (by decide) k26 (fun _ h9 => h9) rfl (by decide +kernel) rfl rfl (Nat.le_of_ble_eq_true rfl) dX5_meet_2 (fun H locs hP hD hS => ?_)
  have hP : va_P (dC, dI) vwCl ([(oh, .inr (5, [.ref oq_letters, .int o_bytes, .int o_at, .int p1])), (oq_letters, .inl (cI, 120, .inl o_letters))]) H := hP
  have hD : va_D A ([(oh, .inr (5, [.ref oq_letters, .int o_bytes, .int o_at, .int p1])), (oq_letters, .inl (cI, 120, .inl o_letters))]) := hD
  obtain rfl := Option.some.inj hf
  exact hret H locs _ _ hP hS dX5_meet_5
set_option maxHeartbeats 4000000 in
set_option maxRecDepth 100000 in
theorem k_X5_takeSign (l : Launch) (dC : Nat → ClassId) (dI : Nat → Nat → Nat) (cI cZ cS cG : ClassId) (oh : Nat) (oq_letters : Nat) (o_letters : Nat → Int32) (o_bytes : Int32) (o_at : Int32) (o_faultMet : Int32) (p1 : Int32) (out : Int32 × Int32) (hf : f_X5_takeSign o_letters o_bytes o_at o_faultMet p1 = some out) : bs_CV l dC dI cI cZ cS cG yX5_takeSign wsX5_takeSign ({ frames := 1, cells := 0, slots := 0, locals := 21 } : Room) [.ref oh, .int p1] ([(oh, .inr (5, [.ref oq_letters, .int o_bytes, .int o_at, .int o_faultMet])), (oq_letters, .inl (cI, 120, .inl o_letters))]) ([(oh, .inr (5, [.ref oq_letters, .int o_bytes, .int out.1, .int out.2])), (oq_letters, .inl (cI, 120, .inl o_letters))]) := by
  refine bs_ofV (cc := cX5_takeSign) (maxL := 2) (by decide) rfl (Nat.le_of_ble_eq_true rfl) ?_
  intro p e s m below meth c A Q hx hb hown hml hts hE H locs hP hD hA hS ls hl hret
  have hK := hE.1
  have hl : lv_has ls 2 [(0, .ref oh), (1, .int p1)] := hl
  have hin5 : ∀ w ∈ u_ws RX5 TX5 4, w ∈ wsX5_takeSign := by decide +kernel
  have k11 := hts (.fieldLink RX5 11 "PromiseScales$Tape" "letters" "[I") (by decide +kernel)
  have k15 := hts (.fieldLink RX5 15 "PromiseScales$Tape" "bytes" "I") (by decide +kernel)
  have k23 := hts (.fieldLink RX5 23 "PromiseScales$Tape" "at" "I") (by decide +kernel)
  have k26 := hts (.fieldLink RX5 26 "PromiseScales$Tape" "faultMet" "I") (by decide +kernel)
  unfold f_X5_takeSign at hf
  refine lv_aload_n hx hb dX5_takeSign_0 rfl (lv_at hl 0 rfl) ?_
  refine va_get (D := (dC, dI)) (ci := 5) (v := .int o_faultMet) (C := RX5) (T := TX5) (N := 4) hx hb hts hin5 hown hK hP 0 rfl rfl 3 (by decide) k26 (fun _ h9 => h9) rfl dX5_takeSign_1 ?_
  refine lv_if_eq (tgt := 8) hx hb dX5_takeSign_4 (by decide) (fun c1 => ?_) (fun c1 => ?_)
  · have hf := bs_t hf c1
    refine lv_aload_n hx hb dX5_takeSign_8 rfl (lv_at hl 0 rfl) ?_
    refine va_get (D := (dC, dI)) (ci := 5) (v := .int o_at) (C := RX5) (T := TX5) (N := 4) hx hb hts hin5 hown hK hP 0 rfl rfl 2 (by decide) k23 (fun _ h9 => h9) rfl dX5_takeSign_9 ?_
    refine lv_aload_n hx hb dX5_takeSign_12 rfl (lv_at hl 0 rfl) ?_
    refine va_get (D := (dC, dI)) (ci := 5) (v := .int o_bytes) (C := RX5) (T := TX5) (N := 4) hx hb hts hin5 hown hK hP 0 rfl rfl 1 (by decide) k15 (fun _ h9 => h9) rfl dX5_takeSign_13 ?_
    refine lv_icmp_ge (tgt := 45) hx hb dX5_takeSign_16 (by decide) (fun c2 => ?_) (fun c2 => ?_)
    · have hf := bs_t hf c2
      refine lv_aload_n hx hb dX5_takeSign_45 rfl (lv_at hl 0 rfl) ?_
      refine lv_iconst (v := 1) hx hb dX5_takeSign_46 (by decide) ?_
      obtain ⟨z3, hz3, hf⟩ := bs_b hf
      refine bs_cVv (ws1 := [(oh, .inr (5, [.ref oq_letters, .int o_bytes, .int o_at, .int z3])), (oq_letters, .inl (cI, 120, .inl o_letters))]) ⟨hx, hb, hml, hown, hts⟩ (k_X5_meet l dC dI cI cZ cS cG oh oq_letters o_letters o_bytes o_at o_faultMet (1 : Int32) z3 hz3) (cwV 1 hts gX5_takeSign_X5_meet rfl rfl rfl (by decide +kernel) ⟨Nat.le_of_ble_eq_true rfl, Nat.le_of_ble_eq_true rfl⟩) hE hP hD hA hS [0, 1] rfl rfl 5 0 rfl rfl rfl rfl rfl rfl rfl hl.1 (Nat.le_of_ble_eq_true rfl) dX5_takeSign_47 (fun H locs hP hD hS => ?_)
      obtain rfl := Option.some.inj hf
      exact hret H locs _ _ hP hS dX5_takeSign_50
    · have hf := bs_f hf c2
      refine lv_aload_n hx hb dX5_takeSign_19 rfl (lv_at hl 0 rfl) ?_
      refine va_get (D := (dC, dI)) (ci := 5) (v := .ref oq_letters) (C := RX5) (T := TX5) (N := 4) hx hb hts hin5 hown hK hP 0 rfl rfl 0 (by decide) k11 (fun _ h9 => h9) rfl dX5_takeSign_20 ?_
      refine lv_aload_n hx hb dX5_takeSign_23 rfl (lv_at hl 0 rfl) ?_
      refine va_get (D := (dC, dI)) (ci := 5) (v := .int o_at) (C := RX5) (T := TX5) (N := 4) hx hb hts hin5 hown hK hP 0 rfl rfl 2 (by decide) k23 (fun _ h9 => h9) rfl dX5_takeSign_24 ?_
      obtain ⟨g4, hf⟩ := bs_g hf
      refine va_iald hx hb hK hP 1 0 rfl rfl (bs_inV g4) dX5_takeSign_27 ?_
      refine lv_iload_n hx hb dX5_takeSign_28 rfl (lv_at hl 1 rfl) ?_
      refine lv_icmp_ne (tgt := 45) hx hb dX5_takeSign_29 (by decide) (fun c5 => ?_) (fun c5 => ?_)
      · have hf := bs_f hf c5
        refine lv_aload_n hx hb dX5_takeSign_45 rfl (lv_at hl 0 rfl) ?_
        refine lv_iconst (v := 1) hx hb dX5_takeSign_46 (by decide) ?_
        obtain ⟨z6, hz6, hf⟩ := bs_b hf
        refine bs_cVv (ws1 := [(oh, .inr (5, [.ref oq_letters, .int o_bytes, .int o_at, .int z6])), (oq_letters, .inl (cI, 120, .inl o_letters))]) ⟨hx, hb, hml, hown, hts⟩ (k_X5_meet l dC dI cI cZ cS cG oh oq_letters o_letters o_bytes o_at o_faultMet (1 : Int32) z6 hz6) (cwV 1 hts gX5_takeSign_X5_meet rfl rfl rfl (by decide +kernel) ⟨Nat.le_of_ble_eq_true rfl, Nat.le_of_ble_eq_true rfl⟩) hE hP hD hA hS [0, 1] rfl rfl 5 0 rfl rfl rfl rfl rfl rfl rfl hl.1 (Nat.le_of_ble_eq_true rfl) dX5_takeSign_47 (fun H locs hP hD hS => ?_)
        obtain rfl := Option.some.inj hf
        exact hret H locs _ _ hP hS dX5_takeSign_50
      · have hf := bs_t hf c5
        refine lv_aload_n hx hb dX5_takeSign_32 rfl (lv_at hl 0 rfl) ?_
        refine lv_dup hx hb dX5_takeSign_33 rfl ?_
        refine va_get (D := (dC, dI)) (ci := 5) (v := .int o_at) (C := RX5) (T := TX5) (N := 4) hx hb hts hin5 hown hK hP 0 rfl rfl 2 (by decide) k23 (fun _ h9 => h9) rfl dX5_takeSign_34 ?_
        refine lv_iconst (v := 1) hx hb dX5_takeSign_37 (by decide) ?_
        refine lv_iadd hx hb dX5_takeSign_38 ?_
        refine va_put (D := (dC, dI)) (ci := 5) (v := .int (o_at + 1)) (ty := .int) (C := RX5) (T := TX5) (N := 4) hx hb hts hin5 tyX5 tyX5_ok nmX5 hown hK hP hD hS 0 rfl rfl 2 (by decide) k23 (fun _ h9 => h9) rfl (by decide +kernel) rfl rfl (Nat.le_of_ble_eq_true rfl) dX5_takeSign_39 (fun H locs hP hD hS => ?_)
        have hP : va_P (dC, dI) vwCl ([(oh, .inr (5, [.ref oq_letters, .int o_bytes, .int (o_at + 1), .int o_faultMet])), (oq_letters, .inl (cI, 120, .inl o_letters))]) H := hP
        have hD : va_D A ([(oh, .inr (5, [.ref oq_letters, .int o_bytes, .int (o_at + 1), .int o_faultMet])), (oq_letters, .inl (cI, 120, .inl o_letters))]) := hD
        refine lv_goto (tgt := 50) hx hb dX5_takeSign_42 (by decide) ?_
        obtain rfl := Option.some.inj hf
        exact hret H locs _ _ hP hS dX5_takeSign_50
  · have hf := bs_f hf c1
    obtain rfl := Option.some.inj hf
    exact hret H locs _ _ hP hS dX5_takeSign_7
set_option maxHeartbeats 4000000 in
set_option maxRecDepth 100000 in
theorem k_X5_figuresFrom (l : Launch) (dC : Nat → ClassId) (dI : Nat → Nat → Nat) (cI cZ cS cG : ClassId) (oh : Nat) (oq_letters : Nat) (o_letters : Nat → Int32) (o_bytes : Int32) (o_at : Int32) (o_faultMet : Int32) (p1 : Int32) (out : Int32) (hf : f_X5_figuresFrom o_letters o_bytes p1 = some out) : bs_C l dC dI cI cZ cS cG yX5_figuresFrom wsX5_figuresFrom ({ frames := 0, cells := 0, slots := 0, locals := 0 } : Room) [.ref oh, .int p1] ([(oh, .inr (5, [.ref oq_letters, .int o_bytes, .int o_at, .int o_faultMet])), (oq_letters, .inl (cI, 120, .inl o_letters))]) out ([(oh, .inr (5, [.ref oq_letters, .int o_bytes, .int o_at, .int o_faultMet])), (oq_letters, .inl (cI, 120, .inl o_letters))]) := by
  refine bs_ofI (cc := cX5_figuresFrom) (maxL := 3) (by decide) rfl (Nat.le_of_ble_eq_true rfl) ?_
  intro p e s m below meth c A Q hx hb hown hml hts hE H locs hP hD hA hS ls hl hret
  have hK := hE.1
  have hl : lv_has ls 3 [(0, .ref oh), (1, .int p1)] := hl
  have hin5 : ∀ w ∈ u_ws RX5 TX5 4, w ∈ wsX5_figuresFrom := by decide +kernel
  have k11 := hts (.fieldLink RX5 11 "PromiseScales$Tape" "letters" "[I") (by decide +kernel)
  have k15 := hts (.fieldLink RX5 15 "PromiseScales$Tape" "bytes" "I") (by decide +kernel)
  unfold f_X5_figuresFrom at hf
  refine lv_iload_n hx hb dX5_figuresFrom_0 rfl (lv_at hl 1 rfl) ?_
  refine lv_istore_n (lv' := [(2, .int p1), (0, .ref oh), (1, .int p1)]) hx hb dX5_figuresFrom_1 rfl hl (by decide) rfl (fun ls hl => ?_)
  have L_2 : ∀ (fuel : Nat) (x2_2 : Int32) (H : Heap) (locs : List Loc) (ls : Array Slot), va_P (dC, dI) vwCl ([(oh, .inr (5, [.ref oq_letters, .int o_bytes, .int o_at, .int o_faultMet])), (oq_letters, .inl (cI, 120, .inl o_letters))]) H → va_D A ([(oh, .inr (5, [.ref oq_letters, .int o_bytes, .int o_at, .int o_faultMet])), (oq_letters, .inl (cI, 120, .inl o_letters))]) → va_S A s.heap H locs → lv_has ls 3 [(0, .ref oh), (1, .int p1), (2, .int x2_2)] → f_X5_figuresFrom_L2 o_letters o_bytes p1 fuel x2_2 = some out → W p l e ({ frames := 0, cells := 0, slots := 0, locals := 0 } : Room) s m ([.ref oh, .int p1] : List Value).toArray below meth c H locs 0 0 Q (F0 m 2 ls []) := by
    intro fuel
    induction fuel with
    | zero =>
      intro x2_2 H locs ls hP hD hS hl hf
      cases (show (none : Option (Int32)) = some out from hf)
    | succ n_2 ih_2 =>
      intro x2_2 H locs ls hP hD hS hl hf
      have hf := (f_X5_figuresFrom_L2_s o_letters o_bytes p1 n_2 x2_2).symm.trans hf
      refine lv_iload_n hx hb dX5_figuresFrom_2 rfl (lv_at hl 2 rfl) ?_
      refine lv_aload_n hx hb dX5_figuresFrom_3 rfl (lv_at hl 0 rfl) ?_
      refine va_get (D := (dC, dI)) (ci := 5) (v := .int o_bytes) (C := RX5) (T := TX5) (N := 4) hx hb hts hin5 hown hK hP 0 rfl rfl 1 (by decide) k15 (fun _ h9 => h9) rfl dX5_figuresFrom_4 ?_
      refine lv_icmp_ge (tgt := 38) hx hb dX5_figuresFrom_7 (by decide) (fun c1 => ?_) (fun c1 => ?_)
      · have hf := bs_t hf c1
        refine lv_iload_n hx hb dX5_figuresFrom_38 rfl (lv_at hl 2 rfl) ?_
        refine lv_iload_n hx hb dX5_figuresFrom_39 rfl (lv_at hl 1 rfl) ?_
        refine lv_isub hx hb dX5_figuresFrom_40 ?_
        obtain rfl := Option.some.inj hf
        exact hret H locs _ _ hP hS rfl dX5_figuresFrom_41
      · have hf := bs_f hf c1
        refine lv_aload_n hx hb dX5_figuresFrom_10 rfl (lv_at hl 0 rfl) ?_
        refine va_get (D := (dC, dI)) (ci := 5) (v := .ref oq_letters) (C := RX5) (T := TX5) (N := 4) hx hb hts hin5 hown hK hP 0 rfl rfl 0 (by decide) k11 (fun _ h9 => h9) rfl dX5_figuresFrom_11 ?_
        refine lv_iload_n hx hb dX5_figuresFrom_14 rfl (lv_at hl 2 rfl) ?_
        obtain ⟨g2, hf⟩ := bs_g hf
        refine va_iald hx hb hK hP 1 0 rfl rfl (bs_inV g2) dX5_figuresFrom_15 ?_
        refine lv_bipush (v := 48) hx hb dX5_figuresFrom_16 (by decide) ?_
        refine lv_icmp_lt (tgt := 38) hx hb dX5_figuresFrom_18 (by decide) (fun c3 => ?_) (fun c3 => ?_)
        · have hf := bs_t hf c3
          refine lv_iload_n hx hb dX5_figuresFrom_38 rfl (lv_at hl 2 rfl) ?_
          refine lv_iload_n hx hb dX5_figuresFrom_39 rfl (lv_at hl 1 rfl) ?_
          refine lv_isub hx hb dX5_figuresFrom_40 ?_
          obtain rfl := Option.some.inj hf
          exact hret H locs _ _ hP hS rfl dX5_figuresFrom_41
        · have hf := bs_f hf c3
          refine lv_aload_n hx hb dX5_figuresFrom_21 rfl (lv_at hl 0 rfl) ?_
          refine va_get (D := (dC, dI)) (ci := 5) (v := .ref oq_letters) (C := RX5) (T := TX5) (N := 4) hx hb hts hin5 hown hK hP 0 rfl rfl 0 (by decide) k11 (fun _ h9 => h9) rfl dX5_figuresFrom_22 ?_
          refine lv_iload_n hx hb dX5_figuresFrom_25 rfl (lv_at hl 2 rfl) ?_
          obtain ⟨g4, hf⟩ := bs_g hf
          refine va_iald hx hb hK hP 1 0 rfl rfl (bs_inV g4) dX5_figuresFrom_26 ?_
          refine lv_bipush (v := 57) hx hb dX5_figuresFrom_27 (by decide) ?_
          refine lv_icmp_gt (tgt := 38) hx hb dX5_figuresFrom_29 (by decide) (fun c5 => ?_) (fun c5 => ?_)
          · have hf := bs_t hf c5
            refine lv_iload_n hx hb dX5_figuresFrom_38 rfl (lv_at hl 2 rfl) ?_
            refine lv_iload_n hx hb dX5_figuresFrom_39 rfl (lv_at hl 1 rfl) ?_
            refine lv_isub hx hb dX5_figuresFrom_40 ?_
            obtain rfl := Option.some.inj hf
            exact hret H locs _ _ hP hS rfl dX5_figuresFrom_41
          · have hf := bs_f hf c5
            refine lv_iinc (v := x2_2 + 1) (lv' := [(2, .int (x2_2 + 1)), (0, .ref oh), (1, .int p1)]) hx hb dX5_figuresFrom_32 hl (k := 2) rfl rfl (by decide) rfl (fun ls hl => ?_)
            refine lv_goto (tgt := 2) hx hb dX5_figuresFrom_35 (by decide) ?_
            exact ih_2 (x2_2 + 1) H locs ls hP hD hS (lv_sub hl [1, 2, 0] rfl) hf
  exact L_2 bs_F p1 H locs ls hP hD hS (lv_sub hl [1, 2, 0] rfl) hf
set_option maxHeartbeats 4000000 in
set_option maxRecDepth 100000 in
theorem k_X5_takeNumber (l : Launch) (dC : Nat → ClassId) (dI : Nat → Nat → Nat) (cI cZ cS cG : ClassId) (oh : Nat) (oq_letters : Nat) (o_letters : Nat → Int32) (o_bytes : Int32) (o_at : Int32) (o_faultMet : Int32) (p1 : Int32) (p2 : Int32) (out : Int32 × Int32 × Int32) (hf : f_X5_takeNumber o_letters o_bytes o_at o_faultMet p1 p2 = some out) : bs_C l dC dI cI cZ cS cG yX5_takeNumber wsX5_takeNumber ({ frames := 1, cells := 0, slots := 0, locals := 22 } : Room) [.ref oh, .int p1, .int p2] ([(oh, .inr (5, [.ref oq_letters, .int o_bytes, .int o_at, .int o_faultMet])), (oq_letters, .inl (cI, 120, .inl o_letters))]) out.1 ([(oh, .inr (5, [.ref oq_letters, .int o_bytes, .int out.2.1, .int out.2.2])), (oq_letters, .inl (cI, 120, .inl o_letters))]) := by
  refine bs_ofI (cc := cX5_takeNumber) (maxL := 6) (by decide) rfl (Nat.le_of_ble_eq_true rfl) ?_
  intro p e s m below meth c A Q hx hb hown hml hts hE H locs hP hD hA hS ls hl hret
  have hK := hE.1
  have hl : lv_has ls 6 [(0, .ref oh), (1, .int p1), (2, .int p2)] := hl
  have hin5 : ∀ w ∈ u_ws RX5 TX5 4, w ∈ wsX5_takeNumber := by decide +kernel
  have k11 := hts (.fieldLink RX5 11 "PromiseScales$Tape" "letters" "[I") (by decide +kernel)
  have k23 := hts (.fieldLink RX5 23 "PromiseScales$Tape" "at" "I") (by decide +kernel)
  have k26 := hts (.fieldLink RX5 26 "PromiseScales$Tape" "faultMet" "I") (by decide +kernel)
  unfold f_X5_takeNumber at hf
  refine lv_aload_n hx hb dX5_takeNumber_0 rfl (lv_at hl 0 rfl) ?_
  refine va_get (D := (dC, dI)) (ci := 5) (v := .int o_faultMet) (C := RX5) (T := TX5) (N := 4) hx hb hts hin5 hown hK hP 0 rfl rfl 3 (by decide) k26 (fun _ h9 => h9) rfl dX5_takeNumber_1 ?_
  refine lv_if_eq (tgt := 9) hx hb dX5_takeNumber_4 (by decide) (fun c1 => ?_) (fun c1 => ?_)
  · have hf := bs_t hf c1
    refine lv_aload_n hx hb dX5_takeNumber_9 rfl (lv_at hl 0 rfl) ?_
    refine lv_aload_n hx hb dX5_takeNumber_10 rfl (lv_at hl 0 rfl) ?_
    refine va_get (D := (dC, dI)) (ci := 5) (v := .int o_at) (C := RX5) (T := TX5) (N := 4) hx hb hts hin5 hown hK hP 0 rfl rfl 2 (by decide) k23 (fun _ h9 => h9) rfl dX5_takeNumber_11 ?_
    obtain ⟨z2, hz2, hf⟩ := bs_b hf
    refine bs_cViR ⟨hx, hb, hml, hown, hts⟩ (k_X5_figuresFrom l dC dI cI cZ cS cG oh oq_letters o_letters o_bytes o_at o_faultMet o_at z2 hz2) (cwV 1 hts gX5_takeNumber_X5_figuresFrom rfl rfl rfl (by decide +kernel) ⟨Nat.le_of_ble_eq_true rfl, Nat.le_of_ble_eq_true rfl⟩) hE hP hD hA hS [0, 1] rfl rfl 5 0 rfl rfl rfl rfl hl.1 (Nat.le_of_ble_eq_true rfl) dX5_takeNumber_14 (fun H locs hP hS => ?_)
    refine lv_istore_n (lv' := [(3, .int z2), (0, .ref oh), (1, .int p1), (2, .int p2)]) hx hb dX5_takeNumber_17 rfl hl (by decide) rfl (fun ls hl => ?_)
    refine lv_iload_n hx hb dX5_takeNumber_18 rfl (lv_at hl 0 rfl) ?_
    refine lv_iconst (v := 1) hx hb dX5_takeNumber_19 (by decide) ?_
    refine lv_icmp_lt (tgt := 28) hx hb dX5_takeNumber_20 (by decide) (fun c3 => ?_) (fun c3 => ?_)
    · have hf := bs_t hf c3
      refine lv_aload_n hx hb dX5_takeNumber_28 rfl (lv_at hl 1 rfl) ?_
      refine lv_iconst (v := 1) hx hb dX5_takeNumber_29 (by decide) ?_
      obtain ⟨z4, hz4, hf⟩ := bs_b hf
      refine bs_cVv (ws1 := [(oh, .inr (5, [.ref oq_letters, .int o_bytes, .int o_at, .int z4])), (oq_letters, .inl (cI, 120, .inl o_letters))]) ⟨hx, hb, hml, hown, hts⟩ (k_X5_meet l dC dI cI cZ cS cG oh oq_letters o_letters o_bytes o_at o_faultMet (1 : Int32) z4 hz4) (cwV 1 hts gX5_takeNumber_X5_meet rfl rfl rfl (by decide +kernel) ⟨Nat.le_of_ble_eq_true rfl, Nat.le_of_ble_eq_true rfl⟩) hE hP hD hA hS [0, 1] rfl rfl 5 0 rfl rfl rfl rfl rfl rfl rfl hl.1 (Nat.le_of_ble_eq_true rfl) dX5_takeNumber_30 (fun H locs hP hD hS => ?_)
      refine lv_iconst (v := 0) hx hb dX5_takeNumber_33 (by decide) ?_
      obtain rfl := Option.some.inj hf
      exact hret H locs _ _ hP hS rfl dX5_takeNumber_34
    · have hf := bs_f hf c3
      refine lv_iload_n hx hb dX5_takeNumber_23 rfl (lv_at hl 0 rfl) ?_
      refine lv_iconst (v := 2) hx hb dX5_takeNumber_24 (by decide) ?_
      refine lv_icmp_le (tgt := 35) hx hb dX5_takeNumber_25 (by decide) (fun c5 => ?_) (fun c5 => ?_)
      · have hf := bs_t hf c5
        refine lv_iconst (v := 0) hx hb dX5_takeNumber_35 (by decide) ?_
        refine lv_istore (lv' := [(4, .int 0), (3, .int z2), (0, .ref oh), (1, .int p1), (2, .int p2)]) hx hb dX5_takeNumber_36 hl (by decide) rfl (fun ls hl => ?_)
        refine lv_aload_n hx hb dX5_takeNumber_38 rfl (lv_at hl 2 rfl) ?_
        refine va_get (D := (dC, dI)) (ci := 5) (v := .int o_at) (C := RX5) (T := TX5) (N := 4) hx hb hts hin5 hown hK hP 0 rfl rfl 2 (by decide) k23 (fun _ h9 => h9) rfl dX5_takeNumber_39 ?_
        refine lv_istore (lv' := [(5, .int o_at), (4, .int 0), (3, .int z2), (0, .ref oh), (1, .int p1), (2, .int p2)]) hx hb dX5_takeNumber_42 hl (by decide) rfl (fun ls hl => ?_)
        have L_44 : ∀ (fuel : Nat) (x4_44 : Int32) (x5_44 : Int32) (H : Heap) (locs : List Loc) (ls : Array Slot), va_P (dC, dI) vwCl ([(oh, .inr (5, [.ref oq_letters, .int o_bytes, .int o_at, .int o_faultMet])), (oq_letters, .inl (cI, 120, .inl o_letters))]) H → va_D A ([(oh, .inr (5, [.ref oq_letters, .int o_bytes, .int o_at, .int o_faultMet])), (oq_letters, .inl (cI, 120, .inl o_letters))]) → va_S A s.heap H locs → lv_has ls 6 [(0, .ref oh), (1, .int p1), (2, .int p2), (3, .int z2), (4, .int x4_44), (5, .int x5_44)] → f_X5_takeNumber_L44 o_letters o_bytes o_at o_faultMet p1 p2 z2 fuel x4_44 x5_44 = some out → W p l e ({ frames := 1, cells := 0, slots := 0, locals := 22 } : Room) s m ([.ref oh, .int p1, .int p2] : List Value).toArray below meth c H locs 0 0 Q (F0 m 44 ls []) := by
          intro fuel
          induction fuel with
          | zero =>
            intro x4_44 x5_44 H locs ls hP hD hS hl hf
            cases (show (none : Option (Int32 × Int32 × Int32)) = some out from hf)
          | succ n_44 ih_44 =>
            intro x4_44 x5_44 H locs ls hP hD hS hl hf
            have hf := (f_X5_takeNumber_L44_s o_letters o_bytes o_at o_faultMet p1 p2 z2 n_44 x4_44 x5_44).symm.trans hf
            refine lv_iload hx hb dX5_takeNumber_44 (lv_at hl 5 rfl) ?_
            refine lv_aload_n hx hb dX5_takeNumber_46 rfl (lv_at hl 0 rfl) ?_
            refine va_get (D := (dC, dI)) (ci := 5) (v := .int o_at) (C := RX5) (T := TX5) (N := 4) hx hb hts hin5 hown hK hP 0 rfl rfl 2 (by decide) k23 (fun _ h9 => h9) rfl dX5_takeNumber_47 ?_
            refine lv_iload_n hx hb dX5_takeNumber_50 rfl (lv_at hl 3 rfl) ?_
            refine lv_iadd hx hb dX5_takeNumber_51 ?_
            refine lv_icmp_ge (tgt := 79) hx hb dX5_takeNumber_52 (by decide) (fun c6 => ?_) (fun c6 => ?_)
            · have hf := bs_t hf c6
              refine lv_iload hx hb dX5_takeNumber_79 (lv_at hl 4 rfl) ?_
              refine lv_iload_n hx hb dX5_takeNumber_81 rfl (lv_at hl 1 rfl) ?_
              refine lv_icmp_lt (tgt := 91) hx hb dX5_takeNumber_82 (by decide) (fun c7 => ?_) (fun c7 => ?_)
              · have hf := bs_t hf c7
                refine lv_aload_n hx hb dX5_takeNumber_91 rfl (lv_at hl 0 rfl) ?_
                refine lv_iconst (v := 2) hx hb dX5_takeNumber_92 (by decide) ?_
                obtain ⟨z8, hz8, hf⟩ := bs_b hf
                refine bs_cVv (ws1 := [(oh, .inr (5, [.ref oq_letters, .int o_bytes, .int o_at, .int z8])), (oq_letters, .inl (cI, 120, .inl o_letters))]) ⟨hx, hb, hml, hown, hts⟩ (k_X5_meet l dC dI cI cZ cS cG oh oq_letters o_letters o_bytes o_at o_faultMet (2 : Int32) z8 hz8) (cwV 1 hts gX5_takeNumber_X5_meet rfl rfl rfl (by decide +kernel) ⟨Nat.le_of_ble_eq_true rfl, Nat.le_of_ble_eq_true rfl⟩) hE hP hD hA hS [0, 1] rfl rfl 5 0 rfl rfl rfl rfl rfl rfl rfl hl.1 (Nat.le_of_ble_eq_true rfl) dX5_takeNumber_93 (fun H locs hP hD hS => ?_)
                refine lv_iconst (v := 0) hx hb dX5_takeNumber_96 (by decide) ?_
                obtain rfl := Option.some.inj hf
                exact hret H locs _ _ hP hS rfl dX5_takeNumber_97
              · have hf := bs_f hf c7
                refine lv_iload hx hb dX5_takeNumber_85 (lv_at hl 4 rfl) ?_
                refine lv_iload_n hx hb dX5_takeNumber_87 rfl (lv_at hl 2 rfl) ?_
                refine lv_icmp_le (tgt := 98) hx hb dX5_takeNumber_88 (by decide) (fun c9 => ?_) (fun c9 => ?_)
                · have hf := bs_t hf c9
                  refine lv_aload_n hx hb dX5_takeNumber_98 rfl (lv_at hl 0 rfl) ?_
                  refine lv_dup hx hb dX5_takeNumber_99 rfl ?_
                  refine va_get (D := (dC, dI)) (ci := 5) (v := .int o_at) (C := RX5) (T := TX5) (N := 4) hx hb hts hin5 hown hK hP 0 rfl rfl 2 (by decide) k23 (fun _ h9 => h9) rfl dX5_takeNumber_100 ?_
                  refine lv_iload_n hx hb dX5_takeNumber_103 rfl (lv_at hl 3 rfl) ?_
                  refine lv_iadd hx hb dX5_takeNumber_104 ?_
                  refine va_put (D := (dC, dI)) (ci := 5) (v := .int (o_at + z2)) (ty := .int) (C := RX5) (T := TX5) (N := 4) hx hb hts hin5 tyX5 tyX5_ok nmX5 hown hK hP hD hS 0 rfl rfl 2 (by decide) k23 (fun _ h9 => h9) rfl (by decide +kernel) rfl rfl (Nat.le_of_ble_eq_true rfl) dX5_takeNumber_105 (fun H locs hP hD hS => ?_)
                  have hP : va_P (dC, dI) vwCl ([(oh, .inr (5, [.ref oq_letters, .int o_bytes, .int (o_at + z2), .int o_faultMet])), (oq_letters, .inl (cI, 120, .inl o_letters))]) H := hP
                  have hD : va_D A ([(oh, .inr (5, [.ref oq_letters, .int o_bytes, .int (o_at + z2), .int o_faultMet])), (oq_letters, .inl (cI, 120, .inl o_letters))]) := hD
                  refine lv_iload hx hb dX5_takeNumber_108 (lv_at hl 4 rfl) ?_
                  obtain rfl := Option.some.inj hf
                  exact hret H locs _ _ hP hS rfl dX5_takeNumber_110
                · have hf := bs_f hf c9
                  refine lv_aload_n hx hb dX5_takeNumber_91 rfl (lv_at hl 0 rfl) ?_
                  refine lv_iconst (v := 2) hx hb dX5_takeNumber_92 (by decide) ?_
                  obtain ⟨z10, hz10, hf⟩ := bs_b hf
                  refine bs_cVv (ws1 := [(oh, .inr (5, [.ref oq_letters, .int o_bytes, .int o_at, .int z10])), (oq_letters, .inl (cI, 120, .inl o_letters))]) ⟨hx, hb, hml, hown, hts⟩ (k_X5_meet l dC dI cI cZ cS cG oh oq_letters o_letters o_bytes o_at o_faultMet (2 : Int32) z10 hz10) (cwV 1 hts gX5_takeNumber_X5_meet rfl rfl rfl (by decide +kernel) ⟨Nat.le_of_ble_eq_true rfl, Nat.le_of_ble_eq_true rfl⟩) hE hP hD hA hS [0, 1] rfl rfl 5 0 rfl rfl rfl rfl rfl rfl rfl hl.1 (Nat.le_of_ble_eq_true rfl) dX5_takeNumber_93 (fun H locs hP hD hS => ?_)
                  refine lv_iconst (v := 0) hx hb dX5_takeNumber_96 (by decide) ?_
                  obtain rfl := Option.some.inj hf
                  exact hret H locs _ _ hP hS rfl dX5_takeNumber_97
            · have hf := bs_f hf c6
              refine lv_bipush (v := 10) hx hb dX5_takeNumber_55 (by decide) ?_
              refine lv_iload hx hb dX5_takeNumber_57 (lv_at hl 4 rfl) ?_
              refine lv_imul hx hb dX5_takeNumber_59 ?_
              refine lv_aload_n hx hb dX5_takeNumber_60 rfl (lv_at hl 0 rfl) ?_
              refine va_get (D := (dC, dI)) (ci := 5) (v := .ref oq_letters) (C := RX5) (T := TX5) (N := 4) hx hb hts hin5 hown hK hP 0 rfl rfl 0 (by decide) k11 (fun _ h9 => h9) rfl dX5_takeNumber_61 ?_
              refine lv_iload hx hb dX5_takeNumber_64 (lv_at hl 5 rfl) ?_
              obtain ⟨g11, hf⟩ := bs_g hf
              refine va_iald hx hb hK hP 1 0 rfl rfl (bs_inV g11) dX5_takeNumber_66 ?_
              refine lv_iadd hx hb dX5_takeNumber_67 ?_
              refine lv_bipush (v := 48) hx hb dX5_takeNumber_68 (by decide) ?_
              refine lv_isub hx hb dX5_takeNumber_70 ?_
              refine lv_istore (lv' := [(4, .int (((10 * x4_44) + (o_letters x5_44.toNatClampNeg)) - 48)), (0, .ref oh), (1, .int p1), (2, .int p2), (3, .int z2), (5, .int x5_44)]) hx hb dX5_takeNumber_71 hl (by decide) rfl (fun ls hl => ?_)
              refine lv_iinc (v := x5_44 + 1) (lv' := [(5, .int (x5_44 + 1)), (4, .int (((10 * x4_44) + (o_letters x5_44.toNatClampNeg)) - 48)), (0, .ref oh), (1, .int p1), (2, .int p2), (3, .int z2)]) hx hb dX5_takeNumber_73 hl (k := 5) rfl rfl (by decide) rfl (fun ls hl => ?_)
              refine lv_goto (tgt := 44) hx hb dX5_takeNumber_76 (by decide) ?_
              exact ih_44 (((10 * x4_44) + (o_letters x5_44.toNatClampNeg)) - 48) (x5_44 + 1) H locs ls hP hD hS (lv_sub hl [2, 3, 4, 5, 1, 0] rfl) hf
        exact L_44 bs_F (0 : Int32) o_at H locs ls hP hD hS (lv_sub hl [3, 4, 5, 2, 1, 0] rfl) hf
      · have hf := bs_f hf c5
        refine lv_aload_n hx hb dX5_takeNumber_28 rfl (lv_at hl 1 rfl) ?_
        refine lv_iconst (v := 1) hx hb dX5_takeNumber_29 (by decide) ?_
        obtain ⟨z12, hz12, hf⟩ := bs_b hf
        refine bs_cVv (ws1 := [(oh, .inr (5, [.ref oq_letters, .int o_bytes, .int o_at, .int z12])), (oq_letters, .inl (cI, 120, .inl o_letters))]) ⟨hx, hb, hml, hown, hts⟩ (k_X5_meet l dC dI cI cZ cS cG oh oq_letters o_letters o_bytes o_at o_faultMet (1 : Int32) z12 hz12) (cwV 1 hts gX5_takeNumber_X5_meet rfl rfl rfl (by decide +kernel) ⟨Nat.le_of_ble_eq_true rfl, Nat.le_of_ble_eq_true rfl⟩) hE hP hD hA hS [0, 1] rfl rfl 5 0 rfl rfl rfl rfl rfl rfl rfl hl.1 (Nat.le_of_ble_eq_true rfl) dX5_takeNumber_30 (fun H locs hP hD hS => ?_)
        refine lv_iconst (v := 0) hx hb dX5_takeNumber_33 (by decide) ?_
        obtain rfl := Option.some.inj hf
        exact hret H locs _ _ hP hS rfl dX5_takeNumber_34
  · have hf := bs_f hf c1
    refine lv_iconst (v := 0) hx hb dX5_takeNumber_7 (by decide) ?_
    obtain rfl := Option.some.inj hf
    exact hret H locs _ _ hP hS rfl dX5_takeNumber_8
set_option maxHeartbeats 4000000 in
set_option maxRecDepth 100000 in
theorem k_X5_readLaw (l : Launch) (dC : Nat → ClassId) (dI : Nat → Nat → Nat) (cI cZ cS cG : ClassId) (oh : Nat) (oq_letters : Nat) (bh : Nat) (bq_keeping : Nat) (bq_giverOf : Nat) (bq_deedOf : Nat) (bq_dayOf : Nat) (bq_likelyOf : Nat) (bq_kindOf : Nat) (bq_settledOf : Nat) (o_letters : Nat → Int32) (o_bytes : Int32) (o_at : Int32) (o_faultMet : Int32) (b_told : Int32) (b_wax : Int32) (b_stick : Int32) (b_givers : Int32) (b_promises : Int32) (b_pan : Int32) (b_keeping : Nat → Int32) (b_giverOf : Nat → Int32) (b_deedOf : Nat → Int32) (b_dayOf : Nat → Int32) (b_likelyOf : Nat → Int32) (b_kindOf : Nat → Int32) (b_settledOf : Nat → Int32) (out : Int32 × Int32 × Int32 × Int32) (hf : f_X5_readLaw o_letters o_bytes o_at o_faultMet b_wax b_stick = some out) : bs_CV l dC dI cI cZ cS cG yX5_readLaw wsX5_readLaw ({ frames := 2, cells := 0, slots := 0, locals := 47 } : Room) [.ref oh, .ref bh] ([(oh, .inr (5, [.ref oq_letters, .int o_bytes, .int o_at, .int o_faultMet])), (oq_letters, .inl (cI, 120, .inl o_letters)), (bh, .inr (4, [.int b_told, .int b_wax, .int b_stick, .int b_givers, .int b_promises, .int b_pan, .ref bq_keeping, .ref bq_giverOf, .ref bq_deedOf, .ref bq_dayOf, .ref bq_likelyOf, .ref bq_kindOf, .ref bq_settledOf])), (bq_keeping, .inl (cI, 4, .inl b_keeping)), (bq_giverOf, .inl (cI, 8, .inl b_giverOf)), (bq_deedOf, .inl (cI, 8, .inl b_deedOf)), (bq_dayOf, .inl (cI, 8, .inl b_dayOf)), (bq_likelyOf, .inl (cI, 8, .inl b_likelyOf)), (bq_kindOf, .inl (cI, 8, .inl b_kindOf)), (bq_settledOf, .inl (cI, 8, .inl b_settledOf))]) ([(oh, .inr (5, [.ref oq_letters, .int o_bytes, .int out.1, .int out.2.1])), (oq_letters, .inl (cI, 120, .inl o_letters)), (bh, .inr (4, [.int b_told, .int out.2.2.1, .int out.2.2.2, .int b_givers, .int b_promises, .int b_pan, .ref bq_keeping, .ref bq_giverOf, .ref bq_deedOf, .ref bq_dayOf, .ref bq_likelyOf, .ref bq_kindOf, .ref bq_settledOf])), (bq_keeping, .inl (cI, 4, .inl b_keeping)), (bq_giverOf, .inl (cI, 8, .inl b_giverOf)), (bq_deedOf, .inl (cI, 8, .inl b_deedOf)), (bq_dayOf, .inl (cI, 8, .inl b_dayOf)), (bq_likelyOf, .inl (cI, 8, .inl b_likelyOf)), (bq_kindOf, .inl (cI, 8, .inl b_kindOf)), (bq_settledOf, .inl (cI, 8, .inl b_settledOf))]) := by
  refine bs_ofV (cc := cX5_readLaw) (maxL := 2) (by decide) rfl (Nat.le_of_ble_eq_true rfl) ?_
  intro p e s m below meth c A Q hx hb hown hml hts hE H locs hP hD hA hS ls hl hret
  have hK := hE.1
  have hl : lv_has ls 2 [(0, .ref oh), (1, .ref bh)] := hl
  have hin4 : ∀ w ∈ u_ws RX4 TX4 13, w ∈ wsX5_readLaw := by decide +kernel
  have k50 := hts (.fieldLink RX5 50 "PromiseScales$Scales" "wax" "I") (by decide +kernel)
  have k53 := hts (.fieldLink RX5 53 "PromiseScales$Scales" "stick" "I") (by decide +kernel)
  unfold f_X5_readLaw at hf
  refine lv_aload_n hx hb dX5_readLaw_0 rfl (lv_at hl 0 rfl) ?_
  refine lv_bipush (v := 115) hx hb dX5_readLaw_1 (by decide) ?_
  obtain ⟨z1, hz1, hf⟩ := bs_b hf
  refine bs_cVv (ws1 := [(oh, .inr (5, [.ref oq_letters, .int o_bytes, .int z1.1, .int z1.2])), (oq_letters, .inl (cI, 120, .inl o_letters)), (bh, .inr (4, [.int b_told, .int b_wax, .int b_stick, .int b_givers, .int b_promises, .int b_pan, .ref bq_keeping, .ref bq_giverOf, .ref bq_deedOf, .ref bq_dayOf, .ref bq_likelyOf, .ref bq_kindOf, .ref bq_settledOf])), (bq_keeping, .inl (cI, 4, .inl b_keeping)), (bq_giverOf, .inl (cI, 8, .inl b_giverOf)), (bq_deedOf, .inl (cI, 8, .inl b_deedOf)), (bq_dayOf, .inl (cI, 8, .inl b_dayOf)), (bq_likelyOf, .inl (cI, 8, .inl b_likelyOf)), (bq_kindOf, .inl (cI, 8, .inl b_kindOf)), (bq_settledOf, .inl (cI, 8, .inl b_settledOf))]) ⟨hx, hb, hml, hown, hts⟩ (k_X5_takeSign l dC dI cI cZ cS cG oh oq_letters o_letters o_bytes o_at o_faultMet (115 : Int32) z1 hz1) (cwV 1 hts gX5_readLaw_X5_takeSign rfl rfl rfl (by decide +kernel) ⟨Nat.le_of_ble_eq_true rfl, Nat.le_of_ble_eq_true rfl⟩) hE hP hD hA hS [0, 1] rfl rfl 5 0 rfl rfl rfl rfl rfl rfl rfl hl.1 (Nat.le_of_ble_eq_true rfl) dX5_readLaw_3 (fun H locs hP hD hS => ?_)
  refine lv_aload_n hx hb dX5_readLaw_6 rfl (lv_at hl 1 rfl) ?_
  refine lv_aload_n hx hb dX5_readLaw_7 rfl (lv_at hl 0 rfl) ?_
  refine lv_iconst (v := 0) hx hb dX5_readLaw_8 (by decide) ?_
  refine lv_bipush (v := 9) hx hb dX5_readLaw_9 (by decide) ?_
  obtain ⟨z2, hz2, hf⟩ := bs_b hf
  refine bs_cVi (ws1 := [(oh, .inr (5, [.ref oq_letters, .int o_bytes, .int z2.2.1, .int z2.2.2])), (oq_letters, .inl (cI, 120, .inl o_letters)), (bh, .inr (4, [.int b_told, .int b_wax, .int b_stick, .int b_givers, .int b_promises, .int b_pan, .ref bq_keeping, .ref bq_giverOf, .ref bq_deedOf, .ref bq_dayOf, .ref bq_likelyOf, .ref bq_kindOf, .ref bq_settledOf])), (bq_keeping, .inl (cI, 4, .inl b_keeping)), (bq_giverOf, .inl (cI, 8, .inl b_giverOf)), (bq_deedOf, .inl (cI, 8, .inl b_deedOf)), (bq_dayOf, .inl (cI, 8, .inl b_dayOf)), (bq_likelyOf, .inl (cI, 8, .inl b_likelyOf)), (bq_kindOf, .inl (cI, 8, .inl b_kindOf)), (bq_settledOf, .inl (cI, 8, .inl b_settledOf))]) ⟨hx, hb, hml, hown, hts⟩ (k_X5_takeNumber l dC dI cI cZ cS cG oh oq_letters o_letters o_bytes z1.1 z1.2 (0 : Int32) (9 : Int32) z2 hz2) (cwV 2 hts gX5_readLaw_X5_takeNumber rfl rfl rfl (by decide +kernel) ⟨Nat.le_of_ble_eq_true rfl, Nat.le_of_ble_eq_true rfl⟩) hE hP hD hA hS [0, 1] rfl rfl 5 0 rfl rfl rfl rfl rfl rfl rfl hl.1 (Nat.le_of_ble_eq_true rfl) dX5_readLaw_11 (fun H locs hP hD hS => ?_)
  refine va_put (D := (dC, dI)) (ci := 4) (v := .int z2.1) (ty := .int) (C := RX4) (T := TX4) (N := 13) hx hb hts hin4 tyX4 tyX4_ok nmX4 hown hK hP hD hS 2 rfl rfl 1 (by decide) k50 (fun _ h9 => h9) rfl (by decide +kernel) rfl rfl (Nat.le_of_ble_eq_true rfl) dX5_readLaw_14 (fun H locs hP hD hS => ?_)
  have hP : va_P (dC, dI) vwCl ([(oh, .inr (5, [.ref oq_letters, .int o_bytes, .int z2.2.1, .int z2.2.2])), (oq_letters, .inl (cI, 120, .inl o_letters)), (bh, .inr (4, [.int b_told, .int z2.1, .int b_stick, .int b_givers, .int b_promises, .int b_pan, .ref bq_keeping, .ref bq_giverOf, .ref bq_deedOf, .ref bq_dayOf, .ref bq_likelyOf, .ref bq_kindOf, .ref bq_settledOf])), (bq_keeping, .inl (cI, 4, .inl b_keeping)), (bq_giverOf, .inl (cI, 8, .inl b_giverOf)), (bq_deedOf, .inl (cI, 8, .inl b_deedOf)), (bq_dayOf, .inl (cI, 8, .inl b_dayOf)), (bq_likelyOf, .inl (cI, 8, .inl b_likelyOf)), (bq_kindOf, .inl (cI, 8, .inl b_kindOf)), (bq_settledOf, .inl (cI, 8, .inl b_settledOf))]) H := hP
  have hD : va_D A ([(oh, .inr (5, [.ref oq_letters, .int o_bytes, .int z2.2.1, .int z2.2.2])), (oq_letters, .inl (cI, 120, .inl o_letters)), (bh, .inr (4, [.int b_told, .int z2.1, .int b_stick, .int b_givers, .int b_promises, .int b_pan, .ref bq_keeping, .ref bq_giverOf, .ref bq_deedOf, .ref bq_dayOf, .ref bq_likelyOf, .ref bq_kindOf, .ref bq_settledOf])), (bq_keeping, .inl (cI, 4, .inl b_keeping)), (bq_giverOf, .inl (cI, 8, .inl b_giverOf)), (bq_deedOf, .inl (cI, 8, .inl b_deedOf)), (bq_dayOf, .inl (cI, 8, .inl b_dayOf)), (bq_likelyOf, .inl (cI, 8, .inl b_likelyOf)), (bq_kindOf, .inl (cI, 8, .inl b_kindOf)), (bq_settledOf, .inl (cI, 8, .inl b_settledOf))]) := hD
  refine lv_aload_n hx hb dX5_readLaw_17 rfl (lv_at hl 0 rfl) ?_
  refine lv_bipush (v := 44) hx hb dX5_readLaw_18 (by decide) ?_
  obtain ⟨z3, hz3, hf⟩ := bs_b hf
  refine bs_cVv (ws1 := [(oh, .inr (5, [.ref oq_letters, .int o_bytes, .int z3.1, .int z3.2])), (oq_letters, .inl (cI, 120, .inl o_letters)), (bh, .inr (4, [.int b_told, .int z2.1, .int b_stick, .int b_givers, .int b_promises, .int b_pan, .ref bq_keeping, .ref bq_giverOf, .ref bq_deedOf, .ref bq_dayOf, .ref bq_likelyOf, .ref bq_kindOf, .ref bq_settledOf])), (bq_keeping, .inl (cI, 4, .inl b_keeping)), (bq_giverOf, .inl (cI, 8, .inl b_giverOf)), (bq_deedOf, .inl (cI, 8, .inl b_deedOf)), (bq_dayOf, .inl (cI, 8, .inl b_dayOf)), (bq_likelyOf, .inl (cI, 8, .inl b_likelyOf)), (bq_kindOf, .inl (cI, 8, .inl b_kindOf)), (bq_settledOf, .inl (cI, 8, .inl b_settledOf))]) ⟨hx, hb, hml, hown, hts⟩ (k_X5_takeSign l dC dI cI cZ cS cG oh oq_letters o_letters o_bytes z2.2.1 z2.2.2 (44 : Int32) z3 hz3) (cwV 1 hts gX5_readLaw_X5_takeSign rfl rfl rfl (by decide +kernel) ⟨Nat.le_of_ble_eq_true rfl, Nat.le_of_ble_eq_true rfl⟩) hE hP hD hA hS [0, 1] rfl rfl 5 0 rfl rfl rfl rfl rfl rfl rfl hl.1 (Nat.le_of_ble_eq_true rfl) dX5_readLaw_20 (fun H locs hP hD hS => ?_)
  refine lv_aload_n hx hb dX5_readLaw_23 rfl (lv_at hl 1 rfl) ?_
  refine lv_aload_n hx hb dX5_readLaw_24 rfl (lv_at hl 0 rfl) ?_
  refine lv_iconst (v := 1) hx hb dX5_readLaw_25 (by decide) ?_
  refine lv_iconst (v := 5) hx hb dX5_readLaw_26 (by decide) ?_
  obtain ⟨z4, hz4, hf⟩ := bs_b hf
  refine bs_cVi (ws1 := [(oh, .inr (5, [.ref oq_letters, .int o_bytes, .int z4.2.1, .int z4.2.2])), (oq_letters, .inl (cI, 120, .inl o_letters)), (bh, .inr (4, [.int b_told, .int z2.1, .int b_stick, .int b_givers, .int b_promises, .int b_pan, .ref bq_keeping, .ref bq_giverOf, .ref bq_deedOf, .ref bq_dayOf, .ref bq_likelyOf, .ref bq_kindOf, .ref bq_settledOf])), (bq_keeping, .inl (cI, 4, .inl b_keeping)), (bq_giverOf, .inl (cI, 8, .inl b_giverOf)), (bq_deedOf, .inl (cI, 8, .inl b_deedOf)), (bq_dayOf, .inl (cI, 8, .inl b_dayOf)), (bq_likelyOf, .inl (cI, 8, .inl b_likelyOf)), (bq_kindOf, .inl (cI, 8, .inl b_kindOf)), (bq_settledOf, .inl (cI, 8, .inl b_settledOf))]) ⟨hx, hb, hml, hown, hts⟩ (k_X5_takeNumber l dC dI cI cZ cS cG oh oq_letters o_letters o_bytes z3.1 z3.2 (1 : Int32) (5 : Int32) z4 hz4) (cwV 2 hts gX5_readLaw_X5_takeNumber rfl rfl rfl (by decide +kernel) ⟨Nat.le_of_ble_eq_true rfl, Nat.le_of_ble_eq_true rfl⟩) hE hP hD hA hS [0, 1] rfl rfl 5 0 rfl rfl rfl rfl rfl rfl rfl hl.1 (Nat.le_of_ble_eq_true rfl) dX5_readLaw_27 (fun H locs hP hD hS => ?_)
  refine va_put (D := (dC, dI)) (ci := 4) (v := .int z4.1) (ty := .int) (C := RX4) (T := TX4) (N := 13) hx hb hts hin4 tyX4 tyX4_ok nmX4 hown hK hP hD hS 2 rfl rfl 2 (by decide) k53 (fun _ h9 => h9) rfl (by decide +kernel) rfl rfl (Nat.le_of_ble_eq_true rfl) dX5_readLaw_30 (fun H locs hP hD hS => ?_)
  have hP : va_P (dC, dI) vwCl ([(oh, .inr (5, [.ref oq_letters, .int o_bytes, .int z4.2.1, .int z4.2.2])), (oq_letters, .inl (cI, 120, .inl o_letters)), (bh, .inr (4, [.int b_told, .int z2.1, .int z4.1, .int b_givers, .int b_promises, .int b_pan, .ref bq_keeping, .ref bq_giverOf, .ref bq_deedOf, .ref bq_dayOf, .ref bq_likelyOf, .ref bq_kindOf, .ref bq_settledOf])), (bq_keeping, .inl (cI, 4, .inl b_keeping)), (bq_giverOf, .inl (cI, 8, .inl b_giverOf)), (bq_deedOf, .inl (cI, 8, .inl b_deedOf)), (bq_dayOf, .inl (cI, 8, .inl b_dayOf)), (bq_likelyOf, .inl (cI, 8, .inl b_likelyOf)), (bq_kindOf, .inl (cI, 8, .inl b_kindOf)), (bq_settledOf, .inl (cI, 8, .inl b_settledOf))]) H := hP
  have hD : va_D A ([(oh, .inr (5, [.ref oq_letters, .int o_bytes, .int z4.2.1, .int z4.2.2])), (oq_letters, .inl (cI, 120, .inl o_letters)), (bh, .inr (4, [.int b_told, .int z2.1, .int z4.1, .int b_givers, .int b_promises, .int b_pan, .ref bq_keeping, .ref bq_giverOf, .ref bq_deedOf, .ref bq_dayOf, .ref bq_likelyOf, .ref bq_kindOf, .ref bq_settledOf])), (bq_keeping, .inl (cI, 4, .inl b_keeping)), (bq_giverOf, .inl (cI, 8, .inl b_giverOf)), (bq_deedOf, .inl (cI, 8, .inl b_deedOf)), (bq_dayOf, .inl (cI, 8, .inl b_dayOf)), (bq_likelyOf, .inl (cI, 8, .inl b_likelyOf)), (bq_kindOf, .inl (cI, 8, .inl b_kindOf)), (bq_settledOf, .inl (cI, 8, .inl b_settledOf))]) := hD
  refine lv_aload_n hx hb dX5_readLaw_33 rfl (lv_at hl 0 rfl) ?_
  refine lv_bipush (v := 59) hx hb dX5_readLaw_34 (by decide) ?_
  obtain ⟨z5, hz5, hf⟩ := bs_b hf
  refine bs_cVv (ws1 := [(oh, .inr (5, [.ref oq_letters, .int o_bytes, .int z5.1, .int z5.2])), (oq_letters, .inl (cI, 120, .inl o_letters)), (bh, .inr (4, [.int b_told, .int z2.1, .int z4.1, .int b_givers, .int b_promises, .int b_pan, .ref bq_keeping, .ref bq_giverOf, .ref bq_deedOf, .ref bq_dayOf, .ref bq_likelyOf, .ref bq_kindOf, .ref bq_settledOf])), (bq_keeping, .inl (cI, 4, .inl b_keeping)), (bq_giverOf, .inl (cI, 8, .inl b_giverOf)), (bq_deedOf, .inl (cI, 8, .inl b_deedOf)), (bq_dayOf, .inl (cI, 8, .inl b_dayOf)), (bq_likelyOf, .inl (cI, 8, .inl b_likelyOf)), (bq_kindOf, .inl (cI, 8, .inl b_kindOf)), (bq_settledOf, .inl (cI, 8, .inl b_settledOf))]) ⟨hx, hb, hml, hown, hts⟩ (k_X5_takeSign l dC dI cI cZ cS cG oh oq_letters o_letters o_bytes z4.2.1 z4.2.2 (59 : Int32) z5 hz5) (cwV 1 hts gX5_readLaw_X5_takeSign rfl rfl rfl (by decide +kernel) ⟨Nat.le_of_ble_eq_true rfl, Nat.le_of_ble_eq_true rfl⟩) hE hP hD hA hS [0, 1] rfl rfl 5 0 rfl rfl rfl rfl rfl rfl rfl hl.1 (Nat.le_of_ble_eq_true rfl) dX5_readLaw_36 (fun H locs hP hD hS => ?_)
  obtain rfl := Option.some.inj hf
  exact hret H locs _ _ hP hS dX5_readLaw_39
set_option maxHeartbeats 4000000 in
set_option maxRecDepth 100000 in
theorem k_X5_kindOfSort (l : Launch) (dC : Nat → ClassId) (dI : Nat → Nat → Nat) (cI cZ cS cG : ClassId) (p1 : Int32) (out : Int32) (hf : f_X5_kindOfSort p1 = some out) : bs_C l dC dI cI cZ cS cG yX5_kindOfSort wsX5_kindOfSort ({ frames := 0, cells := 0, slots := 0, locals := 0 } : Room) [.int p1] ([]) out ([]) := by
  refine bs_ofI (cc := cX5_kindOfSort) (maxL := 1) (by decide) rfl (Nat.le_of_ble_eq_true rfl) ?_
  intro p e s m below meth c A Q hx hb hown hml hts hE H locs hP hD hA hS ls hl hret
  have hK := hE.1
  have hl : lv_has ls 1 [(0, .int p1)] := hl
  unfold f_X5_kindOfSort at hf
  refine lv_iload_n hx hb dX5_kindOfSort_0 rfl (lv_at hl 0 rfl) ?_
  by_cases c1 : p1 = 105
  · have hf := bs_t hf c1
    refine lv_tableIn (tgt := 66) hx hb dX5_kindOfSort_1 (by rw [c1]; decide) (by rw [c1]; decide) (by rw [c1]; rfl) (by decide) ?_
    refine lv_iconst (v := 2) hx hb dX5_kindOfSort_66 (by decide) ?_
    obtain rfl := Option.some.inj hf
    exact hret H locs _ _ hP hS rfl dX5_kindOfSort_67
  · have hf := bs_f hf c1
    by_cases c2 : p1 = 106
    · have hf := bs_t hf c2
      refine lv_tableIn (tgt := 74) hx hb dX5_kindOfSort_1 (by rw [c2]; decide) (by rw [c2]; decide) (by rw [c2]; rfl) (by decide) ?_
      refine lv_iconst (v := 0) hx hb dX5_kindOfSort_74 (by decide) ?_
      obtain rfl := Option.some.inj hf
      exact hret H locs _ _ hP hS rfl dX5_kindOfSort_75
    · have hf := bs_f hf c2
      by_cases c3 : p1 = 107
      · have hf := bs_t hf c3
        refine lv_tableIn (tgt := 74) hx hb dX5_kindOfSort_1 (by rw [c3]; decide) (by rw [c3]; decide) (by rw [c3]; rfl) (by decide) ?_
        refine lv_iconst (v := 0) hx hb dX5_kindOfSort_74 (by decide) ?_
        obtain rfl := Option.some.inj hf
        exact hret H locs _ _ hP hS rfl dX5_kindOfSort_75
      · have hf := bs_f hf c3
        by_cases c4 : p1 = 108
        · have hf := bs_t hf c4
          refine lv_tableIn (tgt := 74) hx hb dX5_kindOfSort_1 (by rw [c4]; decide) (by rw [c4]; decide) (by rw [c4]; rfl) (by decide) ?_
          refine lv_iconst (v := 0) hx hb dX5_kindOfSort_74 (by decide) ?_
          obtain rfl := Option.some.inj hf
          exact hret H locs _ _ hP hS rfl dX5_kindOfSort_75
        · have hf := bs_f hf c4
          by_cases c5 : p1 = 109
          · have hf := bs_t hf c5
            refine lv_tableIn (tgt := 72) hx hb dX5_kindOfSort_1 (by rw [c5]; decide) (by rw [c5]; decide) (by rw [c5]; rfl) (by decide) ?_
            refine lv_iconst (v := 5) hx hb dX5_kindOfSort_72 (by decide) ?_
            obtain rfl := Option.some.inj hf
            exact hret H locs _ _ hP hS rfl dX5_kindOfSort_73
          · have hf := bs_f hf c5
            by_cases c6 : p1 = 110
            · have hf := bs_t hf c6
              refine lv_tableIn (tgt := 74) hx hb dX5_kindOfSort_1 (by rw [c6]; decide) (by rw [c6]; decide) (by rw [c6]; rfl) (by decide) ?_
              refine lv_iconst (v := 0) hx hb dX5_kindOfSort_74 (by decide) ?_
              obtain rfl := Option.some.inj hf
              exact hret H locs _ _ hP hS rfl dX5_kindOfSort_75
            · have hf := bs_f hf c6
              by_cases c7 : p1 = 111
              · have hf := bs_t hf c7
                refine lv_tableIn (tgt := 70) hx hb dX5_kindOfSort_1 (by rw [c7]; decide) (by rw [c7]; decide) (by rw [c7]; rfl) (by decide) ?_
                refine lv_iconst (v := 4) hx hb dX5_kindOfSort_70 (by decide) ?_
                obtain rfl := Option.some.inj hf
                exact hret H locs _ _ hP hS rfl dX5_kindOfSort_71
              · have hf := bs_f hf c7
                by_cases c8 : p1 = 112
                · have hf := bs_t hf c8
                  refine lv_tableIn (tgt := 64) hx hb dX5_kindOfSort_1 (by rw [c8]; decide) (by rw [c8]; decide) (by rw [c8]; rfl) (by decide) ?_
                  refine lv_iconst (v := 1) hx hb dX5_kindOfSort_64 (by decide) ?_
                  obtain rfl := Option.some.inj hf
                  exact hret H locs _ _ hP hS rfl dX5_kindOfSort_65
                · have hf := bs_f hf c8
                  by_cases c9 : p1 = 113
                  · have hf := bs_t hf c9
                    refine lv_tableIn (tgt := 74) hx hb dX5_kindOfSort_1 (by rw [c9]; decide) (by rw [c9]; decide) (by rw [c9]; rfl) (by decide) ?_
                    refine lv_iconst (v := 0) hx hb dX5_kindOfSort_74 (by decide) ?_
                    obtain rfl := Option.some.inj hf
                    exact hret H locs _ _ hP hS rfl dX5_kindOfSort_75
                  · have hf := bs_f hf c9
                    by_cases c10 : p1 = 114
                    · have hf := bs_t hf c10
                      refine lv_tableIn (tgt := 74) hx hb dX5_kindOfSort_1 (by rw [c10]; decide) (by rw [c10]; decide) (by rw [c10]; rfl) (by decide) ?_
                      refine lv_iconst (v := 0) hx hb dX5_kindOfSort_74 (by decide) ?_
                      obtain rfl := Option.some.inj hf
                      exact hret H locs _ _ hP hS rfl dX5_kindOfSort_75
                    · have hf := bs_f hf c10
                      by_cases c11 : p1 = 115
                      · have hf := bs_t hf c11
                        refine lv_tableIn (tgt := 74) hx hb dX5_kindOfSort_1 (by rw [c11]; decide) (by rw [c11]; decide) (by rw [c11]; rfl) (by decide) ?_
                        refine lv_iconst (v := 0) hx hb dX5_kindOfSort_74 (by decide) ?_
                        obtain rfl := Option.some.inj hf
                        exact hret H locs _ _ hP hS rfl dX5_kindOfSort_75
                      · have hf := bs_f hf c11
                        by_cases c12 : p1 = 116
                        · have hf := bs_t hf c12
                          refine lv_tableIn (tgt := 68) hx hb dX5_kindOfSort_1 (by rw [c12]; decide) (by rw [c12]; decide) (by rw [c12]; rfl) (by decide) ?_
                          refine lv_iconst (v := 3) hx hb dX5_kindOfSort_68 (by decide) ?_
                          obtain rfl := Option.some.inj hf
                          exact hret H locs _ _ hP hS rfl dX5_kindOfSort_69
                        · have hf := bs_f hf c12
                          refine lv_tableOut (tgt := 74) hx hb dX5_kindOfSort_1 (bs_sw (fun v h1 h2 => ?_)) (by decide) ?_
                          · rcases (by omega : v = 105 ∨ v = 106 ∨ v = 107 ∨ v = 108 ∨ v = 109 ∨ v = 110 ∨ v = 111 ∨ v = 112 ∨ v = 113 ∨ v = 114 ∨ v = 115 ∨ v = 116) with rfl | rfl | rfl | rfl | rfl | rfl | rfl | rfl | rfl | rfl | rfl | rfl
                            · exact bs_ne 105 (by decide) c1
                            · exact bs_ne 106 (by decide) c2
                            · exact bs_ne 107 (by decide) c3
                            · exact bs_ne 108 (by decide) c4
                            · exact bs_ne 109 (by decide) c5
                            · exact bs_ne 110 (by decide) c6
                            · exact bs_ne 111 (by decide) c7
                            · exact bs_ne 112 (by decide) c8
                            · exact bs_ne 113 (by decide) c9
                            · exact bs_ne 114 (by decide) c10
                            · exact bs_ne 115 (by decide) c11
                            · exact bs_ne 116 (by decide) c12
                          · refine lv_iconst (v := 0) hx hb dX5_kindOfSort_74 (by decide) ?_
                            obtain rfl := Option.some.inj hf
                            exact hret H locs _ _ hP hS rfl dX5_kindOfSort_75
set_option maxHeartbeats 4000000 in
set_option maxRecDepth 100000 in
theorem k_X5_readGiver (l : Launch) (dC : Nat → ClassId) (dI : Nat → Nat → Nat) (cI cZ cS cG : ClassId) (oh : Nat) (oq_letters : Nat) (bh : Nat) (bq_keeping : Nat) (bq_giverOf : Nat) (bq_deedOf : Nat) (bq_dayOf : Nat) (bq_likelyOf : Nat) (bq_kindOf : Nat) (bq_settledOf : Nat) (o_letters : Nat → Int32) (o_bytes : Int32) (o_at : Int32) (o_faultMet : Int32) (b_told : Int32) (b_wax : Int32) (b_stick : Int32) (b_givers : Int32) (b_promises : Int32) (b_pan : Int32) (b_keeping : Nat → Int32) (b_giverOf : Nat → Int32) (b_deedOf : Nat → Int32) (b_dayOf : Nat → Int32) (b_likelyOf : Nat → Int32) (b_kindOf : Nat → Int32) (b_settledOf : Nat → Int32) (out : Int32 × Int32 × Int32 × (Nat → Int32)) (hf : f_X5_readGiver o_letters o_bytes o_at o_faultMet b_givers b_keeping = some out) : bs_CV l dC dI cI cZ cS cG yX5_readGiver wsX5_readGiver ({ frames := 2, cells := 0, slots := 0, locals := 47 } : Room) [.ref oh, .ref bh] ([(oh, .inr (5, [.ref oq_letters, .int o_bytes, .int o_at, .int o_faultMet])), (oq_letters, .inl (cI, 120, .inl o_letters)), (bh, .inr (4, [.int b_told, .int b_wax, .int b_stick, .int b_givers, .int b_promises, .int b_pan, .ref bq_keeping, .ref bq_giverOf, .ref bq_deedOf, .ref bq_dayOf, .ref bq_likelyOf, .ref bq_kindOf, .ref bq_settledOf])), (bq_keeping, .inl (cI, 4, .inl b_keeping)), (bq_giverOf, .inl (cI, 8, .inl b_giverOf)), (bq_deedOf, .inl (cI, 8, .inl b_deedOf)), (bq_dayOf, .inl (cI, 8, .inl b_dayOf)), (bq_likelyOf, .inl (cI, 8, .inl b_likelyOf)), (bq_kindOf, .inl (cI, 8, .inl b_kindOf)), (bq_settledOf, .inl (cI, 8, .inl b_settledOf))]) ([(oh, .inr (5, [.ref oq_letters, .int o_bytes, .int out.1, .int out.2.1])), (oq_letters, .inl (cI, 120, .inl o_letters)), (bh, .inr (4, [.int b_told, .int b_wax, .int b_stick, .int out.2.2.1, .int b_promises, .int b_pan, .ref bq_keeping, .ref bq_giverOf, .ref bq_deedOf, .ref bq_dayOf, .ref bq_likelyOf, .ref bq_kindOf, .ref bq_settledOf])), (bq_keeping, .inl (cI, 4, .inl out.2.2.2)), (bq_giverOf, .inl (cI, 8, .inl b_giverOf)), (bq_deedOf, .inl (cI, 8, .inl b_deedOf)), (bq_dayOf, .inl (cI, 8, .inl b_dayOf)), (bq_likelyOf, .inl (cI, 8, .inl b_likelyOf)), (bq_kindOf, .inl (cI, 8, .inl b_kindOf)), (bq_settledOf, .inl (cI, 8, .inl b_settledOf))]) := by
  refine bs_ofV (cc := cX5_readGiver) (maxL := 2) (by decide) rfl (Nat.le_of_ble_eq_true rfl) ?_
  intro p e s m below meth c A Q hx hb hown hml hts hE H locs hP hD hA hS ls hl hret
  have hK := hE.1
  have hl : lv_has ls 2 [(0, .ref oh), (1, .ref bh)] := hl
  have hin4 : ∀ w ∈ u_ws RX4 TX4 13, w ∈ wsX5_readGiver := by decide +kernel
  have hin5 : ∀ w ∈ u_ws RX5 TX5 4, w ∈ wsX5_readGiver := by decide +kernel
  have k23 := hts (.fieldLink RX5 23 "PromiseScales$Tape" "at" "I") (by decide +kernel)
  have k66 := hts (.fieldLink RX5 66 "PromiseScales$Scales" "givers" "I") (by decide +kernel)
  have k75 := hts (.fieldLink RX5 75 "PromiseScales$Scales" "keeping" "[I") (by decide +kernel)
  unfold f_X5_readGiver at hf
  refine lv_aload_n hx hb dX5_readGiver_0 rfl (lv_at hl 0 rfl) ?_
  refine lv_dup hx hb dX5_readGiver_1 rfl ?_
  refine va_get (D := (dC, dI)) (ci := 5) (v := .int o_at) (C := RX5) (T := TX5) (N := 4) hx hb hts hin5 hown hK hP 0 rfl rfl 2 (by decide) k23 (fun _ h9 => h9) rfl dX5_readGiver_2 ?_
  refine lv_iconst (v := 1) hx hb dX5_readGiver_5 (by decide) ?_
  refine lv_iadd hx hb dX5_readGiver_6 ?_
  refine va_put (D := (dC, dI)) (ci := 5) (v := .int (o_at + 1)) (ty := .int) (C := RX5) (T := TX5) (N := 4) hx hb hts hin5 tyX5 tyX5_ok nmX5 hown hK hP hD hS 0 rfl rfl 2 (by decide) k23 (fun _ h9 => h9) rfl (by decide +kernel) rfl rfl (Nat.le_of_ble_eq_true rfl) dX5_readGiver_7 (fun H locs hP hD hS => ?_)
  have hP : va_P (dC, dI) vwCl ([(oh, .inr (5, [.ref oq_letters, .int o_bytes, .int (o_at + 1), .int o_faultMet])), (oq_letters, .inl (cI, 120, .inl o_letters)), (bh, .inr (4, [.int b_told, .int b_wax, .int b_stick, .int b_givers, .int b_promises, .int b_pan, .ref bq_keeping, .ref bq_giverOf, .ref bq_deedOf, .ref bq_dayOf, .ref bq_likelyOf, .ref bq_kindOf, .ref bq_settledOf])), (bq_keeping, .inl (cI, 4, .inl b_keeping)), (bq_giverOf, .inl (cI, 8, .inl b_giverOf)), (bq_deedOf, .inl (cI, 8, .inl b_deedOf)), (bq_dayOf, .inl (cI, 8, .inl b_dayOf)), (bq_likelyOf, .inl (cI, 8, .inl b_likelyOf)), (bq_kindOf, .inl (cI, 8, .inl b_kindOf)), (bq_settledOf, .inl (cI, 8, .inl b_settledOf))]) H := hP
  have hD : va_D A ([(oh, .inr (5, [.ref oq_letters, .int o_bytes, .int (o_at + 1), .int o_faultMet])), (oq_letters, .inl (cI, 120, .inl o_letters)), (bh, .inr (4, [.int b_told, .int b_wax, .int b_stick, .int b_givers, .int b_promises, .int b_pan, .ref bq_keeping, .ref bq_giverOf, .ref bq_deedOf, .ref bq_dayOf, .ref bq_likelyOf, .ref bq_kindOf, .ref bq_settledOf])), (bq_keeping, .inl (cI, 4, .inl b_keeping)), (bq_giverOf, .inl (cI, 8, .inl b_giverOf)), (bq_deedOf, .inl (cI, 8, .inl b_deedOf)), (bq_dayOf, .inl (cI, 8, .inl b_dayOf)), (bq_likelyOf, .inl (cI, 8, .inl b_likelyOf)), (bq_kindOf, .inl (cI, 8, .inl b_kindOf)), (bq_settledOf, .inl (cI, 8, .inl b_settledOf))]) := hD
  refine lv_aload_n hx hb dX5_readGiver_10 rfl (lv_at hl 1 rfl) ?_
  refine va_get (D := (dC, dI)) (ci := 4) (v := .ref bq_keeping) (C := RX4) (T := TX4) (N := 13) hx hb hts hin4 hown hK hP 2 rfl rfl 6 (by decide) k75 (fun _ h9 => h9) rfl dX5_readGiver_11 ?_
  refine lv_aload_n hx hb dX5_readGiver_14 rfl (lv_at hl 1 rfl) ?_
  refine va_get (D := (dC, dI)) (ci := 4) (v := .int b_givers) (C := RX4) (T := TX4) (N := 13) hx hb hts hin4 hown hK hP 2 rfl rfl 3 (by decide) k66 (fun _ h9 => h9) rfl dX5_readGiver_15 ?_
  refine lv_aload_n hx hb dX5_readGiver_18 rfl (lv_at hl 0 rfl) ?_
  refine lv_iconst (v := 0) hx hb dX5_readGiver_19 (by decide) ?_
  refine lv_bipush (v := 10) hx hb dX5_readGiver_20 (by decide) ?_
  obtain ⟨z1, hz1, hf⟩ := bs_b hf
  refine bs_cVi (ws1 := [(oh, .inr (5, [.ref oq_letters, .int o_bytes, .int z1.2.1, .int z1.2.2])), (oq_letters, .inl (cI, 120, .inl o_letters)), (bh, .inr (4, [.int b_told, .int b_wax, .int b_stick, .int b_givers, .int b_promises, .int b_pan, .ref bq_keeping, .ref bq_giverOf, .ref bq_deedOf, .ref bq_dayOf, .ref bq_likelyOf, .ref bq_kindOf, .ref bq_settledOf])), (bq_keeping, .inl (cI, 4, .inl b_keeping)), (bq_giverOf, .inl (cI, 8, .inl b_giverOf)), (bq_deedOf, .inl (cI, 8, .inl b_deedOf)), (bq_dayOf, .inl (cI, 8, .inl b_dayOf)), (bq_likelyOf, .inl (cI, 8, .inl b_likelyOf)), (bq_kindOf, .inl (cI, 8, .inl b_kindOf)), (bq_settledOf, .inl (cI, 8, .inl b_settledOf))]) ⟨hx, hb, hml, hown, hts⟩ (k_X5_takeNumber l dC dI cI cZ cS cG oh oq_letters o_letters o_bytes (o_at + 1) o_faultMet (0 : Int32) (10 : Int32) z1 hz1) (cwV 2 hts gX5_readGiver_X5_takeNumber rfl rfl rfl (by decide +kernel) ⟨Nat.le_of_ble_eq_true rfl, Nat.le_of_ble_eq_true rfl⟩) hE hP hD hA hS [0, 1] rfl rfl 5 0 rfl rfl rfl rfl rfl rfl rfl hl.1 (Nat.le_of_ble_eq_true rfl) dX5_readGiver_22 (fun H locs hP hD hS => ?_)
  obtain ⟨g2, hf⟩ := bs_g hf
  refine va_iast hx hb hK hP hD hS 3 0 rfl rfl (bs_inV g2) dX5_readGiver_25 (fun H locs hP hD hS => ?_)
  have hP : va_P (dC, dI) vwCl ([(oh, .inr (5, [.ref oq_letters, .int o_bytes, .int z1.2.1, .int z1.2.2])), (oq_letters, .inl (cI, 120, .inl o_letters)), (bh, .inr (4, [.int b_told, .int b_wax, .int b_stick, .int b_givers, .int b_promises, .int b_pan, .ref bq_keeping, .ref bq_giverOf, .ref bq_deedOf, .ref bq_dayOf, .ref bq_likelyOf, .ref bq_kindOf, .ref bq_settledOf])), (bq_keeping, .inl (cI, 4, .inl (upd b_keeping b_givers.toNatClampNeg z1.1))), (bq_giverOf, .inl (cI, 8, .inl b_giverOf)), (bq_deedOf, .inl (cI, 8, .inl b_deedOf)), (bq_dayOf, .inl (cI, 8, .inl b_dayOf)), (bq_likelyOf, .inl (cI, 8, .inl b_likelyOf)), (bq_kindOf, .inl (cI, 8, .inl b_kindOf)), (bq_settledOf, .inl (cI, 8, .inl b_settledOf))]) H := hP
  have hD : va_D A ([(oh, .inr (5, [.ref oq_letters, .int o_bytes, .int z1.2.1, .int z1.2.2])), (oq_letters, .inl (cI, 120, .inl o_letters)), (bh, .inr (4, [.int b_told, .int b_wax, .int b_stick, .int b_givers, .int b_promises, .int b_pan, .ref bq_keeping, .ref bq_giverOf, .ref bq_deedOf, .ref bq_dayOf, .ref bq_likelyOf, .ref bq_kindOf, .ref bq_settledOf])), (bq_keeping, .inl (cI, 4, .inl (upd b_keeping b_givers.toNatClampNeg z1.1))), (bq_giverOf, .inl (cI, 8, .inl b_giverOf)), (bq_deedOf, .inl (cI, 8, .inl b_deedOf)), (bq_dayOf, .inl (cI, 8, .inl b_dayOf)), (bq_likelyOf, .inl (cI, 8, .inl b_likelyOf)), (bq_kindOf, .inl (cI, 8, .inl b_kindOf)), (bq_settledOf, .inl (cI, 8, .inl b_settledOf))]) := hD
  refine lv_aload_n hx hb dX5_readGiver_26 rfl (lv_at hl 0 rfl) ?_
  refine lv_bipush (v := 59) hx hb dX5_readGiver_27 (by decide) ?_
  obtain ⟨z3, hz3, hf⟩ := bs_b hf
  refine bs_cVv (ws1 := [(oh, .inr (5, [.ref oq_letters, .int o_bytes, .int z3.1, .int z3.2])), (oq_letters, .inl (cI, 120, .inl o_letters)), (bh, .inr (4, [.int b_told, .int b_wax, .int b_stick, .int b_givers, .int b_promises, .int b_pan, .ref bq_keeping, .ref bq_giverOf, .ref bq_deedOf, .ref bq_dayOf, .ref bq_likelyOf, .ref bq_kindOf, .ref bq_settledOf])), (bq_keeping, .inl (cI, 4, .inl (upd b_keeping b_givers.toNatClampNeg z1.1))), (bq_giverOf, .inl (cI, 8, .inl b_giverOf)), (bq_deedOf, .inl (cI, 8, .inl b_deedOf)), (bq_dayOf, .inl (cI, 8, .inl b_dayOf)), (bq_likelyOf, .inl (cI, 8, .inl b_likelyOf)), (bq_kindOf, .inl (cI, 8, .inl b_kindOf)), (bq_settledOf, .inl (cI, 8, .inl b_settledOf))]) ⟨hx, hb, hml, hown, hts⟩ (k_X5_takeSign l dC dI cI cZ cS cG oh oq_letters o_letters o_bytes z1.2.1 z1.2.2 (59 : Int32) z3 hz3) (cwV 1 hts gX5_readGiver_X5_takeSign rfl rfl rfl (by decide +kernel) ⟨Nat.le_of_ble_eq_true rfl, Nat.le_of_ble_eq_true rfl⟩) hE hP hD hA hS [0, 1] rfl rfl 5 0 rfl rfl rfl rfl rfl rfl rfl hl.1 (Nat.le_of_ble_eq_true rfl) dX5_readGiver_29 (fun H locs hP hD hS => ?_)
  refine lv_aload_n hx hb dX5_readGiver_32 rfl (lv_at hl 1 rfl) ?_
  refine lv_dup hx hb dX5_readGiver_33 rfl ?_
  refine va_get (D := (dC, dI)) (ci := 4) (v := .int b_givers) (C := RX4) (T := TX4) (N := 13) hx hb hts hin4 hown hK hP 2 rfl rfl 3 (by decide) k66 (fun _ h9 => h9) rfl dX5_readGiver_34 ?_
  refine lv_iconst (v := 1) hx hb dX5_readGiver_37 (by decide) ?_
  refine lv_iadd hx hb dX5_readGiver_38 ?_
  refine va_put (D := (dC, dI)) (ci := 4) (v := .int (b_givers + 1)) (ty := .int) (C := RX4) (T := TX4) (N := 13) hx hb hts hin4 tyX4 tyX4_ok nmX4 hown hK hP hD hS 2 rfl rfl 3 (by decide) k66 (fun _ h9 => h9) rfl (by decide +kernel) rfl rfl (Nat.le_of_ble_eq_true rfl) dX5_readGiver_39 (fun H locs hP hD hS => ?_)
  have hP : va_P (dC, dI) vwCl ([(oh, .inr (5, [.ref oq_letters, .int o_bytes, .int z3.1, .int z3.2])), (oq_letters, .inl (cI, 120, .inl o_letters)), (bh, .inr (4, [.int b_told, .int b_wax, .int b_stick, .int (b_givers + 1), .int b_promises, .int b_pan, .ref bq_keeping, .ref bq_giverOf, .ref bq_deedOf, .ref bq_dayOf, .ref bq_likelyOf, .ref bq_kindOf, .ref bq_settledOf])), (bq_keeping, .inl (cI, 4, .inl (upd b_keeping b_givers.toNatClampNeg z1.1))), (bq_giverOf, .inl (cI, 8, .inl b_giverOf)), (bq_deedOf, .inl (cI, 8, .inl b_deedOf)), (bq_dayOf, .inl (cI, 8, .inl b_dayOf)), (bq_likelyOf, .inl (cI, 8, .inl b_likelyOf)), (bq_kindOf, .inl (cI, 8, .inl b_kindOf)), (bq_settledOf, .inl (cI, 8, .inl b_settledOf))]) H := hP
  have hD : va_D A ([(oh, .inr (5, [.ref oq_letters, .int o_bytes, .int z3.1, .int z3.2])), (oq_letters, .inl (cI, 120, .inl o_letters)), (bh, .inr (4, [.int b_told, .int b_wax, .int b_stick, .int (b_givers + 1), .int b_promises, .int b_pan, .ref bq_keeping, .ref bq_giverOf, .ref bq_deedOf, .ref bq_dayOf, .ref bq_likelyOf, .ref bq_kindOf, .ref bq_settledOf])), (bq_keeping, .inl (cI, 4, .inl (upd b_keeping b_givers.toNatClampNeg z1.1))), (bq_giverOf, .inl (cI, 8, .inl b_giverOf)), (bq_deedOf, .inl (cI, 8, .inl b_deedOf)), (bq_dayOf, .inl (cI, 8, .inl b_dayOf)), (bq_likelyOf, .inl (cI, 8, .inl b_likelyOf)), (bq_kindOf, .inl (cI, 8, .inl b_kindOf)), (bq_settledOf, .inl (cI, 8, .inl b_settledOf))]) := hD
  obtain rfl := Option.some.inj hf
  exact hret H locs _ _ hP hS dX5_readGiver_42
set_option maxHeartbeats 4000000 in
set_option maxRecDepth 100000 in
theorem k_X5_readPromise (l : Launch) (dC : Nat → ClassId) (dI : Nat → Nat → Nat) (cI cZ cS cG : ClassId) (oh : Nat) (oq_letters : Nat) (bh : Nat) (bq_keeping : Nat) (bq_giverOf : Nat) (bq_deedOf : Nat) (bq_dayOf : Nat) (bq_likelyOf : Nat) (bq_kindOf : Nat) (bq_settledOf : Nat) (o_letters : Nat → Int32) (o_bytes : Int32) (o_at : Int32) (o_faultMet : Int32) (b_told : Int32) (b_wax : Int32) (b_stick : Int32) (b_givers : Int32) (b_promises : Int32) (b_pan : Int32) (b_keeping : Nat → Int32) (b_giverOf : Nat → Int32) (b_deedOf : Nat → Int32) (b_dayOf : Nat → Int32) (b_likelyOf : Nat → Int32) (b_kindOf : Nat → Int32) (b_settledOf : Nat → Int32) (p2 : Int32) (out : Int32 × Int32 × Int32 × (Nat → Int32) × (Nat → Int32) × (Nat → Int32) × (Nat → Int32) × (Nat → Int32)) (hf : f_X5_readPromise o_letters o_bytes o_at o_faultMet b_givers b_promises b_giverOf b_deedOf b_dayOf b_likelyOf b_kindOf p2 = some out) : bs_CV l dC dI cI cZ cS cG yX5_readPromise wsX5_readPromise ({ frames := 2, cells := 0, slots := 0, locals := 47 } : Room) [.ref oh, .ref bh, .int p2] ([(oh, .inr (5, [.ref oq_letters, .int o_bytes, .int o_at, .int o_faultMet])), (oq_letters, .inl (cI, 120, .inl o_letters)), (bh, .inr (4, [.int b_told, .int b_wax, .int b_stick, .int b_givers, .int b_promises, .int b_pan, .ref bq_keeping, .ref bq_giverOf, .ref bq_deedOf, .ref bq_dayOf, .ref bq_likelyOf, .ref bq_kindOf, .ref bq_settledOf])), (bq_keeping, .inl (cI, 4, .inl b_keeping)), (bq_giverOf, .inl (cI, 8, .inl b_giverOf)), (bq_deedOf, .inl (cI, 8, .inl b_deedOf)), (bq_dayOf, .inl (cI, 8, .inl b_dayOf)), (bq_likelyOf, .inl (cI, 8, .inl b_likelyOf)), (bq_kindOf, .inl (cI, 8, .inl b_kindOf)), (bq_settledOf, .inl (cI, 8, .inl b_settledOf))]) ([(oh, .inr (5, [.ref oq_letters, .int o_bytes, .int out.1, .int out.2.1])), (oq_letters, .inl (cI, 120, .inl o_letters)), (bh, .inr (4, [.int b_told, .int b_wax, .int b_stick, .int b_givers, .int out.2.2.1, .int b_pan, .ref bq_keeping, .ref bq_giverOf, .ref bq_deedOf, .ref bq_dayOf, .ref bq_likelyOf, .ref bq_kindOf, .ref bq_settledOf])), (bq_keeping, .inl (cI, 4, .inl b_keeping)), (bq_giverOf, .inl (cI, 8, .inl out.2.2.2.1)), (bq_deedOf, .inl (cI, 8, .inl out.2.2.2.2.1)), (bq_dayOf, .inl (cI, 8, .inl out.2.2.2.2.2.1)), (bq_likelyOf, .inl (cI, 8, .inl out.2.2.2.2.2.2.1)), (bq_kindOf, .inl (cI, 8, .inl out.2.2.2.2.2.2.2)), (bq_settledOf, .inl (cI, 8, .inl b_settledOf))]) := by
  refine bs_ofV (cc := cX5_readPromise) (maxL := 4) (by decide) rfl (Nat.le_of_ble_eq_true rfl) ?_
  intro p e s m below meth c A Q hx hb hown hml hts hE H locs hP hD hA hS ls hl hret
  have hK := hE.1
  have hl : lv_has ls 4 [(0, .ref oh), (1, .ref bh), (2, .int p2)] := hl
  have hin4 : ∀ w ∈ u_ws RX4 TX4 13, w ∈ wsX5_readPromise := by decide +kernel
  have hin5 : ∀ w ∈ u_ws RX5 TX5 4, w ∈ wsX5_readPromise := by decide +kernel
  have k23 := hts (.fieldLink RX5 23 "PromiseScales$Tape" "at" "I") (by decide +kernel)
  have k60 := hts (.fieldLink RX5 60 "PromiseScales$Scales" "promises" "I") (by decide +kernel)
  have k66 := hts (.fieldLink RX5 66 "PromiseScales$Scales" "givers" "I") (by decide +kernel)
  have k78 := hts (.fieldLink RX5 78 "PromiseScales$Scales" "kindOf" "[I") (by decide +kernel)
  have k81 := hts (.fieldLink RX5 81 "PromiseScales$Scales" "giverOf" "[I") (by decide +kernel)
  have k84 := hts (.fieldLink RX5 84 "PromiseScales$Scales" "deedOf" "[I") (by decide +kernel)
  have k87 := hts (.fieldLink RX5 87 "PromiseScales$Scales" "dayOf" "[I") (by decide +kernel)
  have k90 := hts (.fieldLink RX5 90 "PromiseScales$Scales" "likelyOf" "[I") (by decide +kernel)
  unfold f_X5_readPromise at hf
  refine lv_aload_n hx hb dX5_readPromise_0 rfl (lv_at hl 1 rfl) ?_
  refine va_get (D := (dC, dI)) (ci := 4) (v := .int b_promises) (C := RX4) (T := TX4) (N := 13) hx hb hts hin4 hown hK hP 2 rfl rfl 4 (by decide) k60 (fun _ h9 => h9) rfl dX5_readPromise_1 ?_
  refine lv_istore_n (lv' := [(3, .int b_promises), (0, .ref oh), (1, .ref bh), (2, .int p2)]) hx hb dX5_readPromise_4 rfl hl (by decide) rfl (fun ls hl => ?_)
  refine lv_aload_n hx hb dX5_readPromise_5 rfl (lv_at hl 1 rfl) ?_
  refine lv_dup hx hb dX5_readPromise_6 rfl ?_
  refine va_get (D := (dC, dI)) (ci := 5) (v := .int o_at) (C := RX5) (T := TX5) (N := 4) hx hb hts hin5 hown hK hP 0 rfl rfl 2 (by decide) k23 (fun _ h9 => h9) rfl dX5_readPromise_7 ?_
  refine lv_iconst (v := 1) hx hb dX5_readPromise_10 (by decide) ?_
  refine lv_iadd hx hb dX5_readPromise_11 ?_
  refine va_put (D := (dC, dI)) (ci := 5) (v := .int (o_at + 1)) (ty := .int) (C := RX5) (T := TX5) (N := 4) hx hb hts hin5 tyX5 tyX5_ok nmX5 hown hK hP hD hS 0 rfl rfl 2 (by decide) k23 (fun _ h9 => h9) rfl (by decide +kernel) rfl rfl (Nat.le_of_ble_eq_true rfl) dX5_readPromise_12 (fun H locs hP hD hS => ?_)
  have hP : va_P (dC, dI) vwCl ([(oh, .inr (5, [.ref oq_letters, .int o_bytes, .int (o_at + 1), .int o_faultMet])), (oq_letters, .inl (cI, 120, .inl o_letters)), (bh, .inr (4, [.int b_told, .int b_wax, .int b_stick, .int b_givers, .int b_promises, .int b_pan, .ref bq_keeping, .ref bq_giverOf, .ref bq_deedOf, .ref bq_dayOf, .ref bq_likelyOf, .ref bq_kindOf, .ref bq_settledOf])), (bq_keeping, .inl (cI, 4, .inl b_keeping)), (bq_giverOf, .inl (cI, 8, .inl b_giverOf)), (bq_deedOf, .inl (cI, 8, .inl b_deedOf)), (bq_dayOf, .inl (cI, 8, .inl b_dayOf)), (bq_likelyOf, .inl (cI, 8, .inl b_likelyOf)), (bq_kindOf, .inl (cI, 8, .inl b_kindOf)), (bq_settledOf, .inl (cI, 8, .inl b_settledOf))]) H := hP
  have hD : va_D A ([(oh, .inr (5, [.ref oq_letters, .int o_bytes, .int (o_at + 1), .int o_faultMet])), (oq_letters, .inl (cI, 120, .inl o_letters)), (bh, .inr (4, [.int b_told, .int b_wax, .int b_stick, .int b_givers, .int b_promises, .int b_pan, .ref bq_keeping, .ref bq_giverOf, .ref bq_deedOf, .ref bq_dayOf, .ref bq_likelyOf, .ref bq_kindOf, .ref bq_settledOf])), (bq_keeping, .inl (cI, 4, .inl b_keeping)), (bq_giverOf, .inl (cI, 8, .inl b_giverOf)), (bq_deedOf, .inl (cI, 8, .inl b_deedOf)), (bq_dayOf, .inl (cI, 8, .inl b_dayOf)), (bq_likelyOf, .inl (cI, 8, .inl b_likelyOf)), (bq_kindOf, .inl (cI, 8, .inl b_kindOf)), (bq_settledOf, .inl (cI, 8, .inl b_settledOf))]) := hD
  refine lv_aload_n hx hb dX5_readPromise_15 rfl (lv_at hl 2 rfl) ?_
  refine va_get (D := (dC, dI)) (ci := 4) (v := .ref bq_kindOf) (C := RX4) (T := TX4) (N := 13) hx hb hts hin4 hown hK hP 2 rfl rfl 11 (by decide) k78 (fun _ h9 => h9) rfl dX5_readPromise_16 ?_
  refine lv_iload_n hx hb dX5_readPromise_19 rfl (lv_at hl 0 rfl) ?_
  refine lv_iload_n hx hb dX5_readPromise_20 rfl (lv_at hl 3 rfl) ?_
  obtain ⟨g1, hf⟩ := bs_g hf
  refine va_iast hx hb hK hP hD hS 8 0 rfl rfl (bs_inV g1) dX5_readPromise_21 (fun H locs hP hD hS => ?_)
  have hP : va_P (dC, dI) vwCl ([(oh, .inr (5, [.ref oq_letters, .int o_bytes, .int (o_at + 1), .int o_faultMet])), (oq_letters, .inl (cI, 120, .inl o_letters)), (bh, .inr (4, [.int b_told, .int b_wax, .int b_stick, .int b_givers, .int b_promises, .int b_pan, .ref bq_keeping, .ref bq_giverOf, .ref bq_deedOf, .ref bq_dayOf, .ref bq_likelyOf, .ref bq_kindOf, .ref bq_settledOf])), (bq_keeping, .inl (cI, 4, .inl b_keeping)), (bq_giverOf, .inl (cI, 8, .inl b_giverOf)), (bq_deedOf, .inl (cI, 8, .inl b_deedOf)), (bq_dayOf, .inl (cI, 8, .inl b_dayOf)), (bq_likelyOf, .inl (cI, 8, .inl b_likelyOf)), (bq_kindOf, .inl (cI, 8, .inl (upd b_kindOf b_promises.toNatClampNeg p2))), (bq_settledOf, .inl (cI, 8, .inl b_settledOf))]) H := hP
  have hD : va_D A ([(oh, .inr (5, [.ref oq_letters, .int o_bytes, .int (o_at + 1), .int o_faultMet])), (oq_letters, .inl (cI, 120, .inl o_letters)), (bh, .inr (4, [.int b_told, .int b_wax, .int b_stick, .int b_givers, .int b_promises, .int b_pan, .ref bq_keeping, .ref bq_giverOf, .ref bq_deedOf, .ref bq_dayOf, .ref bq_likelyOf, .ref bq_kindOf, .ref bq_settledOf])), (bq_keeping, .inl (cI, 4, .inl b_keeping)), (bq_giverOf, .inl (cI, 8, .inl b_giverOf)), (bq_deedOf, .inl (cI, 8, .inl b_deedOf)), (bq_dayOf, .inl (cI, 8, .inl b_dayOf)), (bq_likelyOf, .inl (cI, 8, .inl b_likelyOf)), (bq_kindOf, .inl (cI, 8, .inl (upd b_kindOf b_promises.toNatClampNeg p2))), (bq_settledOf, .inl (cI, 8, .inl b_settledOf))]) := hD
  refine lv_aload_n hx hb dX5_readPromise_22 rfl (lv_at hl 2 rfl) ?_
  refine va_get (D := (dC, dI)) (ci := 4) (v := .ref bq_giverOf) (C := RX4) (T := TX4) (N := 13) hx hb hts hin4 hown hK hP 2 rfl rfl 7 (by decide) k81 (fun _ h9 => h9) rfl dX5_readPromise_23 ?_
  refine lv_iload_n hx hb dX5_readPromise_26 rfl (lv_at hl 0 rfl) ?_
  refine lv_aload_n hx hb dX5_readPromise_27 rfl (lv_at hl 1 rfl) ?_
  refine lv_iconst (v := 0) hx hb dX5_readPromise_28 (by decide) ?_
  refine lv_aload_n hx hb dX5_readPromise_29 rfl (lv_at hl 2 rfl) ?_
  refine va_get (D := (dC, dI)) (ci := 4) (v := .int b_givers) (C := RX4) (T := TX4) (N := 13) hx hb hts hin4 hown hK hP 2 rfl rfl 3 (by decide) k66 (fun _ h9 => h9) rfl dX5_readPromise_30 ?_
  refine lv_iconst (v := 1) hx hb dX5_readPromise_33 (by decide) ?_
  refine lv_isub hx hb dX5_readPromise_34 ?_
  obtain ⟨z2, hz2, hf⟩ := bs_b hf
  refine bs_cVi (ws1 := [(oh, .inr (5, [.ref oq_letters, .int o_bytes, .int z2.2.1, .int z2.2.2])), (oq_letters, .inl (cI, 120, .inl o_letters)), (bh, .inr (4, [.int b_told, .int b_wax, .int b_stick, .int b_givers, .int b_promises, .int b_pan, .ref bq_keeping, .ref bq_giverOf, .ref bq_deedOf, .ref bq_dayOf, .ref bq_likelyOf, .ref bq_kindOf, .ref bq_settledOf])), (bq_keeping, .inl (cI, 4, .inl b_keeping)), (bq_giverOf, .inl (cI, 8, .inl b_giverOf)), (bq_deedOf, .inl (cI, 8, .inl b_deedOf)), (bq_dayOf, .inl (cI, 8, .inl b_dayOf)), (bq_likelyOf, .inl (cI, 8, .inl b_likelyOf)), (bq_kindOf, .inl (cI, 8, .inl (upd b_kindOf b_promises.toNatClampNeg p2))), (bq_settledOf, .inl (cI, 8, .inl b_settledOf))]) ⟨hx, hb, hml, hown, hts⟩ (k_X5_takeNumber l dC dI cI cZ cS cG oh oq_letters o_letters o_bytes (o_at + 1) o_faultMet (0 : Int32) (b_givers - 1) z2 hz2) (cwV 2 hts gX5_readPromise_X5_takeNumber rfl rfl rfl (by decide +kernel) ⟨Nat.le_of_ble_eq_true rfl, Nat.le_of_ble_eq_true rfl⟩) hE hP hD hA hS [0, 1] rfl rfl 5 0 rfl rfl rfl rfl rfl rfl rfl hl.1 (Nat.le_of_ble_eq_true rfl) dX5_readPromise_35 (fun H locs hP hD hS => ?_)
  obtain ⟨g3, hf⟩ := bs_g hf
  refine va_iast hx hb hK hP hD hS 4 0 rfl rfl (bs_inV g3) dX5_readPromise_38 (fun H locs hP hD hS => ?_)
  have hP : va_P (dC, dI) vwCl ([(oh, .inr (5, [.ref oq_letters, .int o_bytes, .int z2.2.1, .int z2.2.2])), (oq_letters, .inl (cI, 120, .inl o_letters)), (bh, .inr (4, [.int b_told, .int b_wax, .int b_stick, .int b_givers, .int b_promises, .int b_pan, .ref bq_keeping, .ref bq_giverOf, .ref bq_deedOf, .ref bq_dayOf, .ref bq_likelyOf, .ref bq_kindOf, .ref bq_settledOf])), (bq_keeping, .inl (cI, 4, .inl b_keeping)), (bq_giverOf, .inl (cI, 8, .inl (upd b_giverOf b_promises.toNatClampNeg z2.1))), (bq_deedOf, .inl (cI, 8, .inl b_deedOf)), (bq_dayOf, .inl (cI, 8, .inl b_dayOf)), (bq_likelyOf, .inl (cI, 8, .inl b_likelyOf)), (bq_kindOf, .inl (cI, 8, .inl (upd b_kindOf b_promises.toNatClampNeg p2))), (bq_settledOf, .inl (cI, 8, .inl b_settledOf))]) H := hP
  have hD : va_D A ([(oh, .inr (5, [.ref oq_letters, .int o_bytes, .int z2.2.1, .int z2.2.2])), (oq_letters, .inl (cI, 120, .inl o_letters)), (bh, .inr (4, [.int b_told, .int b_wax, .int b_stick, .int b_givers, .int b_promises, .int b_pan, .ref bq_keeping, .ref bq_giverOf, .ref bq_deedOf, .ref bq_dayOf, .ref bq_likelyOf, .ref bq_kindOf, .ref bq_settledOf])), (bq_keeping, .inl (cI, 4, .inl b_keeping)), (bq_giverOf, .inl (cI, 8, .inl (upd b_giverOf b_promises.toNatClampNeg z2.1))), (bq_deedOf, .inl (cI, 8, .inl b_deedOf)), (bq_dayOf, .inl (cI, 8, .inl b_dayOf)), (bq_likelyOf, .inl (cI, 8, .inl b_likelyOf)), (bq_kindOf, .inl (cI, 8, .inl (upd b_kindOf b_promises.toNatClampNeg p2))), (bq_settledOf, .inl (cI, 8, .inl b_settledOf))]) := hD
  refine lv_aload_n hx hb dX5_readPromise_39 rfl (lv_at hl 1 rfl) ?_
  refine lv_bipush (v := 44) hx hb dX5_readPromise_40 (by decide) ?_
  obtain ⟨z4, hz4, hf⟩ := bs_b hf
  refine bs_cVv (ws1 := [(oh, .inr (5, [.ref oq_letters, .int o_bytes, .int z4.1, .int z4.2])), (oq_letters, .inl (cI, 120, .inl o_letters)), (bh, .inr (4, [.int b_told, .int b_wax, .int b_stick, .int b_givers, .int b_promises, .int b_pan, .ref bq_keeping, .ref bq_giverOf, .ref bq_deedOf, .ref bq_dayOf, .ref bq_likelyOf, .ref bq_kindOf, .ref bq_settledOf])), (bq_keeping, .inl (cI, 4, .inl b_keeping)), (bq_giverOf, .inl (cI, 8, .inl (upd b_giverOf b_promises.toNatClampNeg z2.1))), (bq_deedOf, .inl (cI, 8, .inl b_deedOf)), (bq_dayOf, .inl (cI, 8, .inl b_dayOf)), (bq_likelyOf, .inl (cI, 8, .inl b_likelyOf)), (bq_kindOf, .inl (cI, 8, .inl (upd b_kindOf b_promises.toNatClampNeg p2))), (bq_settledOf, .inl (cI, 8, .inl b_settledOf))]) ⟨hx, hb, hml, hown, hts⟩ (k_X5_takeSign l dC dI cI cZ cS cG oh oq_letters o_letters o_bytes z2.2.1 z2.2.2 (44 : Int32) z4 hz4) (cwV 1 hts gX5_readPromise_X5_takeSign rfl rfl rfl (by decide +kernel) ⟨Nat.le_of_ble_eq_true rfl, Nat.le_of_ble_eq_true rfl⟩) hE hP hD hA hS [0, 1] rfl rfl 5 0 rfl rfl rfl rfl rfl rfl rfl hl.1 (Nat.le_of_ble_eq_true rfl) dX5_readPromise_42 (fun H locs hP hD hS => ?_)
  refine lv_aload_n hx hb dX5_readPromise_45 rfl (lv_at hl 2 rfl) ?_
  refine va_get (D := (dC, dI)) (ci := 4) (v := .ref bq_deedOf) (C := RX4) (T := TX4) (N := 13) hx hb hts hin4 hown hK hP 2 rfl rfl 8 (by decide) k84 (fun _ h9 => h9) rfl dX5_readPromise_46 ?_
  refine lv_iload_n hx hb dX5_readPromise_49 rfl (lv_at hl 0 rfl) ?_
  refine lv_aload_n hx hb dX5_readPromise_50 rfl (lv_at hl 1 rfl) ?_
  refine lv_iconst (v := 0) hx hb dX5_readPromise_51 (by decide) ?_
  refine lv_iconst (v := 5) hx hb dX5_readPromise_52 (by decide) ?_
  obtain ⟨z5, hz5, hf⟩ := bs_b hf
  refine bs_cVi (ws1 := [(oh, .inr (5, [.ref oq_letters, .int o_bytes, .int z5.2.1, .int z5.2.2])), (oq_letters, .inl (cI, 120, .inl o_letters)), (bh, .inr (4, [.int b_told, .int b_wax, .int b_stick, .int b_givers, .int b_promises, .int b_pan, .ref bq_keeping, .ref bq_giverOf, .ref bq_deedOf, .ref bq_dayOf, .ref bq_likelyOf, .ref bq_kindOf, .ref bq_settledOf])), (bq_keeping, .inl (cI, 4, .inl b_keeping)), (bq_giverOf, .inl (cI, 8, .inl (upd b_giverOf b_promises.toNatClampNeg z2.1))), (bq_deedOf, .inl (cI, 8, .inl b_deedOf)), (bq_dayOf, .inl (cI, 8, .inl b_dayOf)), (bq_likelyOf, .inl (cI, 8, .inl b_likelyOf)), (bq_kindOf, .inl (cI, 8, .inl (upd b_kindOf b_promises.toNatClampNeg p2))), (bq_settledOf, .inl (cI, 8, .inl b_settledOf))]) ⟨hx, hb, hml, hown, hts⟩ (k_X5_takeNumber l dC dI cI cZ cS cG oh oq_letters o_letters o_bytes z4.1 z4.2 (0 : Int32) (5 : Int32) z5 hz5) (cwV 2 hts gX5_readPromise_X5_takeNumber rfl rfl rfl (by decide +kernel) ⟨Nat.le_of_ble_eq_true rfl, Nat.le_of_ble_eq_true rfl⟩) hE hP hD hA hS [0, 1] rfl rfl 5 0 rfl rfl rfl rfl rfl rfl rfl hl.1 (Nat.le_of_ble_eq_true rfl) dX5_readPromise_53 (fun H locs hP hD hS => ?_)
  obtain ⟨g6, hf⟩ := bs_g hf
  refine va_iast hx hb hK hP hD hS 5 0 rfl rfl (bs_inV g6) dX5_readPromise_56 (fun H locs hP hD hS => ?_)
  have hP : va_P (dC, dI) vwCl ([(oh, .inr (5, [.ref oq_letters, .int o_bytes, .int z5.2.1, .int z5.2.2])), (oq_letters, .inl (cI, 120, .inl o_letters)), (bh, .inr (4, [.int b_told, .int b_wax, .int b_stick, .int b_givers, .int b_promises, .int b_pan, .ref bq_keeping, .ref bq_giverOf, .ref bq_deedOf, .ref bq_dayOf, .ref bq_likelyOf, .ref bq_kindOf, .ref bq_settledOf])), (bq_keeping, .inl (cI, 4, .inl b_keeping)), (bq_giverOf, .inl (cI, 8, .inl (upd b_giverOf b_promises.toNatClampNeg z2.1))), (bq_deedOf, .inl (cI, 8, .inl (upd b_deedOf b_promises.toNatClampNeg z5.1))), (bq_dayOf, .inl (cI, 8, .inl b_dayOf)), (bq_likelyOf, .inl (cI, 8, .inl b_likelyOf)), (bq_kindOf, .inl (cI, 8, .inl (upd b_kindOf b_promises.toNatClampNeg p2))), (bq_settledOf, .inl (cI, 8, .inl b_settledOf))]) H := hP
  have hD : va_D A ([(oh, .inr (5, [.ref oq_letters, .int o_bytes, .int z5.2.1, .int z5.2.2])), (oq_letters, .inl (cI, 120, .inl o_letters)), (bh, .inr (4, [.int b_told, .int b_wax, .int b_stick, .int b_givers, .int b_promises, .int b_pan, .ref bq_keeping, .ref bq_giverOf, .ref bq_deedOf, .ref bq_dayOf, .ref bq_likelyOf, .ref bq_kindOf, .ref bq_settledOf])), (bq_keeping, .inl (cI, 4, .inl b_keeping)), (bq_giverOf, .inl (cI, 8, .inl (upd b_giverOf b_promises.toNatClampNeg z2.1))), (bq_deedOf, .inl (cI, 8, .inl (upd b_deedOf b_promises.toNatClampNeg z5.1))), (bq_dayOf, .inl (cI, 8, .inl b_dayOf)), (bq_likelyOf, .inl (cI, 8, .inl b_likelyOf)), (bq_kindOf, .inl (cI, 8, .inl (upd b_kindOf b_promises.toNatClampNeg p2))), (bq_settledOf, .inl (cI, 8, .inl b_settledOf))]) := hD
  refine lv_aload_n hx hb dX5_readPromise_57 rfl (lv_at hl 1 rfl) ?_
  refine lv_bipush (v := 44) hx hb dX5_readPromise_58 (by decide) ?_
  obtain ⟨z7, hz7, hf⟩ := bs_b hf
  refine bs_cVv (ws1 := [(oh, .inr (5, [.ref oq_letters, .int o_bytes, .int z7.1, .int z7.2])), (oq_letters, .inl (cI, 120, .inl o_letters)), (bh, .inr (4, [.int b_told, .int b_wax, .int b_stick, .int b_givers, .int b_promises, .int b_pan, .ref bq_keeping, .ref bq_giverOf, .ref bq_deedOf, .ref bq_dayOf, .ref bq_likelyOf, .ref bq_kindOf, .ref bq_settledOf])), (bq_keeping, .inl (cI, 4, .inl b_keeping)), (bq_giverOf, .inl (cI, 8, .inl (upd b_giverOf b_promises.toNatClampNeg z2.1))), (bq_deedOf, .inl (cI, 8, .inl (upd b_deedOf b_promises.toNatClampNeg z5.1))), (bq_dayOf, .inl (cI, 8, .inl b_dayOf)), (bq_likelyOf, .inl (cI, 8, .inl b_likelyOf)), (bq_kindOf, .inl (cI, 8, .inl (upd b_kindOf b_promises.toNatClampNeg p2))), (bq_settledOf, .inl (cI, 8, .inl b_settledOf))]) ⟨hx, hb, hml, hown, hts⟩ (k_X5_takeSign l dC dI cI cZ cS cG oh oq_letters o_letters o_bytes z5.2.1 z5.2.2 (44 : Int32) z7 hz7) (cwV 1 hts gX5_readPromise_X5_takeSign rfl rfl rfl (by decide +kernel) ⟨Nat.le_of_ble_eq_true rfl, Nat.le_of_ble_eq_true rfl⟩) hE hP hD hA hS [0, 1] rfl rfl 5 0 rfl rfl rfl rfl rfl rfl rfl hl.1 (Nat.le_of_ble_eq_true rfl) dX5_readPromise_60 (fun H locs hP hD hS => ?_)
  refine lv_aload_n hx hb dX5_readPromise_63 rfl (lv_at hl 2 rfl) ?_
  refine va_get (D := (dC, dI)) (ci := 4) (v := .ref bq_dayOf) (C := RX4) (T := TX4) (N := 13) hx hb hts hin4 hown hK hP 2 rfl rfl 9 (by decide) k87 (fun _ h9 => h9) rfl dX5_readPromise_64 ?_
  refine lv_iload_n hx hb dX5_readPromise_67 rfl (lv_at hl 0 rfl) ?_
  refine lv_aload_n hx hb dX5_readPromise_68 rfl (lv_at hl 1 rfl) ?_
  refine lv_iconst (v := 0) hx hb dX5_readPromise_69 (by decide) ?_
  refine lv_bipush (v := 9) hx hb dX5_readPromise_70 (by decide) ?_
  obtain ⟨z8, hz8, hf⟩ := bs_b hf
  refine bs_cVi (ws1 := [(oh, .inr (5, [.ref oq_letters, .int o_bytes, .int z8.2.1, .int z8.2.2])), (oq_letters, .inl (cI, 120, .inl o_letters)), (bh, .inr (4, [.int b_told, .int b_wax, .int b_stick, .int b_givers, .int b_promises, .int b_pan, .ref bq_keeping, .ref bq_giverOf, .ref bq_deedOf, .ref bq_dayOf, .ref bq_likelyOf, .ref bq_kindOf, .ref bq_settledOf])), (bq_keeping, .inl (cI, 4, .inl b_keeping)), (bq_giverOf, .inl (cI, 8, .inl (upd b_giverOf b_promises.toNatClampNeg z2.1))), (bq_deedOf, .inl (cI, 8, .inl (upd b_deedOf b_promises.toNatClampNeg z5.1))), (bq_dayOf, .inl (cI, 8, .inl b_dayOf)), (bq_likelyOf, .inl (cI, 8, .inl b_likelyOf)), (bq_kindOf, .inl (cI, 8, .inl (upd b_kindOf b_promises.toNatClampNeg p2))), (bq_settledOf, .inl (cI, 8, .inl b_settledOf))]) ⟨hx, hb, hml, hown, hts⟩ (k_X5_takeNumber l dC dI cI cZ cS cG oh oq_letters o_letters o_bytes z7.1 z7.2 (0 : Int32) (9 : Int32) z8 hz8) (cwV 2 hts gX5_readPromise_X5_takeNumber rfl rfl rfl (by decide +kernel) ⟨Nat.le_of_ble_eq_true rfl, Nat.le_of_ble_eq_true rfl⟩) hE hP hD hA hS [0, 1] rfl rfl 5 0 rfl rfl rfl rfl rfl rfl rfl hl.1 (Nat.le_of_ble_eq_true rfl) dX5_readPromise_72 (fun H locs hP hD hS => ?_)
  obtain ⟨g9, hf⟩ := bs_g hf
  refine va_iast hx hb hK hP hD hS 6 0 rfl rfl (bs_inV g9) dX5_readPromise_75 (fun H locs hP hD hS => ?_)
  have hP : va_P (dC, dI) vwCl ([(oh, .inr (5, [.ref oq_letters, .int o_bytes, .int z8.2.1, .int z8.2.2])), (oq_letters, .inl (cI, 120, .inl o_letters)), (bh, .inr (4, [.int b_told, .int b_wax, .int b_stick, .int b_givers, .int b_promises, .int b_pan, .ref bq_keeping, .ref bq_giverOf, .ref bq_deedOf, .ref bq_dayOf, .ref bq_likelyOf, .ref bq_kindOf, .ref bq_settledOf])), (bq_keeping, .inl (cI, 4, .inl b_keeping)), (bq_giverOf, .inl (cI, 8, .inl (upd b_giverOf b_promises.toNatClampNeg z2.1))), (bq_deedOf, .inl (cI, 8, .inl (upd b_deedOf b_promises.toNatClampNeg z5.1))), (bq_dayOf, .inl (cI, 8, .inl (upd b_dayOf b_promises.toNatClampNeg z8.1))), (bq_likelyOf, .inl (cI, 8, .inl b_likelyOf)), (bq_kindOf, .inl (cI, 8, .inl (upd b_kindOf b_promises.toNatClampNeg p2))), (bq_settledOf, .inl (cI, 8, .inl b_settledOf))]) H := hP
  have hD : va_D A ([(oh, .inr (5, [.ref oq_letters, .int o_bytes, .int z8.2.1, .int z8.2.2])), (oq_letters, .inl (cI, 120, .inl o_letters)), (bh, .inr (4, [.int b_told, .int b_wax, .int b_stick, .int b_givers, .int b_promises, .int b_pan, .ref bq_keeping, .ref bq_giverOf, .ref bq_deedOf, .ref bq_dayOf, .ref bq_likelyOf, .ref bq_kindOf, .ref bq_settledOf])), (bq_keeping, .inl (cI, 4, .inl b_keeping)), (bq_giverOf, .inl (cI, 8, .inl (upd b_giverOf b_promises.toNatClampNeg z2.1))), (bq_deedOf, .inl (cI, 8, .inl (upd b_deedOf b_promises.toNatClampNeg z5.1))), (bq_dayOf, .inl (cI, 8, .inl (upd b_dayOf b_promises.toNatClampNeg z8.1))), (bq_likelyOf, .inl (cI, 8, .inl b_likelyOf)), (bq_kindOf, .inl (cI, 8, .inl (upd b_kindOf b_promises.toNatClampNeg p2))), (bq_settledOf, .inl (cI, 8, .inl b_settledOf))]) := hD
  refine lv_aload_n hx hb dX5_readPromise_76 rfl (lv_at hl 1 rfl) ?_
  refine lv_bipush (v := 44) hx hb dX5_readPromise_77 (by decide) ?_
  obtain ⟨z10, hz10, hf⟩ := bs_b hf
  refine bs_cVv (ws1 := [(oh, .inr (5, [.ref oq_letters, .int o_bytes, .int z10.1, .int z10.2])), (oq_letters, .inl (cI, 120, .inl o_letters)), (bh, .inr (4, [.int b_told, .int b_wax, .int b_stick, .int b_givers, .int b_promises, .int b_pan, .ref bq_keeping, .ref bq_giverOf, .ref bq_deedOf, .ref bq_dayOf, .ref bq_likelyOf, .ref bq_kindOf, .ref bq_settledOf])), (bq_keeping, .inl (cI, 4, .inl b_keeping)), (bq_giverOf, .inl (cI, 8, .inl (upd b_giverOf b_promises.toNatClampNeg z2.1))), (bq_deedOf, .inl (cI, 8, .inl (upd b_deedOf b_promises.toNatClampNeg z5.1))), (bq_dayOf, .inl (cI, 8, .inl (upd b_dayOf b_promises.toNatClampNeg z8.1))), (bq_likelyOf, .inl (cI, 8, .inl b_likelyOf)), (bq_kindOf, .inl (cI, 8, .inl (upd b_kindOf b_promises.toNatClampNeg p2))), (bq_settledOf, .inl (cI, 8, .inl b_settledOf))]) ⟨hx, hb, hml, hown, hts⟩ (k_X5_takeSign l dC dI cI cZ cS cG oh oq_letters o_letters o_bytes z8.2.1 z8.2.2 (44 : Int32) z10 hz10) (cwV 1 hts gX5_readPromise_X5_takeSign rfl rfl rfl (by decide +kernel) ⟨Nat.le_of_ble_eq_true rfl, Nat.le_of_ble_eq_true rfl⟩) hE hP hD hA hS [0, 1] rfl rfl 5 0 rfl rfl rfl rfl rfl rfl rfl hl.1 (Nat.le_of_ble_eq_true rfl) dX5_readPromise_79 (fun H locs hP hD hS => ?_)
  refine lv_aload_n hx hb dX5_readPromise_82 rfl (lv_at hl 2 rfl) ?_
  refine va_get (D := (dC, dI)) (ci := 4) (v := .ref bq_likelyOf) (C := RX4) (T := TX4) (N := 13) hx hb hts hin4 hown hK hP 2 rfl rfl 10 (by decide) k90 (fun _ h9 => h9) rfl dX5_readPromise_83 ?_
  refine lv_iload_n hx hb dX5_readPromise_86 rfl (lv_at hl 0 rfl) ?_
  refine lv_aload_n hx hb dX5_readPromise_87 rfl (lv_at hl 1 rfl) ?_
  refine lv_iconst (v := 0) hx hb dX5_readPromise_88 (by decide) ?_
  refine lv_bipush (v := 20) hx hb dX5_readPromise_89 (by decide) ?_
  obtain ⟨z11, hz11, hf⟩ := bs_b hf
  refine bs_cVi (ws1 := [(oh, .inr (5, [.ref oq_letters, .int o_bytes, .int z11.2.1, .int z11.2.2])), (oq_letters, .inl (cI, 120, .inl o_letters)), (bh, .inr (4, [.int b_told, .int b_wax, .int b_stick, .int b_givers, .int b_promises, .int b_pan, .ref bq_keeping, .ref bq_giverOf, .ref bq_deedOf, .ref bq_dayOf, .ref bq_likelyOf, .ref bq_kindOf, .ref bq_settledOf])), (bq_keeping, .inl (cI, 4, .inl b_keeping)), (bq_giverOf, .inl (cI, 8, .inl (upd b_giverOf b_promises.toNatClampNeg z2.1))), (bq_deedOf, .inl (cI, 8, .inl (upd b_deedOf b_promises.toNatClampNeg z5.1))), (bq_dayOf, .inl (cI, 8, .inl (upd b_dayOf b_promises.toNatClampNeg z8.1))), (bq_likelyOf, .inl (cI, 8, .inl b_likelyOf)), (bq_kindOf, .inl (cI, 8, .inl (upd b_kindOf b_promises.toNatClampNeg p2))), (bq_settledOf, .inl (cI, 8, .inl b_settledOf))]) ⟨hx, hb, hml, hown, hts⟩ (k_X5_takeNumber l dC dI cI cZ cS cG oh oq_letters o_letters o_bytes z10.1 z10.2 (0 : Int32) (20 : Int32) z11 hz11) (cwV 2 hts gX5_readPromise_X5_takeNumber rfl rfl rfl (by decide +kernel) ⟨Nat.le_of_ble_eq_true rfl, Nat.le_of_ble_eq_true rfl⟩) hE hP hD hA hS [0, 1] rfl rfl 5 0 rfl rfl rfl rfl rfl rfl rfl hl.1 (Nat.le_of_ble_eq_true rfl) dX5_readPromise_91 (fun H locs hP hD hS => ?_)
  obtain ⟨g12, hf⟩ := bs_g hf
  refine va_iast hx hb hK hP hD hS 7 0 rfl rfl (bs_inV g12) dX5_readPromise_94 (fun H locs hP hD hS => ?_)
  have hP : va_P (dC, dI) vwCl ([(oh, .inr (5, [.ref oq_letters, .int o_bytes, .int z11.2.1, .int z11.2.2])), (oq_letters, .inl (cI, 120, .inl o_letters)), (bh, .inr (4, [.int b_told, .int b_wax, .int b_stick, .int b_givers, .int b_promises, .int b_pan, .ref bq_keeping, .ref bq_giverOf, .ref bq_deedOf, .ref bq_dayOf, .ref bq_likelyOf, .ref bq_kindOf, .ref bq_settledOf])), (bq_keeping, .inl (cI, 4, .inl b_keeping)), (bq_giverOf, .inl (cI, 8, .inl (upd b_giverOf b_promises.toNatClampNeg z2.1))), (bq_deedOf, .inl (cI, 8, .inl (upd b_deedOf b_promises.toNatClampNeg z5.1))), (bq_dayOf, .inl (cI, 8, .inl (upd b_dayOf b_promises.toNatClampNeg z8.1))), (bq_likelyOf, .inl (cI, 8, .inl (upd b_likelyOf b_promises.toNatClampNeg z11.1))), (bq_kindOf, .inl (cI, 8, .inl (upd b_kindOf b_promises.toNatClampNeg p2))), (bq_settledOf, .inl (cI, 8, .inl b_settledOf))]) H := hP
  have hD : va_D A ([(oh, .inr (5, [.ref oq_letters, .int o_bytes, .int z11.2.1, .int z11.2.2])), (oq_letters, .inl (cI, 120, .inl o_letters)), (bh, .inr (4, [.int b_told, .int b_wax, .int b_stick, .int b_givers, .int b_promises, .int b_pan, .ref bq_keeping, .ref bq_giverOf, .ref bq_deedOf, .ref bq_dayOf, .ref bq_likelyOf, .ref bq_kindOf, .ref bq_settledOf])), (bq_keeping, .inl (cI, 4, .inl b_keeping)), (bq_giverOf, .inl (cI, 8, .inl (upd b_giverOf b_promises.toNatClampNeg z2.1))), (bq_deedOf, .inl (cI, 8, .inl (upd b_deedOf b_promises.toNatClampNeg z5.1))), (bq_dayOf, .inl (cI, 8, .inl (upd b_dayOf b_promises.toNatClampNeg z8.1))), (bq_likelyOf, .inl (cI, 8, .inl (upd b_likelyOf b_promises.toNatClampNeg z11.1))), (bq_kindOf, .inl (cI, 8, .inl (upd b_kindOf b_promises.toNatClampNeg p2))), (bq_settledOf, .inl (cI, 8, .inl b_settledOf))]) := hD
  refine lv_aload_n hx hb dX5_readPromise_95 rfl (lv_at hl 1 rfl) ?_
  refine lv_bipush (v := 59) hx hb dX5_readPromise_96 (by decide) ?_
  obtain ⟨z13, hz13, hf⟩ := bs_b hf
  refine bs_cVv (ws1 := [(oh, .inr (5, [.ref oq_letters, .int o_bytes, .int z13.1, .int z13.2])), (oq_letters, .inl (cI, 120, .inl o_letters)), (bh, .inr (4, [.int b_told, .int b_wax, .int b_stick, .int b_givers, .int b_promises, .int b_pan, .ref bq_keeping, .ref bq_giverOf, .ref bq_deedOf, .ref bq_dayOf, .ref bq_likelyOf, .ref bq_kindOf, .ref bq_settledOf])), (bq_keeping, .inl (cI, 4, .inl b_keeping)), (bq_giverOf, .inl (cI, 8, .inl (upd b_giverOf b_promises.toNatClampNeg z2.1))), (bq_deedOf, .inl (cI, 8, .inl (upd b_deedOf b_promises.toNatClampNeg z5.1))), (bq_dayOf, .inl (cI, 8, .inl (upd b_dayOf b_promises.toNatClampNeg z8.1))), (bq_likelyOf, .inl (cI, 8, .inl (upd b_likelyOf b_promises.toNatClampNeg z11.1))), (bq_kindOf, .inl (cI, 8, .inl (upd b_kindOf b_promises.toNatClampNeg p2))), (bq_settledOf, .inl (cI, 8, .inl b_settledOf))]) ⟨hx, hb, hml, hown, hts⟩ (k_X5_takeSign l dC dI cI cZ cS cG oh oq_letters o_letters o_bytes z11.2.1 z11.2.2 (59 : Int32) z13 hz13) (cwV 1 hts gX5_readPromise_X5_takeSign rfl rfl rfl (by decide +kernel) ⟨Nat.le_of_ble_eq_true rfl, Nat.le_of_ble_eq_true rfl⟩) hE hP hD hA hS [0, 1] rfl rfl 5 0 rfl rfl rfl rfl rfl rfl rfl hl.1 (Nat.le_of_ble_eq_true rfl) dX5_readPromise_98 (fun H locs hP hD hS => ?_)
  refine lv_aload_n hx hb dX5_readPromise_101 rfl (lv_at hl 2 rfl) ?_
  refine lv_dup hx hb dX5_readPromise_102 rfl ?_
  refine va_get (D := (dC, dI)) (ci := 4) (v := .int b_promises) (C := RX4) (T := TX4) (N := 13) hx hb hts hin4 hown hK hP 2 rfl rfl 4 (by decide) k60 (fun _ h9 => h9) rfl dX5_readPromise_103 ?_
  refine lv_iconst (v := 1) hx hb dX5_readPromise_106 (by decide) ?_
  refine lv_iadd hx hb dX5_readPromise_107 ?_
  refine va_put (D := (dC, dI)) (ci := 4) (v := .int (b_promises + 1)) (ty := .int) (C := RX4) (T := TX4) (N := 13) hx hb hts hin4 tyX4 tyX4_ok nmX4 hown hK hP hD hS 2 rfl rfl 4 (by decide) k60 (fun _ h9 => h9) rfl (by decide +kernel) rfl rfl (Nat.le_of_ble_eq_true rfl) dX5_readPromise_108 (fun H locs hP hD hS => ?_)
  have hP : va_P (dC, dI) vwCl ([(oh, .inr (5, [.ref oq_letters, .int o_bytes, .int z13.1, .int z13.2])), (oq_letters, .inl (cI, 120, .inl o_letters)), (bh, .inr (4, [.int b_told, .int b_wax, .int b_stick, .int b_givers, .int (b_promises + 1), .int b_pan, .ref bq_keeping, .ref bq_giverOf, .ref bq_deedOf, .ref bq_dayOf, .ref bq_likelyOf, .ref bq_kindOf, .ref bq_settledOf])), (bq_keeping, .inl (cI, 4, .inl b_keeping)), (bq_giverOf, .inl (cI, 8, .inl (upd b_giverOf b_promises.toNatClampNeg z2.1))), (bq_deedOf, .inl (cI, 8, .inl (upd b_deedOf b_promises.toNatClampNeg z5.1))), (bq_dayOf, .inl (cI, 8, .inl (upd b_dayOf b_promises.toNatClampNeg z8.1))), (bq_likelyOf, .inl (cI, 8, .inl (upd b_likelyOf b_promises.toNatClampNeg z11.1))), (bq_kindOf, .inl (cI, 8, .inl (upd b_kindOf b_promises.toNatClampNeg p2))), (bq_settledOf, .inl (cI, 8, .inl b_settledOf))]) H := hP
  have hD : va_D A ([(oh, .inr (5, [.ref oq_letters, .int o_bytes, .int z13.1, .int z13.2])), (oq_letters, .inl (cI, 120, .inl o_letters)), (bh, .inr (4, [.int b_told, .int b_wax, .int b_stick, .int b_givers, .int (b_promises + 1), .int b_pan, .ref bq_keeping, .ref bq_giverOf, .ref bq_deedOf, .ref bq_dayOf, .ref bq_likelyOf, .ref bq_kindOf, .ref bq_settledOf])), (bq_keeping, .inl (cI, 4, .inl b_keeping)), (bq_giverOf, .inl (cI, 8, .inl (upd b_giverOf b_promises.toNatClampNeg z2.1))), (bq_deedOf, .inl (cI, 8, .inl (upd b_deedOf b_promises.toNatClampNeg z5.1))), (bq_dayOf, .inl (cI, 8, .inl (upd b_dayOf b_promises.toNatClampNeg z8.1))), (bq_likelyOf, .inl (cI, 8, .inl (upd b_likelyOf b_promises.toNatClampNeg z11.1))), (bq_kindOf, .inl (cI, 8, .inl (upd b_kindOf b_promises.toNatClampNeg p2))), (bq_settledOf, .inl (cI, 8, .inl b_settledOf))]) := hD
  obtain rfl := Option.some.inj hf
  exact hret H locs _ _ hP hS dX5_readPromise_111
set_option maxHeartbeats 4000000 in
set_option maxRecDepth 100000 in
theorem k_X5_readPart (l : Launch) (dC : Nat → ClassId) (dI : Nat → Nat → Nat) (cI cZ cS cG : ClassId) (oh : Nat) (oq_letters : Nat) (bh : Nat) (bq_keeping : Nat) (bq_giverOf : Nat) (bq_deedOf : Nat) (bq_dayOf : Nat) (bq_likelyOf : Nat) (bq_kindOf : Nat) (bq_settledOf : Nat) (o_letters : Nat → Int32) (o_bytes : Int32) (o_at : Int32) (o_faultMet : Int32) (b_told : Int32) (b_wax : Int32) (b_stick : Int32) (b_givers : Int32) (b_promises : Int32) (b_pan : Int32) (b_keeping : Nat → Int32) (b_giverOf : Nat → Int32) (b_deedOf : Nat → Int32) (b_dayOf : Nat → Int32) (b_likelyOf : Nat → Int32) (b_kindOf : Nat → Int32) (b_settledOf : Nat → Int32) (p2 : Int32) (out : Int32 × Int32 × Int32 × Int32 × (Nat → Int32) × (Nat → Int32) × (Nat → Int32) × (Nat → Int32) × (Nat → Int32) × (Nat → Int32)) (hf : f_X5_readPart o_letters o_bytes o_at o_faultMet b_givers b_promises b_keeping b_giverOf b_deedOf b_dayOf b_likelyOf b_kindOf p2 = some out) : bs_CV l dC dI cI cZ cS cG yX5_readPart wsX5_readPart ({ frames := 3, cells := 0, slots := 0, locals := 70 } : Room) [.ref oh, .ref bh, .int p2] ([(oh, .inr (5, [.ref oq_letters, .int o_bytes, .int o_at, .int o_faultMet])), (oq_letters, .inl (cI, 120, .inl o_letters)), (bh, .inr (4, [.int b_told, .int b_wax, .int b_stick, .int b_givers, .int b_promises, .int b_pan, .ref bq_keeping, .ref bq_giverOf, .ref bq_deedOf, .ref bq_dayOf, .ref bq_likelyOf, .ref bq_kindOf, .ref bq_settledOf])), (bq_keeping, .inl (cI, 4, .inl b_keeping)), (bq_giverOf, .inl (cI, 8, .inl b_giverOf)), (bq_deedOf, .inl (cI, 8, .inl b_deedOf)), (bq_dayOf, .inl (cI, 8, .inl b_dayOf)), (bq_likelyOf, .inl (cI, 8, .inl b_likelyOf)), (bq_kindOf, .inl (cI, 8, .inl b_kindOf)), (bq_settledOf, .inl (cI, 8, .inl b_settledOf))]) ([(oh, .inr (5, [.ref oq_letters, .int o_bytes, .int out.1, .int out.2.1])), (oq_letters, .inl (cI, 120, .inl o_letters)), (bh, .inr (4, [.int b_told, .int b_wax, .int b_stick, .int out.2.2.1, .int out.2.2.2.1, .int b_pan, .ref bq_keeping, .ref bq_giverOf, .ref bq_deedOf, .ref bq_dayOf, .ref bq_likelyOf, .ref bq_kindOf, .ref bq_settledOf])), (bq_keeping, .inl (cI, 4, .inl out.2.2.2.2.1)), (bq_giverOf, .inl (cI, 8, .inl out.2.2.2.2.2.1)), (bq_deedOf, .inl (cI, 8, .inl out.2.2.2.2.2.2.1)), (bq_dayOf, .inl (cI, 8, .inl out.2.2.2.2.2.2.2.1)), (bq_likelyOf, .inl (cI, 8, .inl out.2.2.2.2.2.2.2.2.1)), (bq_kindOf, .inl (cI, 8, .inl out.2.2.2.2.2.2.2.2.2)), (bq_settledOf, .inl (cI, 8, .inl b_settledOf))]) := by
  refine bs_ofV (cc := cX5_readPart) (maxL := 5) (by decide) rfl (Nat.le_of_ble_eq_true rfl) ?_
  intro p e s m below meth c A Q hx hb hown hml hts hE H locs hP hD hA hS ls hl hret
  have hK := hE.1
  have hl : lv_has ls 5 [(0, .ref oh), (1, .ref bh), (2, .int p2)] := hl
  have hin4 : ∀ w ∈ u_ws RX4 TX4 13, w ∈ wsX5_readPart := by decide +kernel
  have k60 := hts (.fieldLink RX5 60 "PromiseScales$Scales" "promises" "I") (by decide +kernel)
  have k66 := hts (.fieldLink RX5 66 "PromiseScales$Scales" "givers" "I") (by decide +kernel)
  unfold f_X5_readPart at hf
  refine lv_iload_n hx hb dX5_readPart_0 rfl (lv_at hl 2 rfl) ?_
  obtain ⟨z1, hz1, hf⟩ := bs_b hf
  refine bs_cSi ⟨hx, hb, hml, hown, hts⟩ (k_X5_kindOfSort l dC dI cI cZ cS cG p2 z1 hz1) (va_cwS 1 hts gX5_readPart_X5_kindOfSort rfl rfl rfl (by decide +kernel) ⟨Nat.le_of_ble_eq_true rfl, Nat.le_of_ble_eq_true rfl⟩) hE hP hD hA hS rfl rfl hl.1 (Nat.le_of_ble_eq_true rfl) dX5_readPart_1 (fun H locs hP hS => ?_)
  refine lv_istore_n (lv' := [(3, .int z1), (0, .ref oh), (1, .ref bh), (2, .int p2)]) hx hb dX5_readPart_4 rfl hl (by decide) rfl (fun ls hl => ?_)
  refine lv_iload_n hx hb dX5_readPart_5 rfl (lv_at hl 3 rfl) ?_
  refine lv_bipush (v := 103) hx hb dX5_readPart_6 (by decide) ?_
  refine lv_icmp_ne (tgt := 22) hx hb dX5_readPart_8 (by decide) (fun c2 => ?_) (fun c2 => ?_)
  · have hf := bs_f hf c2
    refine lv_iconst (v := 0) hx hb dX5_readPart_22 (by decide) ?_
    refine lv_istore (lv' := [(4, .int 0), (3, .int z1), (0, .ref oh), (1, .ref bh), (2, .int p2)]) hx hb dX5_readPart_23 hl (by decide) rfl (fun ls hl => ?_)
    refine lv_iload hx hb dX5_readPart_25 (lv_at hl 0 rfl) ?_
    refine lv_if_ne (tgt := 42) hx hb dX5_readPart_27 (by decide) (fun c9 => absurd (by decide) c9) (fun _ => ?_)
    refine lv_iload_n hx hb dX5_readPart_30 rfl (lv_at hl 1 rfl) ?_
    refine lv_if_ne (tgt := 42) hx hb dX5_readPart_31 (by decide) (fun c3 => ?_) (fun c3 => ?_)
    · have hf := bs_f hf c3
      refine lv_iload hx hb dX5_readPart_42 (lv_at hl 0 rfl) ?_
      refine lv_if_eq (tgt := 58) hx hb dX5_readPart_44 (by decide) (fun _ => ?_) (fun c9 => absurd (by decide) c9)
      refine lv_aload_n hx hb dX5_readPart_58 rfl (lv_at hl 3 rfl) ?_
      refine va_get (D := (dC, dI)) (ci := 4) (v := .int b_promises) (C := RX4) (T := TX4) (N := 13) hx hb hts hin4 hown hK hP 2 rfl rfl 4 (by decide) k60 (fun _ h9 => h9) rfl dX5_readPart_59 ?_
      refine lv_bipush (v := 8) hx hb dX5_readPart_62 (by decide) ?_
      refine lv_icmp_lt (tgt := 75) hx hb dX5_readPart_64 (by decide) (fun c4 => ?_) (fun c4 => ?_)
      · have hf := bs_t hf c4
        refine lv_iload hx hb dX5_readPart_75 (lv_at hl 0 rfl) ?_
        refine lv_if_eq (tgt := 88) hx hb dX5_readPart_77 (by decide) (fun _ => ?_) (fun c9 => absurd (by decide) c9)
        refine lv_aload_n hx hb dX5_readPart_88 rfl (lv_at hl 2 rfl) ?_
        refine lv_aload_n hx hb dX5_readPart_89 rfl (lv_at hl 3 rfl) ?_
        refine lv_iload_n hx hb dX5_readPart_90 rfl (lv_at hl 1 rfl) ?_
        obtain ⟨z5, hz5, hf⟩ := bs_b hf
        refine bs_cVv (ws1 := [(oh, .inr (5, [.ref oq_letters, .int o_bytes, .int z5.1, .int z5.2.1])), (oq_letters, .inl (cI, 120, .inl o_letters)), (bh, .inr (4, [.int b_told, .int b_wax, .int b_stick, .int b_givers, .int z5.2.2.1, .int b_pan, .ref bq_keeping, .ref bq_giverOf, .ref bq_deedOf, .ref bq_dayOf, .ref bq_likelyOf, .ref bq_kindOf, .ref bq_settledOf])), (bq_keeping, .inl (cI, 4, .inl b_keeping)), (bq_giverOf, .inl (cI, 8, .inl z5.2.2.2.1)), (bq_deedOf, .inl (cI, 8, .inl z5.2.2.2.2.1)), (bq_dayOf, .inl (cI, 8, .inl z5.2.2.2.2.2.1)), (bq_likelyOf, .inl (cI, 8, .inl z5.2.2.2.2.2.2.1)), (bq_kindOf, .inl (cI, 8, .inl z5.2.2.2.2.2.2.2)), (bq_settledOf, .inl (cI, 8, .inl b_settledOf))]) ⟨hx, hb, hml, hown, hts⟩ (k_X5_readPromise l dC dI cI cZ cS cG oh oq_letters bh bq_keeping bq_giverOf bq_deedOf bq_dayOf bq_likelyOf bq_kindOf bq_settledOf o_letters o_bytes o_at o_faultMet b_told b_wax b_stick b_givers b_promises b_pan b_keeping b_giverOf b_deedOf b_dayOf b_likelyOf b_kindOf b_settledOf z1 z5 hz5) (cwV 2 hts gX5_readPart_X5_readPromise rfl rfl rfl (by decide +kernel) ⟨Nat.le_of_ble_eq_true rfl, Nat.le_of_ble_eq_true rfl⟩) hE hP hD hA hS [0, 1, 2, 3, 4, 5, 6, 7, 8, 9] rfl rfl 5 0 rfl rfl rfl rfl rfl rfl rfl hl.1 (Nat.le_of_ble_eq_true rfl) dX5_readPart_91 (fun H locs hP hD hS => ?_)
        obtain rfl := Option.some.inj hf
        exact hret H locs _ _ hP hS dX5_readPart_94
      · have hf := bs_f hf c4
        refine lv_aload_n hx hb dX5_readPart_67 rfl (lv_at hl 2 rfl) ?_
        refine lv_iconst (v := 3) hx hb dX5_readPart_68 (by decide) ?_
        obtain ⟨z6, hz6, hf⟩ := bs_b hf
        refine bs_cVv (ws1 := [(oh, .inr (5, [.ref oq_letters, .int o_bytes, .int o_at, .int z6])), (oq_letters, .inl (cI, 120, .inl o_letters)), (bh, .inr (4, [.int b_told, .int b_wax, .int b_stick, .int b_givers, .int b_promises, .int b_pan, .ref bq_keeping, .ref bq_giverOf, .ref bq_deedOf, .ref bq_dayOf, .ref bq_likelyOf, .ref bq_kindOf, .ref bq_settledOf])), (bq_keeping, .inl (cI, 4, .inl b_keeping)), (bq_giverOf, .inl (cI, 8, .inl b_giverOf)), (bq_deedOf, .inl (cI, 8, .inl b_deedOf)), (bq_dayOf, .inl (cI, 8, .inl b_dayOf)), (bq_likelyOf, .inl (cI, 8, .inl b_likelyOf)), (bq_kindOf, .inl (cI, 8, .inl b_kindOf)), (bq_settledOf, .inl (cI, 8, .inl b_settledOf))]) ⟨hx, hb, hml, hown, hts⟩ (k_X5_meet l dC dI cI cZ cS cG oh oq_letters o_letters o_bytes o_at o_faultMet (3 : Int32) z6 hz6) (cwV 1 hts gX5_readPart_X5_meet rfl rfl rfl (by decide +kernel) ⟨Nat.le_of_ble_eq_true rfl, Nat.le_of_ble_eq_true rfl⟩) hE hP hD hA hS [0, 1] rfl rfl 5 0 rfl rfl rfl rfl rfl rfl rfl hl.1 (Nat.le_of_ble_eq_true rfl) dX5_readPart_69 (fun H locs hP hD hS => ?_)
        refine lv_goto (tgt := 94) hx hb dX5_readPart_72 (by decide) ?_
        obtain rfl := Option.some.inj hf
        exact hret H locs _ _ hP hS dX5_readPart_94
    · have hf := bs_t hf c3
      refine lv_aload_n hx hb dX5_readPart_34 rfl (lv_at hl 2 rfl) ?_
      refine lv_iconst (v := 1) hx hb dX5_readPart_35 (by decide) ?_
      obtain ⟨z7, hz7, hf⟩ := bs_b hf
      refine bs_cVv (ws1 := [(oh, .inr (5, [.ref oq_letters, .int o_bytes, .int o_at, .int z7])), (oq_letters, .inl (cI, 120, .inl o_letters)), (bh, .inr (4, [.int b_told, .int b_wax, .int b_stick, .int b_givers, .int b_promises, .int b_pan, .ref bq_keeping, .ref bq_giverOf, .ref bq_deedOf, .ref bq_dayOf, .ref bq_likelyOf, .ref bq_kindOf, .ref bq_settledOf])), (bq_keeping, .inl (cI, 4, .inl b_keeping)), (bq_giverOf, .inl (cI, 8, .inl b_giverOf)), (bq_deedOf, .inl (cI, 8, .inl b_deedOf)), (bq_dayOf, .inl (cI, 8, .inl b_dayOf)), (bq_likelyOf, .inl (cI, 8, .inl b_likelyOf)), (bq_kindOf, .inl (cI, 8, .inl b_kindOf)), (bq_settledOf, .inl (cI, 8, .inl b_settledOf))]) ⟨hx, hb, hml, hown, hts⟩ (k_X5_meet l dC dI cI cZ cS cG oh oq_letters o_letters o_bytes o_at o_faultMet (1 : Int32) z7 hz7) (cwV 1 hts gX5_readPart_X5_meet rfl rfl rfl (by decide +kernel) ⟨Nat.le_of_ble_eq_true rfl, Nat.le_of_ble_eq_true rfl⟩) hE hP hD hA hS [0, 1] rfl rfl 5 0 rfl rfl rfl rfl rfl rfl rfl hl.1 (Nat.le_of_ble_eq_true rfl) dX5_readPart_36 (fun H locs hP hD hS => ?_)
      refine lv_goto (tgt := 94) hx hb dX5_readPart_39 (by decide) ?_
      obtain rfl := Option.some.inj hf
      exact hret H locs _ _ hP hS dX5_readPart_94
  · have hf := bs_t hf c2
    refine lv_aload_n hx hb dX5_readPart_11 rfl (lv_at hl 2 rfl) ?_
    refine va_get (D := (dC, dI)) (ci := 4) (v := .int b_promises) (C := RX4) (T := TX4) (N := 13) hx hb hts hin4 hown hK hP 2 rfl rfl 4 (by decide) k60 (fun _ h9 => h9) rfl dX5_readPart_12 ?_
    refine lv_if_ne (tgt := 22) hx hb dX5_readPart_15 (by decide) (fun c8 => ?_) (fun c8 => ?_)
    · have hf := bs_f hf c8
      refine lv_iconst (v := 0) hx hb dX5_readPart_22 (by decide) ?_
      refine lv_istore (lv' := [(4, .int 0), (3, .int z1), (0, .ref oh), (1, .ref bh), (2, .int p2)]) hx hb dX5_readPart_23 hl (by decide) rfl (fun ls hl => ?_)
      refine lv_iload hx hb dX5_readPart_25 (lv_at hl 0 rfl) ?_
      refine lv_if_ne (tgt := 42) hx hb dX5_readPart_27 (by decide) (fun c9 => absurd (by decide) c9) (fun _ => ?_)
      refine lv_iload_n hx hb dX5_readPart_30 rfl (lv_at hl 1 rfl) ?_
      refine lv_if_ne (tgt := 42) hx hb dX5_readPart_31 (by decide) (fun c9 => ?_) (fun c9 => ?_)
      · have hf := bs_f hf c9
        refine lv_iload hx hb dX5_readPart_42 (lv_at hl 0 rfl) ?_
        refine lv_if_eq (tgt := 58) hx hb dX5_readPart_44 (by decide) (fun _ => ?_) (fun c9 => absurd (by decide) c9)
        refine lv_aload_n hx hb dX5_readPart_58 rfl (lv_at hl 3 rfl) ?_
        refine va_get (D := (dC, dI)) (ci := 4) (v := .int b_promises) (C := RX4) (T := TX4) (N := 13) hx hb hts hin4 hown hK hP 2 rfl rfl 4 (by decide) k60 (fun _ h9 => h9) rfl dX5_readPart_59 ?_
        refine lv_bipush (v := 8) hx hb dX5_readPart_62 (by decide) ?_
        refine lv_icmp_lt (tgt := 75) hx hb dX5_readPart_64 (by decide) (fun c10 => ?_) (fun c10 => ?_)
        · have hf := bs_t hf c10
          refine lv_iload hx hb dX5_readPart_75 (lv_at hl 0 rfl) ?_
          refine lv_if_eq (tgt := 88) hx hb dX5_readPart_77 (by decide) (fun _ => ?_) (fun c9 => absurd (by decide) c9)
          refine lv_aload_n hx hb dX5_readPart_88 rfl (lv_at hl 2 rfl) ?_
          refine lv_aload_n hx hb dX5_readPart_89 rfl (lv_at hl 3 rfl) ?_
          refine lv_iload_n hx hb dX5_readPart_90 rfl (lv_at hl 1 rfl) ?_
          obtain ⟨z11, hz11, hf⟩ := bs_b hf
          refine bs_cVv (ws1 := [(oh, .inr (5, [.ref oq_letters, .int o_bytes, .int z11.1, .int z11.2.1])), (oq_letters, .inl (cI, 120, .inl o_letters)), (bh, .inr (4, [.int b_told, .int b_wax, .int b_stick, .int b_givers, .int z11.2.2.1, .int b_pan, .ref bq_keeping, .ref bq_giverOf, .ref bq_deedOf, .ref bq_dayOf, .ref bq_likelyOf, .ref bq_kindOf, .ref bq_settledOf])), (bq_keeping, .inl (cI, 4, .inl b_keeping)), (bq_giverOf, .inl (cI, 8, .inl z11.2.2.2.1)), (bq_deedOf, .inl (cI, 8, .inl z11.2.2.2.2.1)), (bq_dayOf, .inl (cI, 8, .inl z11.2.2.2.2.2.1)), (bq_likelyOf, .inl (cI, 8, .inl z11.2.2.2.2.2.2.1)), (bq_kindOf, .inl (cI, 8, .inl z11.2.2.2.2.2.2.2)), (bq_settledOf, .inl (cI, 8, .inl b_settledOf))]) ⟨hx, hb, hml, hown, hts⟩ (k_X5_readPromise l dC dI cI cZ cS cG oh oq_letters bh bq_keeping bq_giverOf bq_deedOf bq_dayOf bq_likelyOf bq_kindOf bq_settledOf o_letters o_bytes o_at o_faultMet b_told b_wax b_stick b_givers b_promises b_pan b_keeping b_giverOf b_deedOf b_dayOf b_likelyOf b_kindOf b_settledOf z1 z11 hz11) (cwV 2 hts gX5_readPart_X5_readPromise rfl rfl rfl (by decide +kernel) ⟨Nat.le_of_ble_eq_true rfl, Nat.le_of_ble_eq_true rfl⟩) hE hP hD hA hS [0, 1, 2, 3, 4, 5, 6, 7, 8, 9] rfl rfl 5 0 rfl rfl rfl rfl rfl rfl rfl hl.1 (Nat.le_of_ble_eq_true rfl) dX5_readPart_91 (fun H locs hP hD hS => ?_)
          obtain rfl := Option.some.inj hf
          exact hret H locs _ _ hP hS dX5_readPart_94
        · have hf := bs_f hf c10
          refine lv_aload_n hx hb dX5_readPart_67 rfl (lv_at hl 2 rfl) ?_
          refine lv_iconst (v := 3) hx hb dX5_readPart_68 (by decide) ?_
          obtain ⟨z12, hz12, hf⟩ := bs_b hf
          refine bs_cVv (ws1 := [(oh, .inr (5, [.ref oq_letters, .int o_bytes, .int o_at, .int z12])), (oq_letters, .inl (cI, 120, .inl o_letters)), (bh, .inr (4, [.int b_told, .int b_wax, .int b_stick, .int b_givers, .int b_promises, .int b_pan, .ref bq_keeping, .ref bq_giverOf, .ref bq_deedOf, .ref bq_dayOf, .ref bq_likelyOf, .ref bq_kindOf, .ref bq_settledOf])), (bq_keeping, .inl (cI, 4, .inl b_keeping)), (bq_giverOf, .inl (cI, 8, .inl b_giverOf)), (bq_deedOf, .inl (cI, 8, .inl b_deedOf)), (bq_dayOf, .inl (cI, 8, .inl b_dayOf)), (bq_likelyOf, .inl (cI, 8, .inl b_likelyOf)), (bq_kindOf, .inl (cI, 8, .inl b_kindOf)), (bq_settledOf, .inl (cI, 8, .inl b_settledOf))]) ⟨hx, hb, hml, hown, hts⟩ (k_X5_meet l dC dI cI cZ cS cG oh oq_letters o_letters o_bytes o_at o_faultMet (3 : Int32) z12 hz12) (cwV 1 hts gX5_readPart_X5_meet rfl rfl rfl (by decide +kernel) ⟨Nat.le_of_ble_eq_true rfl, Nat.le_of_ble_eq_true rfl⟩) hE hP hD hA hS [0, 1] rfl rfl 5 0 rfl rfl rfl rfl rfl rfl rfl hl.1 (Nat.le_of_ble_eq_true rfl) dX5_readPart_69 (fun H locs hP hD hS => ?_)
          refine lv_goto (tgt := 94) hx hb dX5_readPart_72 (by decide) ?_
          obtain rfl := Option.some.inj hf
          exact hret H locs _ _ hP hS dX5_readPart_94
      · have hf := bs_t hf c9
        refine lv_aload_n hx hb dX5_readPart_34 rfl (lv_at hl 2 rfl) ?_
        refine lv_iconst (v := 1) hx hb dX5_readPart_35 (by decide) ?_
        obtain ⟨z13, hz13, hf⟩ := bs_b hf
        refine bs_cVv (ws1 := [(oh, .inr (5, [.ref oq_letters, .int o_bytes, .int o_at, .int z13])), (oq_letters, .inl (cI, 120, .inl o_letters)), (bh, .inr (4, [.int b_told, .int b_wax, .int b_stick, .int b_givers, .int b_promises, .int b_pan, .ref bq_keeping, .ref bq_giverOf, .ref bq_deedOf, .ref bq_dayOf, .ref bq_likelyOf, .ref bq_kindOf, .ref bq_settledOf])), (bq_keeping, .inl (cI, 4, .inl b_keeping)), (bq_giverOf, .inl (cI, 8, .inl b_giverOf)), (bq_deedOf, .inl (cI, 8, .inl b_deedOf)), (bq_dayOf, .inl (cI, 8, .inl b_dayOf)), (bq_likelyOf, .inl (cI, 8, .inl b_likelyOf)), (bq_kindOf, .inl (cI, 8, .inl b_kindOf)), (bq_settledOf, .inl (cI, 8, .inl b_settledOf))]) ⟨hx, hb, hml, hown, hts⟩ (k_X5_meet l dC dI cI cZ cS cG oh oq_letters o_letters o_bytes o_at o_faultMet (1 : Int32) z13 hz13) (cwV 1 hts gX5_readPart_X5_meet rfl rfl rfl (by decide +kernel) ⟨Nat.le_of_ble_eq_true rfl, Nat.le_of_ble_eq_true rfl⟩) hE hP hD hA hS [0, 1] rfl rfl 5 0 rfl rfl rfl rfl rfl rfl rfl hl.1 (Nat.le_of_ble_eq_true rfl) dX5_readPart_36 (fun H locs hP hD hS => ?_)
        refine lv_goto (tgt := 94) hx hb dX5_readPart_39 (by decide) ?_
        obtain rfl := Option.some.inj hf
        exact hret H locs _ _ hP hS dX5_readPart_94
    · have hf := bs_t hf c8
      refine lv_iconst (v := 1) hx hb dX5_readPart_18 (by decide) ?_
      refine lv_goto (tgt := 23) hx hb dX5_readPart_19 (by decide) ?_
      refine lv_istore (lv' := [(4, .int 1), (3, .int z1), (0, .ref oh), (1, .ref bh), (2, .int p2)]) hx hb dX5_readPart_23 hl (by decide) rfl (fun ls hl => ?_)
      refine lv_iload hx hb dX5_readPart_25 (lv_at hl 0 rfl) ?_
      refine lv_if_ne (tgt := 42) hx hb dX5_readPart_27 (by decide) (fun _ => ?_) (fun c9 => absurd c9 (by decide))
      refine lv_iload hx hb dX5_readPart_42 (lv_at hl 0 rfl) ?_
      refine lv_if_eq (tgt := 58) hx hb dX5_readPart_44 (by decide) (fun c9 => absurd c9 (by decide)) (fun _ => ?_)
      refine lv_aload_n hx hb dX5_readPart_47 rfl (lv_at hl 3 rfl) ?_
      refine va_get (D := (dC, dI)) (ci := 4) (v := .int b_givers) (C := RX4) (T := TX4) (N := 13) hx hb hts hin4 hown hK hP 2 rfl rfl 3 (by decide) k66 (fun _ h9 => h9) rfl dX5_readPart_48 ?_
      refine lv_iconst (v := 4) hx hb dX5_readPart_51 (by decide) ?_
      refine lv_icmp_lt (tgt := 75) hx hb dX5_readPart_52 (by decide) (fun c14 => ?_) (fun c14 => ?_)
      · have hf := bs_t hf c14
        refine lv_iload hx hb dX5_readPart_75 (lv_at hl 0 rfl) ?_
        refine lv_if_eq (tgt := 88) hx hb dX5_readPart_77 (by decide) (fun c9 => absurd c9 (by decide)) (fun _ => ?_)
        refine lv_aload_n hx hb dX5_readPart_80 rfl (lv_at hl 2 rfl) ?_
        refine lv_aload_n hx hb dX5_readPart_81 rfl (lv_at hl 3 rfl) ?_
        obtain ⟨z15, hz15, hf⟩ := bs_b hf
        refine bs_cVv (ws1 := [(oh, .inr (5, [.ref oq_letters, .int o_bytes, .int z15.1, .int z15.2.1])), (oq_letters, .inl (cI, 120, .inl o_letters)), (bh, .inr (4, [.int b_told, .int b_wax, .int b_stick, .int z15.2.2.1, .int b_promises, .int b_pan, .ref bq_keeping, .ref bq_giverOf, .ref bq_deedOf, .ref bq_dayOf, .ref bq_likelyOf, .ref bq_kindOf, .ref bq_settledOf])), (bq_keeping, .inl (cI, 4, .inl z15.2.2.2)), (bq_giverOf, .inl (cI, 8, .inl b_giverOf)), (bq_deedOf, .inl (cI, 8, .inl b_deedOf)), (bq_dayOf, .inl (cI, 8, .inl b_dayOf)), (bq_likelyOf, .inl (cI, 8, .inl b_likelyOf)), (bq_kindOf, .inl (cI, 8, .inl b_kindOf)), (bq_settledOf, .inl (cI, 8, .inl b_settledOf))]) ⟨hx, hb, hml, hown, hts⟩ (k_X5_readGiver l dC dI cI cZ cS cG oh oq_letters bh bq_keeping bq_giverOf bq_deedOf bq_dayOf bq_likelyOf bq_kindOf bq_settledOf o_letters o_bytes o_at o_faultMet b_told b_wax b_stick b_givers b_promises b_pan b_keeping b_giverOf b_deedOf b_dayOf b_likelyOf b_kindOf b_settledOf z15 hz15) (cwV 1 hts gX5_readPart_X5_readGiver rfl rfl rfl (by decide +kernel) ⟨Nat.le_of_ble_eq_true rfl, Nat.le_of_ble_eq_true rfl⟩) hE hP hD hA hS [0, 1, 2, 3, 4, 5, 6, 7, 8, 9] rfl rfl 5 0 rfl rfl rfl rfl rfl rfl rfl hl.1 (Nat.le_of_ble_eq_true rfl) dX5_readPart_82 (fun H locs hP hD hS => ?_)
        refine lv_goto (tgt := 94) hx hb dX5_readPart_85 (by decide) ?_
        obtain rfl := Option.some.inj hf
        exact hret H locs _ _ hP hS dX5_readPart_94
      · have hf := bs_f hf c14
        refine lv_goto (tgt := 67) hx hb dX5_readPart_55 (by decide) ?_
        refine lv_aload_n hx hb dX5_readPart_67 rfl (lv_at hl 2 rfl) ?_
        refine lv_iconst (v := 3) hx hb dX5_readPart_68 (by decide) ?_
        obtain ⟨z16, hz16, hf⟩ := bs_b hf
        refine bs_cVv (ws1 := [(oh, .inr (5, [.ref oq_letters, .int o_bytes, .int o_at, .int z16])), (oq_letters, .inl (cI, 120, .inl o_letters)), (bh, .inr (4, [.int b_told, .int b_wax, .int b_stick, .int b_givers, .int b_promises, .int b_pan, .ref bq_keeping, .ref bq_giverOf, .ref bq_deedOf, .ref bq_dayOf, .ref bq_likelyOf, .ref bq_kindOf, .ref bq_settledOf])), (bq_keeping, .inl (cI, 4, .inl b_keeping)), (bq_giverOf, .inl (cI, 8, .inl b_giverOf)), (bq_deedOf, .inl (cI, 8, .inl b_deedOf)), (bq_dayOf, .inl (cI, 8, .inl b_dayOf)), (bq_likelyOf, .inl (cI, 8, .inl b_likelyOf)), (bq_kindOf, .inl (cI, 8, .inl b_kindOf)), (bq_settledOf, .inl (cI, 8, .inl b_settledOf))]) ⟨hx, hb, hml, hown, hts⟩ (k_X5_meet l dC dI cI cZ cS cG oh oq_letters o_letters o_bytes o_at o_faultMet (3 : Int32) z16 hz16) (cwV 1 hts gX5_readPart_X5_meet rfl rfl rfl (by decide +kernel) ⟨Nat.le_of_ble_eq_true rfl, Nat.le_of_ble_eq_true rfl⟩) hE hP hD hA hS [0, 1] rfl rfl 5 0 rfl rfl rfl rfl rfl rfl rfl hl.1 (Nat.le_of_ble_eq_true rfl) dX5_readPart_69 (fun H locs hP hD hS => ?_)
        refine lv_goto (tgt := 94) hx hb dX5_readPart_72 (by decide) ?_
        obtain rfl := Option.some.inj hf
        exact hret H locs _ _ hP hS dX5_readPart_94
set_option maxHeartbeats 4000000 in
set_option maxRecDepth 100000 in
theorem k_X5_readInto (l : Launch) (dC : Nat → ClassId) (dI : Nat → Nat → Nat) (cI cZ cS cG : ClassId) (oh : Nat) (oq_letters : Nat) (bh : Nat) (bq_keeping : Nat) (bq_giverOf : Nat) (bq_deedOf : Nat) (bq_dayOf : Nat) (bq_likelyOf : Nat) (bq_kindOf : Nat) (bq_settledOf : Nat) (o_letters : Nat → Int32) (o_bytes : Int32) (o_at : Int32) (o_faultMet : Int32) (b_told : Int32) (b_wax : Int32) (b_stick : Int32) (b_givers : Int32) (b_promises : Int32) (b_pan : Int32) (b_keeping : Nat → Int32) (b_giverOf : Nat → Int32) (b_deedOf : Nat → Int32) (b_dayOf : Nat → Int32) (b_likelyOf : Nat → Int32) (b_kindOf : Nat → Int32) (b_settledOf : Nat → Int32) (out : Int32 × Int32 × Int32 × Int32 × Int32 × Int32 × Int32 × Int32 × Int32 × Int32 × (Nat → Int32) × (Nat → Int32) × (Nat → Int32) × (Nat → Int32) × (Nat → Int32) × (Nat → Int32) × (Nat → Int32)) (hf : f_X5_readInto o_letters o_bytes o_at o_faultMet b_told b_wax b_stick b_givers b_promises b_pan b_keeping b_giverOf b_deedOf b_dayOf b_likelyOf b_kindOf b_settledOf = some out) : bs_C l dC dI cI cZ cS cG yX5_readInto wsX5_readInto ({ frames := 4, cells := 0, slots := 0, locals := 94 } : Room) [.ref oh, .ref bh] ([(oh, .inr (5, [.ref oq_letters, .int o_bytes, .int o_at, .int o_faultMet])), (oq_letters, .inl (cI, 120, .inl o_letters)), (bh, .inr (4, [.int b_told, .int b_wax, .int b_stick, .int b_givers, .int b_promises, .int b_pan, .ref bq_keeping, .ref bq_giverOf, .ref bq_deedOf, .ref bq_dayOf, .ref bq_likelyOf, .ref bq_kindOf, .ref bq_settledOf])), (bq_keeping, .inl (cI, 4, .inl b_keeping)), (bq_giverOf, .inl (cI, 8, .inl b_giverOf)), (bq_deedOf, .inl (cI, 8, .inl b_deedOf)), (bq_dayOf, .inl (cI, 8, .inl b_dayOf)), (bq_likelyOf, .inl (cI, 8, .inl b_likelyOf)), (bq_kindOf, .inl (cI, 8, .inl b_kindOf)), (bq_settledOf, .inl (cI, 8, .inl b_settledOf))]) out.1 ([(oh, .inr (5, [.ref oq_letters, .int out.2.1, .int out.2.2.1, .int out.2.2.2.1])), (oq_letters, .inl (cI, 120, .inl o_letters)), (bh, .inr (4, [.int out.2.2.2.2.1, .int out.2.2.2.2.2.1, .int out.2.2.2.2.2.2.1, .int out.2.2.2.2.2.2.2.1, .int out.2.2.2.2.2.2.2.2.1, .int out.2.2.2.2.2.2.2.2.2.1, .ref bq_keeping, .ref bq_giverOf, .ref bq_deedOf, .ref bq_dayOf, .ref bq_likelyOf, .ref bq_kindOf, .ref bq_settledOf])), (bq_keeping, .inl (cI, 4, .inl out.2.2.2.2.2.2.2.2.2.2.1)), (bq_giverOf, .inl (cI, 8, .inl out.2.2.2.2.2.2.2.2.2.2.2.1)), (bq_deedOf, .inl (cI, 8, .inl out.2.2.2.2.2.2.2.2.2.2.2.2.1)), (bq_dayOf, .inl (cI, 8, .inl out.2.2.2.2.2.2.2.2.2.2.2.2.2.1)), (bq_likelyOf, .inl (cI, 8, .inl out.2.2.2.2.2.2.2.2.2.2.2.2.2.2.1)), (bq_kindOf, .inl (cI, 8, .inl out.2.2.2.2.2.2.2.2.2.2.2.2.2.2.2.1)), (bq_settledOf, .inl (cI, 8, .inl out.2.2.2.2.2.2.2.2.2.2.2.2.2.2.2.2))]) := by
  refine bs_ofI (cc := cX5_readInto) (maxL := 3) (by decide) rfl (Nat.le_of_ble_eq_true rfl) ?_
  intro p e s m below meth c A Q hx hb hown hml hts hE H locs hP hD hA hS ls hl hret
  have hK := hE.1
  have hl : lv_has ls 3 [(0, .ref oh), (1, .ref bh)] := hl
  have hin5 : ∀ w ∈ u_ws RX5 TX5 4, w ∈ wsX5_readInto := by decide +kernel
  have k11 := hts (.fieldLink RX5 11 "PromiseScales$Tape" "letters" "[I") (by decide +kernel)
  have k15 := hts (.fieldLink RX5 15 "PromiseScales$Tape" "bytes" "I") (by decide +kernel)
  have k23 := hts (.fieldLink RX5 23 "PromiseScales$Tape" "at" "I") (by decide +kernel)
  have k26 := hts (.fieldLink RX5 26 "PromiseScales$Tape" "faultMet" "I") (by decide +kernel)
  unfold f_X5_readInto at hf
  refine lv_aload_n hx hb dX5_readInto_0 rfl (lv_at hl 0 rfl) ?_
  refine lv_iconst (v := 0) hx hb dX5_readInto_1 (by decide) ?_
  refine va_put (D := (dC, dI)) (ci := 5) (v := .int 0) (ty := .int) (C := RX5) (T := TX5) (N := 4) hx hb hts hin5 tyX5 tyX5_ok nmX5 hown hK hP hD hS 0 rfl rfl 2 (by decide) k23 (fun _ h9 => h9) rfl (by decide +kernel) rfl rfl (Nat.le_of_ble_eq_true rfl) dX5_readInto_2 (fun H locs hP hD hS => ?_)
  have hP : va_P (dC, dI) vwCl ([(oh, .inr (5, [.ref oq_letters, .int o_bytes, .int 0, .int o_faultMet])), (oq_letters, .inl (cI, 120, .inl o_letters)), (bh, .inr (4, [.int b_told, .int b_wax, .int b_stick, .int b_givers, .int b_promises, .int b_pan, .ref bq_keeping, .ref bq_giverOf, .ref bq_deedOf, .ref bq_dayOf, .ref bq_likelyOf, .ref bq_kindOf, .ref bq_settledOf])), (bq_keeping, .inl (cI, 4, .inl b_keeping)), (bq_giverOf, .inl (cI, 8, .inl b_giverOf)), (bq_deedOf, .inl (cI, 8, .inl b_deedOf)), (bq_dayOf, .inl (cI, 8, .inl b_dayOf)), (bq_likelyOf, .inl (cI, 8, .inl b_likelyOf)), (bq_kindOf, .inl (cI, 8, .inl b_kindOf)), (bq_settledOf, .inl (cI, 8, .inl b_settledOf))]) H := hP
  have hD : va_D A ([(oh, .inr (5, [.ref oq_letters, .int o_bytes, .int 0, .int o_faultMet])), (oq_letters, .inl (cI, 120, .inl o_letters)), (bh, .inr (4, [.int b_told, .int b_wax, .int b_stick, .int b_givers, .int b_promises, .int b_pan, .ref bq_keeping, .ref bq_giverOf, .ref bq_deedOf, .ref bq_dayOf, .ref bq_likelyOf, .ref bq_kindOf, .ref bq_settledOf])), (bq_keeping, .inl (cI, 4, .inl b_keeping)), (bq_giverOf, .inl (cI, 8, .inl b_giverOf)), (bq_deedOf, .inl (cI, 8, .inl b_deedOf)), (bq_dayOf, .inl (cI, 8, .inl b_dayOf)), (bq_likelyOf, .inl (cI, 8, .inl b_likelyOf)), (bq_kindOf, .inl (cI, 8, .inl b_kindOf)), (bq_settledOf, .inl (cI, 8, .inl b_settledOf))]) := hD
  refine lv_aload_n hx hb dX5_readInto_5 rfl (lv_at hl 0 rfl) ?_
  refine lv_iconst (v := 0) hx hb dX5_readInto_6 (by decide) ?_
  refine va_put (D := (dC, dI)) (ci := 5) (v := .int 0) (ty := .int) (C := RX5) (T := TX5) (N := 4) hx hb hts hin5 tyX5 tyX5_ok nmX5 hown hK hP hD hS 0 rfl rfl 3 (by decide) k26 (fun _ h9 => h9) rfl (by decide +kernel) rfl rfl (Nat.le_of_ble_eq_true rfl) dX5_readInto_7 (fun H locs hP hD hS => ?_)
  have hP : va_P (dC, dI) vwCl ([(oh, .inr (5, [.ref oq_letters, .int o_bytes, .int 0, .int 0])), (oq_letters, .inl (cI, 120, .inl o_letters)), (bh, .inr (4, [.int b_told, .int b_wax, .int b_stick, .int b_givers, .int b_promises, .int b_pan, .ref bq_keeping, .ref bq_giverOf, .ref bq_deedOf, .ref bq_dayOf, .ref bq_likelyOf, .ref bq_kindOf, .ref bq_settledOf])), (bq_keeping, .inl (cI, 4, .inl b_keeping)), (bq_giverOf, .inl (cI, 8, .inl b_giverOf)), (bq_deedOf, .inl (cI, 8, .inl b_deedOf)), (bq_dayOf, .inl (cI, 8, .inl b_dayOf)), (bq_likelyOf, .inl (cI, 8, .inl b_likelyOf)), (bq_kindOf, .inl (cI, 8, .inl b_kindOf)), (bq_settledOf, .inl (cI, 8, .inl b_settledOf))]) H := hP
  have hD : va_D A ([(oh, .inr (5, [.ref oq_letters, .int o_bytes, .int 0, .int 0])), (oq_letters, .inl (cI, 120, .inl o_letters)), (bh, .inr (4, [.int b_told, .int b_wax, .int b_stick, .int b_givers, .int b_promises, .int b_pan, .ref bq_keeping, .ref bq_giverOf, .ref bq_deedOf, .ref bq_dayOf, .ref bq_likelyOf, .ref bq_kindOf, .ref bq_settledOf])), (bq_keeping, .inl (cI, 4, .inl b_keeping)), (bq_giverOf, .inl (cI, 8, .inl b_giverOf)), (bq_deedOf, .inl (cI, 8, .inl b_deedOf)), (bq_dayOf, .inl (cI, 8, .inl b_dayOf)), (bq_likelyOf, .inl (cI, 8, .inl b_likelyOf)), (bq_kindOf, .inl (cI, 8, .inl b_kindOf)), (bq_settledOf, .inl (cI, 8, .inl b_settledOf))]) := hD
  refine lv_aload_n hx hb dX5_readInto_10 rfl (lv_at hl 1 rfl) ?_
  obtain ⟨z1, hz1, hf⟩ := bs_b hf
  refine bs_cVv (ws1 := [(oh, .inr (5, [.ref oq_letters, .int o_bytes, .int 0, .int 0])), (oq_letters, .inl (cI, 120, .inl o_letters)), (bh, .inr (4, [.int z1.1, .int b_wax, .int b_stick, .int z1.2.1, .int z1.2.2.1, .int z1.2.2.2.1, .ref bq_keeping, .ref bq_giverOf, .ref bq_deedOf, .ref bq_dayOf, .ref bq_likelyOf, .ref bq_kindOf, .ref bq_settledOf])), (bq_keeping, .inl (cI, 4, .inl b_keeping)), (bq_giverOf, .inl (cI, 8, .inl b_giverOf)), (bq_deedOf, .inl (cI, 8, .inl b_deedOf)), (bq_dayOf, .inl (cI, 8, .inl b_dayOf)), (bq_likelyOf, .inl (cI, 8, .inl b_likelyOf)), (bq_kindOf, .inl (cI, 8, .inl b_kindOf)), (bq_settledOf, .inl (cI, 8, .inl z1.2.2.2.2))]) ⟨hx, hb, hml, hown, hts⟩ (k_X4_clear l dC dI cI cZ cS cG bh bq_keeping bq_giverOf bq_deedOf bq_dayOf bq_likelyOf bq_kindOf bq_settledOf b_told b_wax b_stick b_givers b_promises b_pan b_keeping b_giverOf b_deedOf b_dayOf b_likelyOf b_kindOf b_settledOf z1 hz1) (cwV 0 hts gX5_readInto_X4_clear rfl rfl rfl (by decide +kernel) ⟨Nat.le_of_ble_eq_true rfl, Nat.le_of_ble_eq_true rfl⟩) hE hP hD hA hS [2, 3, 4, 5, 6, 7, 8, 9] rfl rfl 4 0 rfl rfl rfl rfl rfl rfl rfl hl.1 (Nat.le_of_ble_eq_true rfl) dX5_readInto_11 (fun H locs hP hD hS => ?_)
  refine lv_aload_n hx hb dX5_readInto_14 rfl (lv_at hl 0 rfl) ?_
  refine lv_aload_n hx hb dX5_readInto_15 rfl (lv_at hl 1 rfl) ?_
  obtain ⟨z2, hz2, hf⟩ := bs_b hf
  refine bs_cVv (ws1 := [(oh, .inr (5, [.ref oq_letters, .int o_bytes, .int z2.1, .int z2.2.1])), (oq_letters, .inl (cI, 120, .inl o_letters)), (bh, .inr (4, [.int z1.1, .int z2.2.2.1, .int z2.2.2.2, .int z1.2.1, .int z1.2.2.1, .int z1.2.2.2.1, .ref bq_keeping, .ref bq_giverOf, .ref bq_deedOf, .ref bq_dayOf, .ref bq_likelyOf, .ref bq_kindOf, .ref bq_settledOf])), (bq_keeping, .inl (cI, 4, .inl b_keeping)), (bq_giverOf, .inl (cI, 8, .inl b_giverOf)), (bq_deedOf, .inl (cI, 8, .inl b_deedOf)), (bq_dayOf, .inl (cI, 8, .inl b_dayOf)), (bq_likelyOf, .inl (cI, 8, .inl b_likelyOf)), (bq_kindOf, .inl (cI, 8, .inl b_kindOf)), (bq_settledOf, .inl (cI, 8, .inl z1.2.2.2.2))]) ⟨hx, hb, hml, hown, hts⟩ (k_X5_readLaw l dC dI cI cZ cS cG oh oq_letters bh bq_keeping bq_giverOf bq_deedOf bq_dayOf bq_likelyOf bq_kindOf bq_settledOf o_letters o_bytes 0 0 z1.1 b_wax b_stick z1.2.1 z1.2.2.1 z1.2.2.2.1 b_keeping b_giverOf b_deedOf b_dayOf b_likelyOf b_kindOf z1.2.2.2.2 z2 hz2) (cwV 1 hts gX5_readInto_X5_readLaw rfl rfl rfl (by decide +kernel) ⟨Nat.le_of_ble_eq_true rfl, Nat.le_of_ble_eq_true rfl⟩) hE hP hD hA hS [0, 1, 2, 3, 4, 5, 6, 7, 8, 9] rfl rfl 5 0 rfl rfl rfl rfl rfl rfl rfl hl.1 (Nat.le_of_ble_eq_true rfl) dX5_readInto_16 (fun H locs hP hD hS => ?_)
  refine lv_iconst (v := 0) hx hb dX5_readInto_19 (by decide) ?_
  refine lv_istore_n (lv' := [(2, .int 0), (0, .ref oh), (1, .ref bh)]) hx hb dX5_readInto_20 rfl hl (by decide) rfl (fun ls hl => ?_)
  have L_21 : ∀ (fuel : Nat) (o_at_21 : Int32) (o_faultMet_21 : Int32) (b_givers_21 : Int32) (b_promises_21 : Int32) (b_keeping_21 : Nat → Int32) (b_giverOf_21 : Nat → Int32) (b_deedOf_21 : Nat → Int32) (b_dayOf_21 : Nat → Int32) (b_likelyOf_21 : Nat → Int32) (b_kindOf_21 : Nat → Int32) (x2_21 : Int32) (H : Heap) (locs : List Loc) (ls : Array Slot), va_P (dC, dI) vwCl ([(oh, .inr (5, [.ref oq_letters, .int o_bytes, .int o_at_21, .int o_faultMet_21])), (oq_letters, .inl (cI, 120, .inl o_letters)), (bh, .inr (4, [.int z1.1, .int z2.2.2.1, .int z2.2.2.2, .int b_givers_21, .int b_promises_21, .int z1.2.2.2.1, .ref bq_keeping, .ref bq_giverOf, .ref bq_deedOf, .ref bq_dayOf, .ref bq_likelyOf, .ref bq_kindOf, .ref bq_settledOf])), (bq_keeping, .inl (cI, 4, .inl b_keeping_21)), (bq_giverOf, .inl (cI, 8, .inl b_giverOf_21)), (bq_deedOf, .inl (cI, 8, .inl b_deedOf_21)), (bq_dayOf, .inl (cI, 8, .inl b_dayOf_21)), (bq_likelyOf, .inl (cI, 8, .inl b_likelyOf_21)), (bq_kindOf, .inl (cI, 8, .inl b_kindOf_21)), (bq_settledOf, .inl (cI, 8, .inl z1.2.2.2.2))]) H → va_D A ([(oh, .inr (5, [.ref oq_letters, .int o_bytes, .int o_at_21, .int o_faultMet_21])), (oq_letters, .inl (cI, 120, .inl o_letters)), (bh, .inr (4, [.int z1.1, .int z2.2.2.1, .int z2.2.2.2, .int b_givers_21, .int b_promises_21, .int z1.2.2.2.1, .ref bq_keeping, .ref bq_giverOf, .ref bq_deedOf, .ref bq_dayOf, .ref bq_likelyOf, .ref bq_kindOf, .ref bq_settledOf])), (bq_keeping, .inl (cI, 4, .inl b_keeping_21)), (bq_giverOf, .inl (cI, 8, .inl b_giverOf_21)), (bq_deedOf, .inl (cI, 8, .inl b_deedOf_21)), (bq_dayOf, .inl (cI, 8, .inl b_dayOf_21)), (bq_likelyOf, .inl (cI, 8, .inl b_likelyOf_21)), (bq_kindOf, .inl (cI, 8, .inl b_kindOf_21)), (bq_settledOf, .inl (cI, 8, .inl z1.2.2.2.2))]) → va_S A s.heap H locs → lv_has ls 3 [(0, .ref oh), (1, .ref bh), (2, .int x2_21)] → f_X5_readInto_L21 o_letters o_bytes z1.1 z2.2.2.1 z2.2.2.2 z1.2.2.2.1 z1.2.2.2.2 fuel o_at_21 o_faultMet_21 b_givers_21 b_promises_21 b_keeping_21 b_giverOf_21 b_deedOf_21 b_dayOf_21 b_likelyOf_21 b_kindOf_21 x2_21 = some out → W p l e ({ frames := 4, cells := 0, slots := 0, locals := 94 } : Room) s m ([.ref oh, .ref bh] : List Value).toArray below meth c H locs 0 0 Q (F0 m 21 ls []) := by
    intro fuel
    induction fuel with
    | zero =>
      intro o_at_21 o_faultMet_21 b_givers_21 b_promises_21 b_keeping_21 b_giverOf_21 b_deedOf_21 b_dayOf_21 b_likelyOf_21 b_kindOf_21 x2_21 H locs ls hP hD hS hl hf
      cases (show (none : Option (Int32 × Int32 × Int32 × Int32 × Int32 × Int32 × Int32 × Int32 × Int32 × Int32 × (Nat → Int32) × (Nat → Int32) × (Nat → Int32) × (Nat → Int32) × (Nat → Int32) × (Nat → Int32) × (Nat → Int32))) = some out from hf)
    | succ n_21 ih_21 =>
      intro o_at_21 o_faultMet_21 b_givers_21 b_promises_21 b_keeping_21 b_giverOf_21 b_deedOf_21 b_dayOf_21 b_likelyOf_21 b_kindOf_21 x2_21 H locs ls hP hD hS hl hf
      have hf := (f_X5_readInto_L21_s o_letters o_bytes z1.1 z2.2.2.1 z2.2.2.2 z1.2.2.2.1 z1.2.2.2.2 n_21 o_at_21 o_faultMet_21 b_givers_21 b_promises_21 b_keeping_21 b_giverOf_21 b_deedOf_21 b_dayOf_21 b_likelyOf_21 b_kindOf_21 x2_21).symm.trans hf
      refine lv_iload_n hx hb dX5_readInto_21 rfl (lv_at hl 2 rfl) ?_
      refine lv_bipush (v := 120) hx hb dX5_readInto_22 (by decide) ?_
      refine lv_icmp_ge (tgt := 65) hx hb dX5_readInto_24 (by decide) (fun c3 => ?_) (fun c3 => ?_)
      · have hf := bs_t hf c3
        refine lv_aload_n hx hb dX5_readInto_65 rfl (lv_at hl 0 rfl) ?_
        refine lv_iconst (v := 0) hx hb dX5_readInto_66 (by decide) ?_
        refine va_put (D := (dC, dI)) (ci := 5) (v := .int 0) (ty := .int) (C := RX5) (T := TX5) (N := 4) hx hb hts hin5 tyX5 tyX5_ok nmX5 hown hK hP hD hS 0 rfl rfl 1 (by decide) k15 (fun _ h9 => h9) rfl (by decide +kernel) rfl rfl (Nat.le_of_ble_eq_true rfl) dX5_readInto_67 (fun H locs hP hD hS => ?_)
        have hP : va_P (dC, dI) vwCl ([(oh, .inr (5, [.ref oq_letters, .int 0, .int o_at_21, .int o_faultMet_21])), (oq_letters, .inl (cI, 120, .inl o_letters)), (bh, .inr (4, [.int z1.1, .int z2.2.2.1, .int z2.2.2.2, .int b_givers_21, .int b_promises_21, .int z1.2.2.2.1, .ref bq_keeping, .ref bq_giverOf, .ref bq_deedOf, .ref bq_dayOf, .ref bq_likelyOf, .ref bq_kindOf, .ref bq_settledOf])), (bq_keeping, .inl (cI, 4, .inl b_keeping_21)), (bq_giverOf, .inl (cI, 8, .inl b_giverOf_21)), (bq_deedOf, .inl (cI, 8, .inl b_deedOf_21)), (bq_dayOf, .inl (cI, 8, .inl b_dayOf_21)), (bq_likelyOf, .inl (cI, 8, .inl b_likelyOf_21)), (bq_kindOf, .inl (cI, 8, .inl b_kindOf_21)), (bq_settledOf, .inl (cI, 8, .inl z1.2.2.2.2))]) H := hP
        have hD : va_D A ([(oh, .inr (5, [.ref oq_letters, .int 0, .int o_at_21, .int o_faultMet_21])), (oq_letters, .inl (cI, 120, .inl o_letters)), (bh, .inr (4, [.int z1.1, .int z2.2.2.1, .int z2.2.2.2, .int b_givers_21, .int b_promises_21, .int z1.2.2.2.1, .ref bq_keeping, .ref bq_giverOf, .ref bq_deedOf, .ref bq_dayOf, .ref bq_likelyOf, .ref bq_kindOf, .ref bq_settledOf])), (bq_keeping, .inl (cI, 4, .inl b_keeping_21)), (bq_giverOf, .inl (cI, 8, .inl b_giverOf_21)), (bq_deedOf, .inl (cI, 8, .inl b_deedOf_21)), (bq_dayOf, .inl (cI, 8, .inl b_dayOf_21)), (bq_likelyOf, .inl (cI, 8, .inl b_likelyOf_21)), (bq_kindOf, .inl (cI, 8, .inl b_kindOf_21)), (bq_settledOf, .inl (cI, 8, .inl z1.2.2.2.2))]) := hD
        refine lv_aload_n hx hb dX5_readInto_70 rfl (lv_at hl 0 rfl) ?_
        refine va_get (D := (dC, dI)) (ci := 5) (v := .int o_faultMet_21) (C := RX5) (T := TX5) (N := 4) hx hb hts hin5 hown hK hP 0 rfl rfl 3 (by decide) k26 (fun _ h9 => h9) rfl dX5_readInto_71 ?_
        obtain rfl := Option.some.inj hf
        exact hret H locs _ _ hP hS rfl dX5_readInto_74
      · have hf := bs_f hf c3
        refine lv_aload_n hx hb dX5_readInto_27 rfl (lv_at hl 0 rfl) ?_
        refine va_get (D := (dC, dI)) (ci := 5) (v := .int o_faultMet_21) (C := RX5) (T := TX5) (N := 4) hx hb hts hin5 hown hK hP 0 rfl rfl 3 (by decide) k26 (fun _ h9 => h9) rfl dX5_readInto_28 ?_
        refine lv_if_ne (tgt := 65) hx hb dX5_readInto_31 (by decide) (fun c4 => ?_) (fun c4 => ?_)
        · have hf := bs_f hf c4
          refine lv_aload_n hx hb dX5_readInto_65 rfl (lv_at hl 0 rfl) ?_
          refine lv_iconst (v := 0) hx hb dX5_readInto_66 (by decide) ?_
          refine va_put (D := (dC, dI)) (ci := 5) (v := .int 0) (ty := .int) (C := RX5) (T := TX5) (N := 4) hx hb hts hin5 tyX5 tyX5_ok nmX5 hown hK hP hD hS 0 rfl rfl 1 (by decide) k15 (fun _ h9 => h9) rfl (by decide +kernel) rfl rfl (Nat.le_of_ble_eq_true rfl) dX5_readInto_67 (fun H locs hP hD hS => ?_)
          have hP : va_P (dC, dI) vwCl ([(oh, .inr (5, [.ref oq_letters, .int 0, .int o_at_21, .int o_faultMet_21])), (oq_letters, .inl (cI, 120, .inl o_letters)), (bh, .inr (4, [.int z1.1, .int z2.2.2.1, .int z2.2.2.2, .int b_givers_21, .int b_promises_21, .int z1.2.2.2.1, .ref bq_keeping, .ref bq_giverOf, .ref bq_deedOf, .ref bq_dayOf, .ref bq_likelyOf, .ref bq_kindOf, .ref bq_settledOf])), (bq_keeping, .inl (cI, 4, .inl b_keeping_21)), (bq_giverOf, .inl (cI, 8, .inl b_giverOf_21)), (bq_deedOf, .inl (cI, 8, .inl b_deedOf_21)), (bq_dayOf, .inl (cI, 8, .inl b_dayOf_21)), (bq_likelyOf, .inl (cI, 8, .inl b_likelyOf_21)), (bq_kindOf, .inl (cI, 8, .inl b_kindOf_21)), (bq_settledOf, .inl (cI, 8, .inl z1.2.2.2.2))]) H := hP
          have hD : va_D A ([(oh, .inr (5, [.ref oq_letters, .int 0, .int o_at_21, .int o_faultMet_21])), (oq_letters, .inl (cI, 120, .inl o_letters)), (bh, .inr (4, [.int z1.1, .int z2.2.2.1, .int z2.2.2.2, .int b_givers_21, .int b_promises_21, .int z1.2.2.2.1, .ref bq_keeping, .ref bq_giverOf, .ref bq_deedOf, .ref bq_dayOf, .ref bq_likelyOf, .ref bq_kindOf, .ref bq_settledOf])), (bq_keeping, .inl (cI, 4, .inl b_keeping_21)), (bq_giverOf, .inl (cI, 8, .inl b_giverOf_21)), (bq_deedOf, .inl (cI, 8, .inl b_deedOf_21)), (bq_dayOf, .inl (cI, 8, .inl b_dayOf_21)), (bq_likelyOf, .inl (cI, 8, .inl b_likelyOf_21)), (bq_kindOf, .inl (cI, 8, .inl b_kindOf_21)), (bq_settledOf, .inl (cI, 8, .inl z1.2.2.2.2))]) := hD
          refine lv_aload_n hx hb dX5_readInto_70 rfl (lv_at hl 0 rfl) ?_
          refine va_get (D := (dC, dI)) (ci := 5) (v := .int o_faultMet_21) (C := RX5) (T := TX5) (N := 4) hx hb hts hin5 hown hK hP 0 rfl rfl 3 (by decide) k26 (fun _ h9 => h9) rfl dX5_readInto_71 ?_
          obtain rfl := Option.some.inj hf
          exact hret H locs _ _ hP hS rfl dX5_readInto_74
        · have hf := bs_t hf c4
          refine lv_aload_n hx hb dX5_readInto_34 rfl (lv_at hl 0 rfl) ?_
          refine va_get (D := (dC, dI)) (ci := 5) (v := .int o_at_21) (C := RX5) (T := TX5) (N := 4) hx hb hts hin5 hown hK hP 0 rfl rfl 2 (by decide) k23 (fun _ h9 => h9) rfl dX5_readInto_35 ?_
          refine lv_aload_n hx hb dX5_readInto_38 rfl (lv_at hl 0 rfl) ?_
          refine va_get (D := (dC, dI)) (ci := 5) (v := .int o_bytes) (C := RX5) (T := TX5) (N := 4) hx hb hts hin5 hown hK hP 0 rfl rfl 1 (by decide) k15 (fun _ h9 => h9) rfl dX5_readInto_39 ?_
          refine lv_icmp_ge (tgt := 65) hx hb dX5_readInto_42 (by decide) (fun c5 => ?_) (fun c5 => ?_)
          · have hf := bs_t hf c5
            refine lv_aload_n hx hb dX5_readInto_65 rfl (lv_at hl 0 rfl) ?_
            refine lv_iconst (v := 0) hx hb dX5_readInto_66 (by decide) ?_
            refine va_put (D := (dC, dI)) (ci := 5) (v := .int 0) (ty := .int) (C := RX5) (T := TX5) (N := 4) hx hb hts hin5 tyX5 tyX5_ok nmX5 hown hK hP hD hS 0 rfl rfl 1 (by decide) k15 (fun _ h9 => h9) rfl (by decide +kernel) rfl rfl (Nat.le_of_ble_eq_true rfl) dX5_readInto_67 (fun H locs hP hD hS => ?_)
            have hP : va_P (dC, dI) vwCl ([(oh, .inr (5, [.ref oq_letters, .int 0, .int o_at_21, .int o_faultMet_21])), (oq_letters, .inl (cI, 120, .inl o_letters)), (bh, .inr (4, [.int z1.1, .int z2.2.2.1, .int z2.2.2.2, .int b_givers_21, .int b_promises_21, .int z1.2.2.2.1, .ref bq_keeping, .ref bq_giverOf, .ref bq_deedOf, .ref bq_dayOf, .ref bq_likelyOf, .ref bq_kindOf, .ref bq_settledOf])), (bq_keeping, .inl (cI, 4, .inl b_keeping_21)), (bq_giverOf, .inl (cI, 8, .inl b_giverOf_21)), (bq_deedOf, .inl (cI, 8, .inl b_deedOf_21)), (bq_dayOf, .inl (cI, 8, .inl b_dayOf_21)), (bq_likelyOf, .inl (cI, 8, .inl b_likelyOf_21)), (bq_kindOf, .inl (cI, 8, .inl b_kindOf_21)), (bq_settledOf, .inl (cI, 8, .inl z1.2.2.2.2))]) H := hP
            have hD : va_D A ([(oh, .inr (5, [.ref oq_letters, .int 0, .int o_at_21, .int o_faultMet_21])), (oq_letters, .inl (cI, 120, .inl o_letters)), (bh, .inr (4, [.int z1.1, .int z2.2.2.1, .int z2.2.2.2, .int b_givers_21, .int b_promises_21, .int z1.2.2.2.1, .ref bq_keeping, .ref bq_giverOf, .ref bq_deedOf, .ref bq_dayOf, .ref bq_likelyOf, .ref bq_kindOf, .ref bq_settledOf])), (bq_keeping, .inl (cI, 4, .inl b_keeping_21)), (bq_giverOf, .inl (cI, 8, .inl b_giverOf_21)), (bq_deedOf, .inl (cI, 8, .inl b_deedOf_21)), (bq_dayOf, .inl (cI, 8, .inl b_dayOf_21)), (bq_likelyOf, .inl (cI, 8, .inl b_likelyOf_21)), (bq_kindOf, .inl (cI, 8, .inl b_kindOf_21)), (bq_settledOf, .inl (cI, 8, .inl z1.2.2.2.2))]) := hD
            refine lv_aload_n hx hb dX5_readInto_70 rfl (lv_at hl 0 rfl) ?_
            refine va_get (D := (dC, dI)) (ci := 5) (v := .int o_faultMet_21) (C := RX5) (T := TX5) (N := 4) hx hb hts hin5 hown hK hP 0 rfl rfl 3 (by decide) k26 (fun _ h9 => h9) rfl dX5_readInto_71 ?_
            obtain rfl := Option.some.inj hf
            exact hret H locs _ _ hP hS rfl dX5_readInto_74
          · have hf := bs_f hf c5
            refine lv_aload_n hx hb dX5_readInto_45 rfl (lv_at hl 0 rfl) ?_
            refine lv_aload_n hx hb dX5_readInto_46 rfl (lv_at hl 1 rfl) ?_
            refine lv_aload_n hx hb dX5_readInto_47 rfl (lv_at hl 0 rfl) ?_
            refine va_get (D := (dC, dI)) (ci := 5) (v := .ref oq_letters) (C := RX5) (T := TX5) (N := 4) hx hb hts hin5 hown hK hP 0 rfl rfl 0 (by decide) k11 (fun _ h9 => h9) rfl dX5_readInto_48 ?_
            refine lv_aload_n hx hb dX5_readInto_51 rfl (lv_at hl 0 rfl) ?_
            refine va_get (D := (dC, dI)) (ci := 5) (v := .int o_at_21) (C := RX5) (T := TX5) (N := 4) hx hb hts hin5 hown hK hP 0 rfl rfl 2 (by decide) k23 (fun _ h9 => h9) rfl dX5_readInto_52 ?_
            obtain ⟨g6, hf⟩ := bs_g hf
            refine va_iald hx hb hK hP 1 0 rfl rfl (bs_inV g6) dX5_readInto_55 ?_
            obtain ⟨z7, hz7, hf⟩ := bs_b hf
            refine bs_cVv (ws1 := [(oh, .inr (5, [.ref oq_letters, .int o_bytes, .int z7.1, .int z7.2.1])), (oq_letters, .inl (cI, 120, .inl o_letters)), (bh, .inr (4, [.int z1.1, .int z2.2.2.1, .int z2.2.2.2, .int z7.2.2.1, .int z7.2.2.2.1, .int z1.2.2.2.1, .ref bq_keeping, .ref bq_giverOf, .ref bq_deedOf, .ref bq_dayOf, .ref bq_likelyOf, .ref bq_kindOf, .ref bq_settledOf])), (bq_keeping, .inl (cI, 4, .inl z7.2.2.2.2.1)), (bq_giverOf, .inl (cI, 8, .inl z7.2.2.2.2.2.1)), (bq_deedOf, .inl (cI, 8, .inl z7.2.2.2.2.2.2.1)), (bq_dayOf, .inl (cI, 8, .inl z7.2.2.2.2.2.2.2.1)), (bq_likelyOf, .inl (cI, 8, .inl z7.2.2.2.2.2.2.2.2.1)), (bq_kindOf, .inl (cI, 8, .inl z7.2.2.2.2.2.2.2.2.2)), (bq_settledOf, .inl (cI, 8, .inl z1.2.2.2.2))]) ⟨hx, hb, hml, hown, hts⟩ (k_X5_readPart l dC dI cI cZ cS cG oh oq_letters bh bq_keeping bq_giverOf bq_deedOf bq_dayOf bq_likelyOf bq_kindOf bq_settledOf o_letters o_bytes o_at_21 o_faultMet_21 z1.1 z2.2.2.1 z2.2.2.2 b_givers_21 b_promises_21 z1.2.2.2.1 b_keeping_21 b_giverOf_21 b_deedOf_21 b_dayOf_21 b_likelyOf_21 b_kindOf_21 z1.2.2.2.2 (o_letters o_at_21.toNatClampNeg) z7 hz7) (cwV 2 hts gX5_readInto_X5_readPart rfl rfl rfl (by decide +kernel) ⟨Nat.le_of_ble_eq_true rfl, Nat.le_of_ble_eq_true rfl⟩) hE hP hD hA hS [0, 1, 2, 3, 4, 5, 6, 7, 8, 9] rfl rfl 5 0 rfl rfl rfl rfl rfl rfl rfl hl.1 (Nat.le_of_ble_eq_true rfl) dX5_readInto_56 (fun H locs hP hD hS => ?_)
            refine lv_iinc (v := x2_21 + 1) (lv' := [(2, .int (x2_21 + 1)), (0, .ref oh), (1, .ref bh)]) hx hb dX5_readInto_59 hl (k := 2) rfl rfl (by decide) rfl (fun ls hl => ?_)
            refine lv_goto (tgt := 21) hx hb dX5_readInto_62 (by decide) ?_
            exact ih_21 z7.1 z7.2.1 z7.2.2.1 z7.2.2.2.1 z7.2.2.2.2.1 z7.2.2.2.2.2.1 z7.2.2.2.2.2.2.1 z7.2.2.2.2.2.2.2.1 z7.2.2.2.2.2.2.2.2.1 z7.2.2.2.2.2.2.2.2.2 (x2_21 + 1) H locs ls hP hD hS (lv_sub hl [1, 2, 0] rfl) hf
  exact L_21 bs_F z2.1 z2.2.1 z1.2.1 z1.2.2.1 b_keeping b_giverOf b_deedOf b_dayOf b_likelyOf b_kindOf (0 : Int32) H locs ls hP hD hS (lv_sub hl [1, 2, 0] rfl) hf
