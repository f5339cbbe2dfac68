/-! the law: its loop, and from its entry -/
theorem rr_0 {f f2 : Nat → Int32} (hf : ∀ j, j < 8 → f j = -1) (hf2 : ∀ j, j < 8 → f2 j = -1) : RR (fun _ => 0) (bs_up2 (fun _ _ => 0) 44 f) (fun _ _ => 0) (fun _ => 0) (bs_up2 (fun _ _ => 0) 1 f2) :=
  ⟨fun _ => 0, 0, 0, 0, ⟨fun _ _ => rfl, ⟨Nat.zero_le _, Nat.zero_le _, Nat.zero_le _, Nat.zero_le _, (show (0 : Nat) < 256 by omega), fun _ _ => Nat.zero_le _, fun p hp => absurd hp (Nat.not_lt_zero p)⟩, ⟨fun g hg => absurd hg (Nat.not_lt_zero g), fun p hp => absurd hp (Nat.not_lt_zero p)⟩, fun p hp => absurd hp (Nat.not_lt_zero p), rfl, rfl, rfl, rfl, rfl, rfl, Or.inl ⟨rfl, rfl⟩⟩, ⟨by omega, by omega, rfl, rfl, rfl, tp_acts0 _ _ _ _ _ _⟩, ⟨rfl, Or.inl rfl⟩, ⟨rfl, Or.inl rfl⟩, fun r hr => ⟨rfl, (hf r hr).trans (hf2 r hr).symm, Or.inl (hf r hr), fun _ _ => rfl⟩, tk_T0 _ _, by omega, rfl, rfl, ak_0 _ _, rfl, rfl, Or.inl rfl, Or.inl rfl⟩
set_option maxHeartbeats 4000000 in
set_option maxRecDepth 100000 in
theorem lw_loop {p : Program} {l : Launch} {e : Env} {s : State} {m : MethodId} {below : List Frame} {meth : Method} {c : Code} {dC : Nat → ClassId} {dI : Nat → Nat → Nat} {cI cZ cS cG : ClassId} {b L : Nat} {xs : Nat → Int32} {a g : Nat → Nat} (hL : L ≤ 3072) (C0 : lw_At p s m meth c b L xs) (hE : bs_E dC dI cI cZ cS cG s) : ∀ (n i : Nat), i ≤ L → L + 1 ≤ i + n → ∀ (X : Nat → Int32) (Y G : Nat → Nat → Int32) (M : Nat → Int32) (N : Nat → Nat → Int32) (H : Heap) (locs : List Loc) (ls : Array Slot), va_P (dC, dI) vwCl (wb cI cZ cS cG a g X Y G M N).flatten H → va_D (fun q : Nat => s.heap.size ≤ q) (wb cI cZ cS cG a g X Y G M N).flatten → va_S (fun q : Nat => s.heap.size ≤ q) s.heap H locs → RR X Y G M N → lv_has ls 4 [(3, .int (nI i)), (2, .ref (a 58)), (1, .ref (a 0)), (0, .ref b)] → W p l e room_1 s m #[Value.ref b] below meth c H locs 600000 7302250 (lw_Z below #[Value.ref b] s) (F0 m 18 ls []) := by
  intro n
  induction n with
  | zero =>
    intro i h1 h2
    exact absurd h2 (by omega)
  | succ n ih =>
    intro i hi hin X Y G M N H locs ls hP hD hS hR hl
    obtain ⟨hx, hb, hr, hml, hown, hts0, hX, hbl, hlocks, hgv⟩ := id C0
    have hbA : ¬ (fun q : Nat => s.heap.size ≤ q) b := Nat.not_le.mpr hbl
    refine lv_iload_n hx hb dL_law_18 rfl (lv_at hl 0 rfl) ?_
    refine lv_aload_n hx hb dL_law_19 rfl (lv_at hl 3 rfl) ?_
    refine va_slen hx hb hX hbl hbA hS dL_law_20 ?_
    refine lv_bipush (v := 6) hx hb dL_law_21 (by decide) ?_
    refine lv_isub hx hb dL_law_23 ?_
    have hsub : (nI L - nI 6).toInt = (L : Int) - 6 := pk_sub_toInt (by omega) (by omega)
    have hii : (nI i).toInt = (i : Int) := nI_toInt (by omega)
    refine lv_icmp_gt (tgt := 1175) hx hb dL_law_24 (by decide) (fun c1 => ?_) (fun c1 => ?_)
    · refine lv_iconst (v := 1) hx hb dL_law_1175 (by decide) ?_
      refine va_forget (fun q hq => hS.2.2 q hq) ?_
      exact lw_ret hx hb hr hlocks dL_law_1176
    · have hi5 : i + 5 < L := by
        have c2 : ¬ (nI L - nI 6 < nI i) := c1
        rw [Int32.lt_iff_toInt_lt, hsub, hii] at c2
        omega
      refine lv_aload_n hx hb dL_law_27 rfl (lv_at hl 3 rfl) ?_
      refine lv_iload_n hx hb dL_law_28 rfl (lv_at hl 0 rfl) ?_
      refine va_sld hx hb hX hbl hbA hS (vp_in_nI (show i < L by omega) (by omega)) dL_law_29 ?_
      refine lv_bipush (v := 63) hx hb dL_law_30 (by decide) ?_
      refine lv_iand hx hb dL_law_32 ?_
      have kk : lw_K p l e s m below meth c b dC dI cI cZ cS cG a g ls (lw_Z below #[Value.ref b] s) := by
        intro X Y G M N H locs hP hD hS hR
        refine lv_iinc (v := nI (i + 6)) (lv' := [(3, .int (nI (i + 6))), (2, .ref (a 58)), (1, .ref (a 0)), (0, .ref b)]) hx hb dL_law_1169 hl (k := 0) rfl (show nI i + nI 6 = nI (i + 6) from nI_add i 6) (by decide) rfl (fun ls hl => ?_)
        refine lv_goto (tgt := 18) hx hb dL_law_1172 (by decide) ?_
        exact ih (i + 6) (by omega) (by omega) X Y G M N H locs ls hP hD hS hR hl
      generalize xs (nI i).toNatClampNeg &&& 63 = x
      by_cases k0 : x = 0
      · refine lv_tableIn (tgt := 180) hx hb dL_law_33 (by rw [k0]; decide) (by rw [k0]; decide) (by rw [k0]; rfl) (by decide) ?_
        exact lc_row C0 hE hP hD hS hR hL hi5 hl kk
      by_cases k1 : x = 1
      · refine lv_tableIn (tgt := 223) hx hb dL_law_33 (by rw [k1]; decide) (by rw [k1]; decide) (by rw [k1]; rfl) (by decide) ?_
        exact lc_set C0 hE hP hD hS hR hL hi5 hl kk
      by_cases k2 : x = 2
      · refine lv_tableIn (tgt := 266) hx hb dL_law_33 (by rw [k2]; decide) (by rw [k2]; decide) (by rw [k2]; rfl) (by decide) ?_
        exact lc_copy C0 hE hP hD hS hR hL hi5 hl kk
      by_cases k3 : x = 3
      · refine lv_tableIn (tgt := 329) hx hb dL_law_33 (by rw [k3]; decide) (by rw [k3]; decide) (by rw [k3]; rfl) (by decide) ?_
        exact lc_drop C0 hE hP hD hS hR hL hi5 hl kk
      by_cases k4 : x = 4
      · refine lv_tableIn (tgt := 352) hx hb dL_law_33 (by rw [k4]; decide) (by rw [k4]; decide) (by rw [k4]; rfl) (by decide) ?_
        exact lc_feed C0 hE hP hD hS hR hL hi5 hl kk
      by_cases k5 : x = 5
      · refine lv_tableIn (tgt := 375) hx hb dL_law_33 (by rw [k5]; decide) (by rw [k5]; decide) (by rw [k5]; rfl) (by decide) ?_
        exact lc_scales C0 hE hP hD hS hR hL hi5 hl kk
      by_cases k6 : x = 6
      · refine lv_tableIn (tgt := 388) hx hb dL_law_33 (by rw [k6]; decide) (by rw [k6]; decide) (by rw [k6]; rfl) (by decide) ?_
        exact lc_fault C0 hE hP hD hS hR hL hi5 hl kk
      by_cases k7 : x = 7
      · refine lv_tableIn (tgt := 401) hx hb dL_law_33 (by rw [k7]; decide) (by rw [k7]; decide) (by rw [k7]; rfl) (by decide) ?_
        exact lc_lay C0 hE hP hD hS hR hL hi5 hl kk
      by_cases k8 : x = 8
      · refine lv_tableIn (tgt := 434) hx hb dL_law_33 (by rw [k8]; decide) (by rw [k8]; decide) (by rw [k8]; rfl) (by decide) ?_
        exact lc_settle C0 hE hP hD hS hR hL hi5 hl kk
      by_cases k9 : x = 9
      · refine lv_tableIn (tgt := 467) hx hb dL_law_33 (by rw [k9]; decide) (by rw [k9]; decide) (by rw [k9]; rfl) (by decide) ?_
        exact lc_wax C0 hE hP hD hS hR hL hi5 hl kk
      by_cases k10 : x = 10
      · refine lv_tableIn (tgt := 490) hx hb dL_law_33 (by rw [k10]; decide) (by rw [k10]; decide) (by rw [k10]; rfl) (by decide) ?_
        exact lc_undo C0 hE hP hD hS hR hL hi5 hl kk
      by_cases k11 : x = 11
      · refine lv_tableIn (tgt := 503) hx hb dL_law_33 (by rw [k11]; decide) (by rw [k11]; decide) (by rw [k11]; rfl) (by decide) ?_
        exact lc_promise C0 hE hP hD hS hR hL hi5 hl kk
      by_cases k12 : x = 12
      · refine lv_tableIn (tgt := 536) hx hb dL_law_33 (by rw [k12]; decide) (by rw [k12]; decide) (by rw [k12]; rfl) (by decide) ?_
        exact lc_keeps C0 hE hP hD hS hR hL hi5 hl kk
      by_cases k13 : x = 13
      · refine lv_tableIn (tgt := 559) hx hb dL_law_33 (by rw [k13]; decide) (by rw [k13]; decide) (by rw [k13]; rfl) (by decide) ?_
        exact lc_reads C0 hE hP hD hS hR hL hi5 hl kk
      by_cases k14 : x = 14
      · refine lv_tableIn (tgt := 582) hx hb dL_law_33 (by rw [k14]; decide) (by rw [k14]; decide) (by rw [k14]; rfl) (by decide) ?_
        exact lc_clash C0 hE hP hD hS hR hL hi5 hl kk
      by_cases k15 : x = 15
      · refine lv_tableIn (tgt := 605) hx hb dL_law_33 (by rw [k15]; decide) (by rw [k15]; decide) (by rw [k15]; rfl) (by decide) ?_
        exact lc_bags C0 hE hP hD hS hR hL hi5 hl kk
      by_cases k16 : x = 16
      · refine lv_tableIn (tgt := 638) hx hb dL_law_33 (by rw [k16]; decide) (by rw [k16]; decide) (by rw [k16]; rfl) (by decide) ?_
        exact lc_heaviest C0 hE hP hD hS hR hL hi5 hl kk
      by_cases k17 : x = 17
      · refine lv_tableIn (tgt := 671) hx hb dL_law_33 (by rw [k17]; decide) (by rw [k17]; decide) (by rw [k17]; rfl) (by decide) ?_
        exact lc_worded C0 hE hP hD hS hR hL hi5 hl kk
      by_cases k18 : x = 18
      · refine lv_tableIn (tgt := 704) hx hb dL_law_33 (by rw [k18]; decide) (by rw [k18]; decide) (by rw [k18]; rfl) (by decide) ?_
        exact lc_price C0 hE hP hD hS hR hL hi5 hl kk
      by_cases k19 : x = 19
      · refine lv_tableIn (tgt := 737) hx hb dL_law_33 (by rw [k19]; decide) (by rw [k19]; decide) (by rw [k19]; rfl) (by decide) ?_
        exact lc_prices C0 hE hP hD hS hR hL hi5 hl kk
      by_cases k20 : x = 20
      · refine lv_tableIn (tgt := 770) hx hb dL_law_33 (by rw [k20]; decide) (by rw [k20]; decide) (by rw [k20]; rfl) (by decide) ?_
        exact lc_settles C0 hE hP hD hS hR hL hi5 hl kk
      by_cases k21 : x = 21
      · refine lv_tableIn (tgt := 813) hx hb dL_law_33 (by rw [k21]; decide) (by rw [k21]; decide) (by rw [k21]; rfl) (by decide) ?_
        exact lc_bestHeavy C0 hE hP hD hS hR hL hi5 hl kk
      by_cases k22 : x = 22
      · refine lv_tableIn (tgt := 836) hx hb dL_law_33 (by rw [k22]; decide) (by rw [k22]; decide) (by rw [k22]; rfl) (by decide) ?_
        exact lc_found C0 hE hP hD hS hR hL hi5 hl kk
      by_cases k23 : x = 23
      · refine lv_tableIn (tgt := 889) hx hb dL_law_33 (by rw [k23]; decide) (by rw [k23]; decide) (by rw [k23]; rfl) (by decide) ?_
        exact lc_keepsFound C0 hE hP hD hS hR hL hi5 hl kk
      by_cases k24 : x = 24
      · refine lv_tableIn (tgt := 932) hx hb dL_law_33 (by rw [k24]; decide) (by rw [k24]; decide) (by rw [k24]; rfl) (by decide) ?_
        exact lc_free C0 hE hP hD hS hR hL hi5 hl kk
      by_cases k25 : x = 25
      · refine lv_tableIn (tgt := 975) hx hb dL_law_33 (by rw [k25]; decide) (by rw [k25]; decide) (by rw [k25]; rfl) (by decide) ?_
        exact lc_image C0 hE hP hD hS hR hL hi5 hl kk
      by_cases k26 : x = 26
      · refine lv_tableIn (tgt := 998) hx hb dL_law_33 (by rw [k26]; decide) (by rw [k26]; decide) (by rw [k26]; rfl) (by decide) ?_
        exact lc_restore C0 hE hP hD hS hR hL hi5 hl kk
      by_cases k27 : x = 27
      · refine lv_tableIn (tgt := 1021) hx hb dL_law_33 (by rw [k27]; decide) (by rw [k27]; decide) (by rw [k27]; rfl) (by decide) ?_
        exact lc_kind C0 hE hP hD hS hR hL hi5 hl kk
      by_cases k28 : x = 28
      · refine lv_tableIn (tgt := 1044) hx hb dL_law_33 (by rw [k28]; decide) (by rw [k28]; decide) (by rw [k28]; rfl) (by decide) ?_
        exact lc_as C0 hE hP hD hS hR hL hi5 hl kk
      by_cases k29 : x = 29
      · refine lv_tableIn (tgt := 1077) hx hb dL_law_33 (by rw [k29]; decide) (by rw [k29]; decide) (by rw [k29]; rfl) (by decide) ?_
        exact lc_ask C0 hE hP hD hS hR hL hi5 hl kk
      by_cases k30 : x = 30
      · refine lv_tableIn (tgt := 1110) hx hb dL_law_33 (by rw [k30]; decide) (by rw [k30]; decide) (by rw [k30]; rfl) (by decide) ?_
        exact lc_trace C0 hE hP hD hS hR hL hi5 hl kk
      by_cases k31 : x = 31
      · refine lv_tableIn (tgt := 1133) hx hb dL_law_33 (by rw [k31]; decide) (by rw [k31]; decide) (by rw [k31]; rfl) (by decide) ?_
        exact lc_count C0 hE hP hD hS hR hL hi5 hl kk
      by_cases k32 : x = 32
      · refine lv_tableIn (tgt := 1156) hx hb dL_law_33 (by rw [k32]; decide) (by rw [k32]; decide) (by rw [k32]; rfl) (by decide) ?_
        exact lc_status C0 hE hP hD hS hR hL hi5 hl kk
      refine lv_tableOut (tgt := 1169) hx hb dL_law_33 (bs_sw (fun v h1 h2 => ?_)) (by decide) (kk X Y G M N H locs hP hD hS hR)
      rcases (show v = 0 ∨ v = 1 ∨ v = 2 ∨ v = 3 ∨ v = 4 ∨ v = 5 ∨ v = 6 ∨ v = 7 ∨ v = 8 ∨ v = 9 ∨ v = 10 ∨ v = 11 ∨ v = 12 ∨ v = 13 ∨ v = 14 ∨ v = 15 ∨ v = 16 ∨ v = 17 ∨ v = 18 ∨ v = 19 ∨ v = 20 ∨ v = 21 ∨ v = 22 ∨ v = 23 ∨ v = 24 ∨ v = 25 ∨ v = 26 ∨ v = 27 ∨ v = 28 ∨ v = 29 ∨ v = 30 ∨ v = 31 ∨ v = 32 by omega) with rfl | rfl | rfl | rfl | rfl | rfl | rfl | rfl | rfl | rfl | rfl | rfl | rfl | rfl | rfl | rfl | rfl | rfl | rfl | rfl | rfl | rfl | rfl | rfl | rfl | rfl | rfl | rfl | rfl | rfl | rfl | rfl | rfl
      · exact bs_ne 0 (by decide) k0
      · exact bs_ne 1 (by decide) k1
      · exact bs_ne 2 (by decide) k2
      · exact bs_ne 3 (by decide) k3
      · exact bs_ne 4 (by decide) k4
      · exact bs_ne 5 (by decide) k5
      · exact bs_ne 6 (by decide) k6
      · exact bs_ne 7 (by decide) k7
      · exact bs_ne 8 (by decide) k8
      · exact bs_ne 9 (by decide) k9
      · exact bs_ne 10 (by decide) k10
      · exact bs_ne 11 (by decide) k11
      · exact bs_ne 12 (by decide) k12
      · exact bs_ne 13 (by decide) k13
      · exact bs_ne 14 (by decide) k14
      · exact bs_ne 15 (by decide) k15
      · exact bs_ne 16 (by decide) k16
      · exact bs_ne 17 (by decide) k17
      · exact bs_ne 18 (by decide) k18
      · exact bs_ne 19 (by decide) k19
      · exact bs_ne 20 (by decide) k20
      · exact bs_ne 21 (by decide) k21
      · exact bs_ne 22 (by decide) k22
      · exact bs_ne 23 (by decide) k23
      · exact bs_ne 24 (by decide) k24
      · exact bs_ne 25 (by decide) k25
      · exact bs_ne 26 (by decide) k26
      · exact bs_ne 27 (by decide) k27
      · exact bs_ne 28 (by decide) k28
      · exact bs_ne 29 (by decide) k29
      · exact bs_ne 30 (by decide) k30
      · exact bs_ne 31 (by decide) k31
      · exact bs_ne 32 (by decide) k32
set_option maxHeartbeats 8000000 in
set_option maxRecDepth 100000 in
theorem whole_start {p : Program} {e : Env} {s : State} {m : MethodId} {below : List Frame} {meth : Method} {c : Code} (l : Launch) (hflags : l.flags = flags0) {b L : Nat} {xs : Nat → Int32} (hL : L ≤ 3072) (C0 : lw_At p s m meth c b L xs) : W p l e room_1 s m #[Value.ref b] below meth c s.heap [] 0 0 (lw_Z below #[Value.ref b] s) (entryFrame m ([Value.ref b] : List Value).toArray 4) := by
  obtain ⟨hx, hb, hr, hml, hown, hts0, hX, hbl, hlocks, hgv⟩ := id C0
  have hts : ∀ w ∈ wsL_law, w.before #[Value.ref b] s = true := fun w hw => hts0 w (wsL_law_in w hw)
  have hA : ∀ q : Nat, s.heap.size ≤ q → (fun q : Nat => s.heap.size ≤ q) q := fun _ h => h
  have hbA : ¬ (fun q : Nat => s.heap.size ≤ q) b := Nat.not_le.mpr hbl
  obtain ⟨c0, s0, n0⟩ := u_known (C := RX0) (T := TX0) (N := 6) (n := 6) hts0 inX0 (hts (.instantiable RX0 6) (by decide +kernel))
  obtain ⟨c1, s1, n1⟩ := u_known (C := RX1) (T := TX1) (N := 6) (n := 6) hts0 inX1 (hts (.instantiable RX1 6) (by decide +kernel))
  obtain ⟨c2, s2, n2⟩ := u_known (C := RX2) (T := TX2) (N := 7) (n := 7) hts0 inX2 (hts (.instantiable RX2 7) (by decide +kernel))
  obtain ⟨c3, s3, n3⟩ := u_known (C := RX3) (T := TX3) (N := 3) (n := 3) hts0 inX3 (hts (.instantiable RX3 3) (by decide +kernel))
  obtain ⟨c4, s4, n4⟩ := u_known (C := RX4) (T := TX4) (N := 13) (n := 13) hts0 inX4 (hts (.instantiable RX4 13) (by decide +kernel))
  obtain ⟨c5, s5, n5⟩ := u_known (C := RX5) (T := TX5) (N := 4) (n := 4) hts0 inX5 (hts (.instantiable RX5 4) (by decide +kernel))
  obtain ⟨c6, s6, n6⟩ := u_known (C := RX6) (T := TX6) (N := 11) (n := 11) hts0 inX6 (hts (.instantiable RX6 11) (by decide +kernel))
  obtain ⟨c7, s7, n7⟩ := u_known (C := RX7) (T := TX7) (N := 24) (n := 24) hts0 inX7 (hts (.instantiable RX7 24) (by decide +kernel))
  obtain ⟨dC, dI, hKc⟩ : ∃ (dC : Nat → ClassId) (dI : Nat → Nat → Nat), ∀ (k : Nat) (q : vw_C), vwCl[k]? = some q → u_Kn s q.1 q.2.1 q.2.2 (dC k) (dI k) := by
    refine ⟨fun k => [c0, c1, c2, c3, c4, c5, c6, c7].getD k c0, fun k => [s0, s1, s2, s3, s4, s5, s6, s7].getD k s0, ?_⟩
    intro k q hq
    match k, hq with
    | 0, hq => cases hq; exact n0
    | 1, hq => cases hq; exact n1
    | 2, hq => cases hq; exact n2
    | 3, hq => cases hq; exact n3
    | 4, hq => cases hq; exact n4
    | 5, hq => cases hq; exact n5
    | 6, hq => cases hq; exact n6
    | 7, hq => cases hq; exact n7
    | k + 8, hq => cases (show none = some q from hq)
  have aI := hts (.arrayClass .int) (by decide +kernel)
  have aZ := hts (.arrayClass .boolean) (by decide +kernel)
  have oS := hts0 (.arrayOver (.object RX4)) (by decide +kernel)
  have oG := hts0 (.arrayOver (.array .int)) (by decide +kernel)
  obtain ⟨cI, kI, jI, fI, gI, hI⟩ := Cond.arrayClass_spec aI
  obtain ⟨cZ, kZ, jZ, fZ, gZ, hZ⟩ := Cond.arrayClass_spec aZ
  obtain ⟨jS, cS, kS, fS, -, gS, hS0, eS⟩ := Cond.arrayOver_spec oS
  obtain ⟨jG, cG, kG, fG, -, gG, hG, eG⟩ := arrayOverA_spec oG
  have hK : va_K (dC, dI) vwCl [(cI, .int), (cZ, .boolean), (cS, .object RX4), (cG, .array .int)] s := by
    refine ⟨hKc, fun k q hq => ?_⟩
    match k, hq with
    | 0, hq => cases hq; exact ⟨fun n z => ⟨fun k h => (by cases h), kI, gI, jI, hI⟩, fI⟩
    | 1, hq => cases hq; exact ⟨fun n z => ⟨fun k h => (by cases h), kZ, gZ, jZ, hZ⟩, fZ⟩
    | 2, hq => cases hq; exact ⟨fun n z => ⟨fun k h => (by cases h), kS, gS, jS, hS0⟩, kS, jS, gS, hS0, fS, eS⟩
    | 3, hq => cases hq; exact ⟨fun n z => ⟨fun k h => (by cases h), kG, gG, jG, hG⟩, eG⟩
    | k + 4, hq => cases (show none = some q from hq)
  have hE : bs_E dC dI cI cZ cS cG s := ⟨hK, va_Nw.of rfl (hts0 (.methodLinkNest RX4 87 yX6_reading "PromiseScales") (by decide +kernel)), va_Nw.of rfl (hts0 (.methodLinkNest RX2 55 yX6_reading "PromiseScales") (by decide +kernel)), va_Nw.of rfl (hts0 (.methodLinkNest RX1 44 yX6_isOfKind "PromiseScales") (by decide +kernel))⟩
  have hCE : ct_E dC dI cI cZ cS cG s := ⟨hE, va_AO.of oS, oG, va_Nw.of rfl (hts0 (.methodLinkNest RX6 18 yX5_init "PromiseScales") (by decide +kernel)), va_Nw.of rfl (hts0 (.methodLinkNest RX6 25 yX4_init "PromiseScales") (by decide +kernel)), va_Nw.of rfl (hts0 (.methodLinkNest RX6 42 yX0_init "PromiseScales") (by decide +kernel)), va_Nw.of rfl (hts0 (.methodLinkNest RX6 49 yX2_init "PromiseScales") (by decide +kernel)), va_Nw.of rfl (hts0 (.methodLinkNest RX6 56 yX1_init "PromiseScales") (by decide +kernel))⟩
  have hS : va_S (fun q : Nat => s.heap.size ≤ q) s.heap s.heap [] := va_S.rf
  have hP : va_P (dC, dI) vwCl [] s.heap := fun k q h => by simp at h
  have hD : va_D (fun q : Nat => s.heap.size ≤ q) [] := ⟨fun i j p q h => by simp at h, fun k q h => by simp at h⟩
  have hl := lv_entry ([.ref b]) (n := 4) (Nat.le_of_ble_eq_true rfl)
  rw [lg_entry_eq]
  generalize (lg_sl ([.ref b]) ++ List.replicate (4 - (lg_sl ([.ref b])).length) Slot.unset).toArray = ls at hl ⊢
  have hl : lv_has ls 4 [(0, .ref b)] := hl
  refine va_new (ci := 6) (fs := [.null, .null, .null, .null, .null, .null, .null, .null, .null, .int 0, .int 0]) (C := RX6) (T := TX6) (N := 11) hx hb hts inlX6 tyX6 tyX6_ok hown (hts (.classLink RL 7 RX6) (by decide +kernel)) (hts (.instantiable RX6 11) (by decide +kernel)) (hts (.initialized RX6) (by decide +kernel)) hK hP hD hS hA rfl (fun j hj => by rcases (show j = 0 ∨ j = 1 ∨ j = 2 ∨ j = 3 ∨ j = 4 ∨ j = 5 ∨ j = 6 ∨ j = 7 ∨ j = 8 ∨ j = 9 ∨ j = 10 by omega) with rfl | rfl | rfl | rfl | rfl | rfl | rfl | rfl | rfl | rfl | rfl <;> rfl) (Nat.le_of_ble_eq_true rfl) (Nat.le_of_ble_eq_true rfl) dL_law_0 (fun x H hP hD hS => ?_)
  have hP : va_P (dC, dI) vwCl [(x, .inr (6, [.null, .null, .null, .null, .null, .null, .null, .null, .null, .int 0, .int 0]))] H := hP
  have hD : va_D (fun q : Nat => s.heap.size ≤ q) [(x, .inr (6, [.null, .null, .null, .null, .null, .null, .null, .null, .null, .int 0, .int 0]))] := hD
  refine lv_dup hx hb dL_law_3 rfl ?_
  have hFc := va_free (wc := [(x, .inr (6, [.null, .null, .null, .null, .null, .null, .null, .null, .null, .int 0, .int 0]))]) hD hS hA [0] rfl
  refine va_callv (va_runI (As := []) (rest := [.ref x]) ⟨hx, hb, hml, hown, hts⟩ (ct_X6 l dC dI cI cZ cS cG x H.size) (cwI 0 hts gL_law_X6_init rfl rfl rfl (hts (.initialized RX6) (by decide +kernel)) (hts (.methodLink RL 9 yX6_init) (by decide +kernel)) (hts (.instanceMethod yX6_init) (by decide +kernel)) rfl (by decide +kernel) ⟨Nat.le_of_ble_eq_true rfl, Nat.le_of_ble_eq_true rfl⟩) (ct_preS hCE hP hD 0 rfl) rfl rfl hl.1 rfl (lv_room (Nat.le_of_ble_eq_true rfl)) dL_law_4 ⟨Nat.le_of_ble_eq_true rfl, Nat.le_of_ble_eq_true rfl⟩) hS (fun q _ h => hFc q h) hFc (fun u t H1 locs ht hvm hw hB hz1 hk1 hS => ?_)
  obtain ⟨hP1, hD1⟩ := hB
  rw [ht] at hP1
  obtain ⟨a1, g, f1, hf1, hx1, rfl⟩ := hw
  obtain ⟨hP, hD⟩ := va_join (wr := []) (w1 := (wX cI cS cG a1 g (fun _ => 0) (bs_up2 (fun _ _ => 0) 44 f1) (fun _ _ => 0))) hP hD [0] [] rfl rfl (by decide) (by decide) hk1 hFc hP1 hD1
  generalize H1 = H at hP hS ⊢
  have hP : va_P (dC, dI) vwCl (wX cI cS cG a1 g (fun _ => 0) (bs_up2 (fun _ _ => 0) 44 f1) (fun _ _ => 0)) H := hP
  have hD : va_D (fun q : Nat => s.heap.size ≤ q) (wX cI cS cG a1 g (fun _ => 0) (bs_up2 (fun _ _ => 0) 44 f1) (fun _ _ => 0)) := hD
  refine lv_astore_n (lv' := [(1, .ref x), (0, .ref b)]) hx hb dL_law_7 rfl hl (by decide) rfl (fun ls hl => ?_)
  refine va_new (ci := 7) (fs := [.null, .null, .null, .int 0, .int 0, .null, .null, .null, .int 0, .int 0, .int 0, .int 0, .int 0, .int 0, .int 0, .null, .null, .int 0, .null, .int 0, .null, .null, .null, .int 0]) (C := RX7) (T := TX7) (N := 24) hx hb hts inlX7 tyX7 tyX7_ok hown (hts (.classLink RL 10 RX7) (by decide +kernel)) (hts (.instantiable RX7 24) (by decide +kernel)) (hts (.initialized RX7) (by decide +kernel)) hK hP hD hS hA rfl (fun j hj => by rcases (show j = 0 ∨ j = 1 ∨ j = 2 ∨ j = 3 ∨ j = 4 ∨ j = 5 ∨ j = 6 ∨ j = 7 ∨ j = 8 ∨ j = 9 ∨ j = 10 ∨ j = 11 ∨ j = 12 ∨ j = 13 ∨ j = 14 ∨ j = 15 ∨ j = 16 ∨ j = 17 ∨ j = 18 ∨ j = 19 ∨ j = 20 ∨ j = 21 ∨ j = 22 ∨ j = 23 by omega) with rfl | rfl | rfl | rfl | rfl | rfl | rfl | rfl | rfl | rfl | rfl | rfl | rfl | rfl | rfl | rfl | rfl | rfl | rfl | rfl | rfl | rfl | rfl | rfl <;> rfl) (Nat.le_of_ble_eq_true rfl) (Nat.le_of_ble_eq_true rfl) dL_law_8 (fun o H hP hD hS => ?_)
  refine lv_dup hx hb dL_law_11 rfl ?_
  have hFc := va_free (wc := [(o, .inr (7, [.null, .null, .null, .int 0, .int 0, .null, .null, .null, .int 0, .int 0, .int 0, .int 0, .int 0, .int 0, .int 0, .null, .null, .int 0, .null, .int 0, .null, .null, .null, .int 0]))]) hD hS hA [66] rfl
  refine va_callv (va_runI (As := []) (rest := [.ref o]) ⟨hx, hb, hml, hown, hts⟩ (ct_X7 l dC dI cI cZ cS cG o H.size) (cwI 0 hts gL_law_X7_init rfl rfl rfl (hts (.initialized RX7) (by decide +kernel)) (hts (.methodLink RL 12 yX7_init) (by decide +kernel)) (hts (.instanceMethod yX7_init) (by decide +kernel)) rfl (by decide +kernel) ⟨Nat.le_of_ble_eq_true rfl, Nat.le_of_ble_eq_true rfl⟩) (ct_preS hCE hP hD 66 rfl) rfl rfl hl.1 rfl (lv_room (Nat.le_of_ble_eq_true rfl)) dL_law_12 ⟨Nat.le_of_ble_eq_true rfl, Nat.le_of_ble_eq_true rfl⟩) hS (fun q _ h => hFc q h) hFc (fun u t H1 locs ht hvm hw hB hz1 hk1 hS => ?_)
  obtain ⟨hP1, hD1⟩ := hB
  rw [ht] at hP1
  obtain ⟨a2, f2, hf2, ho2, rfl⟩ := hw
  obtain ⟨hP, hD⟩ := va_join (wr := (wX cI cS cG a1 g (fun _ => 0) (bs_up2 (fun _ _ => 0) 44 f1) (fun _ _ => 0))) (w1 := (wM cI cZ a2 (fun _ => 0) (bs_up2 (fun _ _ => 0) 1 f2))) hP hD [66] [0, 1, 2, 3, 4, 5, 6, 7, 8, 9, 10, 11, 12, 13, 14, 15, 16, 17, 18, 19, 20, 21, 22, 23, 24, 25, 26, 27, 28, 29, 30, 31, 32, 33, 34, 35, 36, 37, 38, 39, 40, 41, 42, 43, 44, 45, 46, 47, 48, 49, 50, 51, 52, 53, 54, 55, 56, 57, 58, 59, 60, 61, 62, 63, 64, 65] rfl rfl (by decide) (by decide) hk1 hFc hP1 hD1
  generalize H1 = H at hP hS ⊢
  refine lv_astore_n (lv' := [(2, .ref o), (1, .ref x), (0, .ref b)]) hx hb dL_law_15 rfl hl (by decide) rfl (fun ls hl => ?_)
  refine lv_iconst (v := 0) hx hb dL_law_16 (by decide) ?_
  refine lv_istore_n (lv' := [(3, .int 0), (2, .ref o), (1, .ref x), (0, .ref b)]) hx hb dL_law_17 rfl hl (by decide) rfl (fun ls hl => ?_)
  have hP9 := hP.sub (ws' := (wb cI cZ cS cG (fun i => if i < 58 then a1 i else a2 i) g (fun _ => 0) (bs_up2 (fun _ _ => 0) 44 f1) (fun _ _ => 0) (fun _ => 0) (bs_up2 (fun _ _ => 0) 1 f2)).flatten) [0, 1, 2, 3, 4, 5, 6, 7, 8, 9, 10, 11, 12, 13, 14, 15, 16, 17, 18, 19, 20, 21, 22, 23, 24, 25, 26, 27, 28, 29, 30, 31, 32, 33, 34, 35, 36, 37, 38, 39, 40, 41, 42, 43, 44, 45, 46, 47, 48, 49, 50, 51, 52, 53, 54, 55, 56, 57, 66, 67, 68, 69, 70, 71, 72, 73, 74, 75, 76, 77, 78, 58, 59, 60, 61, 62, 63, 64, 65] rfl
  have hD9 := hD.sub (ws' := (wb cI cZ cS cG (fun i => if i < 58 then a1 i else a2 i) g (fun _ => 0) (bs_up2 (fun _ _ => 0) 44 f1) (fun _ _ => 0) (fun _ => 0) (bs_up2 (fun _ _ => 0) 1 f2)).flatten) [0, 1, 2, 3, 4, 5, 6, 7, 8, 9, 10, 11, 12, 13, 14, 15, 16, 17, 18, 19, 20, 21, 22, 23, 24, 25, 26, 27, 28, 29, 30, 31, 32, 33, 34, 35, 36, 37, 38, 39, 40, 41, 42, 43, 44, 45, 46, 47, 48, 49, 50, 51, 52, 53, 54, 55, 56, 57, 66, 67, 68, 69, 70, 71, 72, 73, 74, 75, 76, 77, 78, 58, 59, 60, 61, 62, 63, 64, 65] (by decide) rfl
  subst hx1 ho2
  refine W.widen (k := 600000) (n := 7302250) (Nat.le_of_ble_eq_true rfl) (Nat.le_of_ble_eq_true rfl) ?_
  exact lw_loop (a := fun i => if i < 58 then a1 i else a2 i) hL C0 hE (L + 1) 0 (Nat.zero_le L) (by omega) _ _ _ _ _ H _ ls hP9 hD9 hS (rr_0 hf1 hf2) hl
