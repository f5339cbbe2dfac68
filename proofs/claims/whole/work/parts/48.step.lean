/-! the law: one row a case -/
theorem lw_in {i L k : Nat} (hL : L ≤ 3072) (h : i + 5 < L) (hk : k ≤ 5) : vp_in (nI i + nI k) L := by
  rw [nI_add]
  exact vp_in_nI (by omega) (by omega)
/-- what a case of the law goes on with -/
def lw_K (p : Program) (l : Launch) (e : Env) (s : State) (m : MethodId) (below : List Frame) (meth : Method) (c : Code) (b : Nat) (dC : Nat → ClassId) (dI : Nat → Nat → Nat) (cI cZ cS cG : ClassId) (a g : Nat → Nat) (ls : Array Slot) (Q : State → Prop) : Prop :=
  ∀ (X : Nat → Int32) (Y G : Nat → Nat → Int32) (M : Nat → Int32) (N : Nat → Nat → Int32) (H : Heap) (locs : List Loc), va_P (dC, dI) vwCl (wb cI cZ cS cG a g X Y G M N).flatten H → va_D (fun q : Nat => s.heap.size ≤ q) (wb cI cZ cS cG a g X Y G M N).flatten → va_S (fun q : Nat => s.heap.size ≤ q) s.heap H locs → RR X Y G M N → W p l e room_1 s m #[Value.ref b] below meth c H locs 600000 7302250 Q (F0 m 1169 ls [])
section LC
variable {p : Program} {l : Launch} {e : Env} {s : State} {m : MethodId} {below : List Frame} {meth : Method} {c : Code} {b L : Nat} {xs : Nat → Int32} {dC : Nat → ClassId} {dI : Nat → Nat → Nat} {cI cZ cS cG : ClassId} {a g : Nat → Nat} {X : Nat → Int32} {Y G : Nat → Nat → Int32} {M : Nat → Int32} {N : Nat → Nat → Int32} {H : Heap} {locs : List Loc} {i : Nat} {ls : Array Slot} {Q : State → Prop}
set_option maxHeartbeats 4000000 in
set_option maxRecDepth 100000 in
theorem lc_row (C0 : lw_At p s m meth c b L xs) (hE : bs_E dC dI cI cZ cS cG s) (hP : va_P (dC, dI) vwCl (wb cI cZ cS cG a g X Y G M N).flatten H) (hD : va_D (fun q : Nat => s.heap.size ≤ q) (wb cI cZ cS cG a g X Y G M N).flatten) (hS : va_S (fun q : Nat => s.heap.size ≤ q) s.heap H locs) (hR : RR X Y G M N) (hL : L ≤ 3072) (hi : i + 5 < L) (hl : lv_has ls 4 [(3, .int (nI i)), (2, .ref (a 58)), (1, .ref (a 0)), (0, .ref b)]) (kk : lw_K p l e s m below meth c b dC dI cI cZ cS cG a g ls Q) : W p l e room_1 s m #[Value.ref b] below meth c H locs 600000 7302250 Q (F0 m 180 ls []) := by
  obtain ⟨hx, hb, hr, hml, hown, hts0, hX, hbl, hlocks, hgv⟩ := C0
  have hts : ∀ w ∈ wsL_law, w.before #[Value.ref b] s = true := fun w hw => hts0 w (wsL_law_in w hw)
  have hA : ∀ q : Nat, s.heap.size ≤ q → (fun q : Nat => s.heap.size ≤ q) q := fun _ h => h
  have hbA : ¬ (fun q : Nat => s.heap.size ≤ q) b := Nat.not_le.mpr hbl
  obtain ⟨z, w, e1, e2, e3, hR1⟩ := rs_row hR (xs (nI i + nI 1).toNatClampNeg) (xs (nI i + nI 2).toNatClampNeg) (xs (nI i + nI 3).toNatClampNeg)
  refine lv_aload_n hx hb dL_law_180 rfl (lv_at hl 2 rfl) ?_
  refine lv_aload_n hx hb dL_law_181 rfl (lv_at hl 3 rfl) ?_
  refine lv_iload_n hx hb dL_law_182 rfl (lv_at hl 0 rfl) ?_
  refine lv_iconst (v := nI 1) hx hb dL_law_183 (by decide) ?_
  refine lv_iadd hx hb dL_law_184 ?_
  refine va_sld hx hb hX hbl hbA hS (lw_in hL hi (Nat.le_of_ble_eq_true rfl)) dL_law_185 ?_
  refine lv_aload_n hx hb dL_law_186 rfl (lv_at hl 3 rfl) ?_
  refine lv_iload_n hx hb dL_law_187 rfl (lv_at hl 0 rfl) ?_
  refine lv_iconst (v := nI 2) hx hb dL_law_188 (by decide) ?_
  refine lv_iadd hx hb dL_law_189 ?_
  refine va_sld hx hb hX hbl hbA hS (lw_in hL hi (Nat.le_of_ble_eq_true rfl)) dL_law_190 ?_
  refine lv_aload_n hx hb dL_law_191 rfl (lv_at hl 3 rfl) ?_
  refine lv_iload_n hx hb dL_law_192 rfl (lv_at hl 0 rfl) ?_
  refine lv_iconst (v := nI 3) hx hb dL_law_193 (by decide) ?_
  refine lv_iadd hx hb dL_law_194 ?_
  refine va_sld hx hb hX hbl hbA hS (lw_in hL hi (Nat.le_of_ble_eq_true rfl)) dL_law_195 ?_
  refine lw_cB (As := [.int (xs (nI i + nI 1).toNatClampNeg), .int (xs (nI i + nI 2).toNatClampNeg), .int (xs (nI i + nI 3).toNatClampNeg)]) (cb := [wb0 cI cS cG a g X Y, wb1 cI cS cG a g X Y, wb13 cI g G]) (cb' := [wb0 cI cS cG a g (upd X 1 (z.2.1)) (bs_up2 (bs_up2 Y 43 (z.2.2.2.1)) 44 (z.2.2.2.2)), wb1 cI cS cG a g (upd X 1 (z.2.1)) (bs_up2 (bs_up2 Y 43 (z.2.2.2.1)) 44 (z.2.2.2.2)), wb13 cI g (z.2.2.1)]) (bl1 := wb cI cZ cS cG a g (upd X 1 (z.2.1)) (bs_up2 (bs_up2 Y 43 (z.2.2.2.1)) 44 (z.2.2.2.2)) (z.2.2.1) M N) ⟨hx, hb, hml, hown, hts⟩ (k_X6_row l dC dI cI cZ cS cG (a 0) (a 1) (a 5) (a 7) (a 15) (a 23) (a 31) (a 48) (a 53) (a 56) (a 2) g (a 3) (a 4) (X 0) (X 1) G (Y 43) (Y 44) (xs (nI i + nI 1).toNatClampNeg) (xs (nI i + nI 2).toNatClampNeg) (xs (nI i + nI 3).toNatClampNeg) z e1) (cwV 3 hts gL_law_X6_row rfl rfl rfl (by decide +kernel) ⟨Nat.le_of_ble_eq_true rfl, Nat.le_of_ble_eq_true rfl⟩) hE hP hD hA hS [0, 1, 13] (by decide) rfl 6 0 rfl rfl rfl rfl wb_f rfl rfl hl.1 (Nat.le_of_ble_eq_true rfl) dL_law_196 ⟨Nat.le_of_ble_eq_true rfl, Nat.le_of_ble_eq_true rfl⟩ (fun H locs hP hD hS => ?_)
  refine lv_aload_n hx hb dL_law_199 rfl (lv_at hl 1 rfl) ?_
  refine lv_aload_n hx hb dL_law_200 rfl (lv_at hl 3 rfl) ?_
  refine lv_iload_n hx hb dL_law_201 rfl (lv_at hl 0 rfl) ?_
  refine lv_iconst (v := nI 1) hx hb dL_law_202 (by decide) ?_
  refine lv_iadd hx hb dL_law_203 ?_
  refine va_sld hx hb hX hbl hbA hS (lw_in hL hi (Nat.le_of_ble_eq_true rfl)) dL_law_204 ?_
  refine lv_aload_n hx hb dL_law_205 rfl (lv_at hl 3 rfl) ?_
  refine lv_iload_n hx hb dL_law_206 rfl (lv_at hl 0 rfl) ?_
  refine lv_iconst (v := nI 2) hx hb dL_law_207 (by decide) ?_
  refine lv_iadd hx hb dL_law_208 ?_
  refine va_sld hx hb hX hbl hbA hS (lw_in hL hi (Nat.le_of_ble_eq_true rfl)) dL_law_209 ?_
  refine lv_aload_n hx hb dL_law_210 rfl (lv_at hl 3 rfl) ?_
  refine lv_iload_n hx hb dL_law_211 rfl (lv_at hl 0 rfl) ?_
  refine lv_iconst (v := nI 3) hx hb dL_law_212 (by decide) ?_
  refine lv_iadd hx hb dL_law_213 ?_
  refine va_sld hx hb hX hbl hbA hS (lw_in hL hi (Nat.le_of_ble_eq_true rfl)) dL_law_214 ?_
  refine lw_cB (As := [.int (xs (nI i + nI 1).toNatClampNeg), .int (xs (nI i + nI 2).toNatClampNeg), .int (xs (nI i + nI 3).toNatClampNeg)]) (cb := [wb12 cI cZ a M N]) (cb' := [wb12 cI cZ a (upd M 0 (w.2.2.2.2)) (bs_up2 (bs_up2 (bs_up2 N 0 (w.2.1)) 1 (w.2.2.1)) 2 (w.2.2.2.1))]) (bl1 := wb cI cZ cS cG a g (upd X 1 (z.2.1)) (bs_up2 (bs_up2 Y 43 (z.2.2.2.1)) 44 (z.2.2.2.2)) (z.2.2.1) (upd M 0 (w.2.2.2.2)) (bs_up2 (bs_up2 (bs_up2 N 0 (w.2.1)) 1 (w.2.2.1)) 2 (w.2.2.2.1))) ⟨hx, hb, hml, hown, hts⟩ (k_X7_row l dC dI cI cZ cS cG (a 58) (a 59) (a 60) (a 61) (a 62) (a 63) (a 64) (a 65) (a 66) (a 67) (a 68) (a 69) (a 70) (N 0) (N 1) (N 2) (M 0) (M 1) (N 3) (N 4) (N 5) (M 2) (M 3) (M 4) (M 5) (M 6) (M 7) (M 8) (N 6) (N 7) (M 9) (N 8) (M 10) (N 9) (N 10) (N 11) (M 11) (xs (nI i + nI 1).toNatClampNeg) (xs (nI i + nI 2).toNatClampNeg) (xs (nI i + nI 3).toNatClampNeg) w e2) (cwV 3 hts gL_law_X7_row rfl rfl rfl (by decide +kernel) ⟨Nat.le_of_ble_eq_true rfl, Nat.le_of_ble_eq_true rfl⟩) hE hP hD hA hS [12] (by decide) rfl 7 0 rfl rfl rfl rfl wb_f rfl rfl hl.1 (Nat.le_of_ble_eq_true rfl) dL_law_215 ⟨Nat.le_of_ble_eq_true rfl, Nat.le_of_ble_eq_true rfl⟩ (fun H locs hP hD hS => ?_)
  refine lv_icmp_eq (tgt := 1169) hx hb dL_law_218 (by decide) (fun _ => ?_) (fun c9 => absurd e3 c9)
  exact kk _ _ _ _ _ H locs hP hD hS hR1
set_option maxHeartbeats 4000000 in
set_option maxRecDepth 100000 in
theorem lc_set (C0 : lw_At p s m meth c b L xs) (hE : bs_E dC dI cI cZ cS cG s) (hP : va_P (dC, dI) vwCl (wb cI cZ cS cG a g X Y G M N).flatten H) (hD : va_D (fun q : Nat => s.heap.size ≤ q) (wb cI cZ cS cG a g X Y G M N).flatten) (hS : va_S (fun q : Nat => s.heap.size ≤ q) s.heap H locs) (hR : RR X Y G M N) (hL : L ≤ 3072) (hi : i + 5 < L) (hl : lv_has ls 4 [(3, .int (nI i)), (2, .ref (a 58)), (1, .ref (a 0)), (0, .ref b)]) (kk : lw_K p l e s m below meth c b dC dI cI cZ cS cG a g ls Q) : W p l e room_1 s m #[Value.ref b] below meth c H locs 600000 7302250 Q (F0 m 223 ls []) := by
  obtain ⟨hx, hb, hr, hml, hown, hts0, hX, hbl, hlocks, hgv⟩ := C0
  have hts : ∀ w ∈ wsL_law, w.before #[Value.ref b] s = true := fun w hw => hts0 w (wsL_law_in w hw)
  have hA : ∀ q : Nat, s.heap.size ≤ q → (fun q : Nat => s.heap.size ≤ q) q := fun _ h => h
  have hbA : ¬ (fun q : Nat => s.heap.size ≤ q) b := Nat.not_le.mpr hbl
  obtain ⟨z, w, e1, e2, e3, hR1⟩ := rs_set hR (xs (nI i + nI 1).toNatClampNeg) (xs (nI i + nI 2).toNatClampNeg) (xs (nI i + nI 3).toNatClampNeg)
  refine lv_aload_n hx hb dL_law_223 rfl (lv_at hl 2 rfl) ?_
  refine lv_aload_n hx hb dL_law_224 rfl (lv_at hl 3 rfl) ?_
  refine lv_iload_n hx hb dL_law_225 rfl (lv_at hl 0 rfl) ?_
  refine lv_iconst (v := nI 1) hx hb dL_law_226 (by decide) ?_
  refine lv_iadd hx hb dL_law_227 ?_
  refine va_sld hx hb hX hbl hbA hS (lw_in hL hi (Nat.le_of_ble_eq_true rfl)) dL_law_228 ?_
  refine lv_aload_n hx hb dL_law_229 rfl (lv_at hl 3 rfl) ?_
  refine lv_iload_n hx hb dL_law_230 rfl (lv_at hl 0 rfl) ?_
  refine lv_iconst (v := nI 2) hx hb dL_law_231 (by decide) ?_
  refine lv_iadd hx hb dL_law_232 ?_
  refine va_sld hx hb hX hbl hbA hS (lw_in hL hi (Nat.le_of_ble_eq_true rfl)) dL_law_233 ?_
  refine lv_aload_n hx hb dL_law_234 rfl (lv_at hl 3 rfl) ?_
  refine lv_iload_n hx hb dL_law_235 rfl (lv_at hl 0 rfl) ?_
  refine lv_iconst (v := nI 3) hx hb dL_law_236 (by decide) ?_
  refine lv_iadd hx hb dL_law_237 ?_
  refine va_sld hx hb hX hbl hbA hS (lw_in hL hi (Nat.le_of_ble_eq_true rfl)) dL_law_238 ?_
  refine lw_cB (As := [.int (xs (nI i + nI 1).toNatClampNeg), .int (xs (nI i + nI 2).toNatClampNeg), .int (xs (nI i + nI 3).toNatClampNeg)]) (cb := [wb0 cI cS cG a g X Y, wb1 cI cS cG a g X Y, wb13 cI g G]) (cb' := [wb0 cI cS cG a g (upd X 1 (z.2.1)) Y, wb1 cI cS cG a g (upd X 1 (z.2.1)) Y, wb13 cI g (z.2.2)]) (bl1 := wb cI cZ cS cG a g (upd X 1 (z.2.1)) Y (z.2.2) M N) ⟨hx, hb, hml, hown, hts⟩ (k_X6_set l dC dI cI cZ cS cG (a 0) (a 1) (a 5) (a 7) (a 15) (a 23) (a 31) (a 48) (a 53) (a 56) (a 2) g (a 3) (a 4) (X 0) (X 1) G (Y 43) (Y 44) (xs (nI i + nI 1).toNatClampNeg) (xs (nI i + nI 2).toNatClampNeg) (xs (nI i + nI 3).toNatClampNeg) z e1) (cwV 3 hts gL_law_X6_set rfl rfl rfl (by decide +kernel) ⟨Nat.le_of_ble_eq_true rfl, Nat.le_of_ble_eq_true rfl⟩) hE hP hD hA hS [0, 1, 13] (by decide) rfl 6 0 rfl rfl rfl rfl wb_f rfl rfl hl.1 (Nat.le_of_ble_eq_true rfl) dL_law_239 ⟨Nat.le_of_ble_eq_true rfl, Nat.le_of_ble_eq_true rfl⟩ (fun H locs hP hD hS => ?_)
  refine lv_aload_n hx hb dL_law_242 rfl (lv_at hl 1 rfl) ?_
  refine lv_aload_n hx hb dL_law_243 rfl (lv_at hl 3 rfl) ?_
  refine lv_iload_n hx hb dL_law_244 rfl (lv_at hl 0 rfl) ?_
  refine lv_iconst (v := nI 1) hx hb dL_law_245 (by decide) ?_
  refine lv_iadd hx hb dL_law_246 ?_
  refine va_sld hx hb hX hbl hbA hS (lw_in hL hi (Nat.le_of_ble_eq_true rfl)) dL_law_247 ?_
  refine lv_aload_n hx hb dL_law_248 rfl (lv_at hl 3 rfl) ?_
  refine lv_iload_n hx hb dL_law_249 rfl (lv_at hl 0 rfl) ?_
  refine lv_iconst (v := nI 2) hx hb dL_law_250 (by decide) ?_
  refine lv_iadd hx hb dL_law_251 ?_
  refine va_sld hx hb hX hbl hbA hS (lw_in hL hi (Nat.le_of_ble_eq_true rfl)) dL_law_252 ?_
  refine lv_aload_n hx hb dL_law_253 rfl (lv_at hl 3 rfl) ?_
  refine lv_iload_n hx hb dL_law_254 rfl (lv_at hl 0 rfl) ?_
  refine lv_iconst (v := nI 3) hx hb dL_law_255 (by decide) ?_
  refine lv_iadd hx hb dL_law_256 ?_
  refine va_sld hx hb hX hbl hbA hS (lw_in hL hi (Nat.le_of_ble_eq_true rfl)) dL_law_257 ?_
  refine lw_cB (As := [.int (xs (nI i + nI 1).toNatClampNeg), .int (xs (nI i + nI 2).toNatClampNeg), .int (xs (nI i + nI 3).toNatClampNeg)]) (cb := [wb12 cI cZ a M N]) (cb' := [wb12 cI cZ a (upd M 0 (w.2.2)) (bs_up2 N 2 (w.2.1))]) (bl1 := wb cI cZ cS cG a g (upd X 1 (z.2.1)) Y (z.2.2) (upd M 0 (w.2.2)) (bs_up2 N 2 (w.2.1))) ⟨hx, hb, hml, hown, hts⟩ (k_X7_set l dC dI cI cZ cS cG (a 58) (a 59) (a 60) (a 61) (a 62) (a 63) (a 64) (a 65) (a 66) (a 67) (a 68) (a 69) (a 70) (N 0) (N 1) (N 2) (M 0) (M 1) (N 3) (N 4) (N 5) (M 2) (M 3) (M 4) (M 5) (M 6) (M 7) (M 8) (N 6) (N 7) (M 9) (N 8) (M 10) (N 9) (N 10) (N 11) (M 11) (xs (nI i + nI 1).toNatClampNeg) (xs (nI i + nI 2).toNatClampNeg) (xs (nI i + nI 3).toNatClampNeg) w e2) (cwV 3 hts gL_law_X7_set rfl rfl rfl (by decide +kernel) ⟨Nat.le_of_ble_eq_true rfl, Nat.le_of_ble_eq_true rfl⟩) hE hP hD hA hS [12] (by decide) rfl 7 0 rfl rfl rfl rfl wb_f rfl rfl hl.1 (Nat.le_of_ble_eq_true rfl) dL_law_258 ⟨Nat.le_of_ble_eq_true rfl, Nat.le_of_ble_eq_true rfl⟩ (fun H locs hP hD hS => ?_)
  refine lv_icmp_eq (tgt := 1169) hx hb dL_law_261 (by decide) (fun _ => ?_) (fun c9 => absurd e3 c9)
  exact kk _ _ _ _ _ H locs hP hD hS hR1
set_option maxHeartbeats 4000000 in
set_option maxRecDepth 100000 in
theorem lc_copy (C0 : lw_At p s m meth c b L xs) (hE : bs_E dC dI cI cZ cS cG s) (hP : va_P (dC, dI) vwCl (wb cI cZ cS cG a g X Y G M N).flatten H) (hD : va_D (fun q : Nat => s.heap.size ≤ q) (wb cI cZ cS cG a g X Y G M N).flatten) (hS : va_S (fun q : Nat => s.heap.size ≤ q) s.heap H locs) (hR : RR X Y G M N) (hL : L ≤ 3072) (hi : i + 5 < L) (hl : lv_has ls 4 [(3, .int (nI i)), (2, .ref (a 58)), (1, .ref (a 0)), (0, .ref b)]) (kk : lw_K p l e s m below meth c b dC dI cI cZ cS cG a g ls Q) : W p l e room_1 s m #[Value.ref b] below meth c H locs 600000 7302250 Q (F0 m 266 ls []) := by
  obtain ⟨hx, hb, hr, hml, hown, hts0, hX, hbl, hlocks, hgv⟩ := C0
  have hts : ∀ w ∈ wsL_law, w.before #[Value.ref b] s = true := fun w hw => hts0 w (wsL_law_in w hw)
  have hA : ∀ q : Nat, s.heap.size ≤ q → (fun q : Nat => s.heap.size ≤ q) q := fun _ h => h
  have hbA : ¬ (fun q : Nat => s.heap.size ≤ q) b := Nat.not_le.mpr hbl
  obtain ⟨z, w, e1, e2, e3, hR1⟩ := rs_copy hR (xs (nI i + nI 1).toNatClampNeg) (xs (nI i + nI 2).toNatClampNeg) (xs (nI i + nI 3).toNatClampNeg) (xs (nI i + nI 4).toNatClampNeg) (xs (nI i + nI 5).toNatClampNeg)
  refine lv_aload_n hx hb dL_law_266 rfl (lv_at hl 2 rfl) ?_
  refine lv_aload_n hx hb dL_law_267 rfl (lv_at hl 3 rfl) ?_
  refine lv_iload_n hx hb dL_law_268 rfl (lv_at hl 0 rfl) ?_
  refine lv_iconst (v := nI 1) hx hb dL_law_269 (by decide) ?_
  refine lv_iadd hx hb dL_law_270 ?_
  refine va_sld hx hb hX hbl hbA hS (lw_in hL hi (Nat.le_of_ble_eq_true rfl)) dL_law_271 ?_
  refine lv_aload_n hx hb dL_law_272 rfl (lv_at hl 3 rfl) ?_
  refine lv_iload_n hx hb dL_law_273 rfl (lv_at hl 0 rfl) ?_
  refine lv_iconst (v := nI 2) hx hb dL_law_274 (by decide) ?_
  refine lv_iadd hx hb dL_law_275 ?_
  refine va_sld hx hb hX hbl hbA hS (lw_in hL hi (Nat.le_of_ble_eq_true rfl)) dL_law_276 ?_
  refine lv_aload_n hx hb dL_law_277 rfl (lv_at hl 3 rfl) ?_
  refine lv_iload_n hx hb dL_law_278 rfl (lv_at hl 0 rfl) ?_
  refine lv_iconst (v := nI 3) hx hb dL_law_279 (by decide) ?_
  refine lv_iadd hx hb dL_law_280 ?_
  refine va_sld hx hb hX hbl hbA hS (lw_in hL hi (Nat.le_of_ble_eq_true rfl)) dL_law_281 ?_
  refine lv_aload_n hx hb dL_law_282 rfl (lv_at hl 3 rfl) ?_
  refine lv_iload_n hx hb dL_law_283 rfl (lv_at hl 0 rfl) ?_
  refine lv_iconst (v := nI 4) hx hb dL_law_284 (by decide) ?_
  refine lv_iadd hx hb dL_law_285 ?_
  refine va_sld hx hb hX hbl hbA hS (lw_in hL hi (Nat.le_of_ble_eq_true rfl)) dL_law_286 ?_
  refine lv_aload_n hx hb dL_law_287 rfl (lv_at hl 3 rfl) ?_
  refine lv_iload_n hx hb dL_law_288 rfl (lv_at hl 0 rfl) ?_
  refine lv_iconst (v := nI 5) hx hb dL_law_289 (by decide) ?_
  refine lv_iadd hx hb dL_law_290 ?_
  refine va_sld hx hb hX hbl hbA hS (lw_in hL hi (Nat.le_of_ble_eq_true rfl)) dL_law_291 ?_
  refine lw_cB (As := [.int (xs (nI i + nI 1).toNatClampNeg), .int (xs (nI i + nI 2).toNatClampNeg), .int (xs (nI i + nI 3).toNatClampNeg), .int (xs (nI i + nI 4).toNatClampNeg), .int (xs (nI i + nI 5).toNatClampNeg)]) (cb := [wb0 cI cS cG a g X Y, wb1 cI cS cG a g X Y, wb13 cI g G]) (cb' := [wb0 cI cS cG a g (upd X 1 (z.2.1)) Y, wb1 cI cS cG a g (upd X 1 (z.2.1)) Y, wb13 cI g (z.2.2)]) (bl1 := wb cI cZ cS cG a g (upd X 1 (z.2.1)) Y (z.2.2) M N) ⟨hx, hb, hml, hown, hts⟩ (k_X6_copy l dC dI cI cZ cS cG (a 0) (a 1) (a 5) (a 7) (a 15) (a 23) (a 31) (a 48) (a 53) (a 56) (a 2) g (a 3) (a 4) (X 0) (X 1) G (Y 43) (Y 44) (xs (nI i + nI 1).toNatClampNeg) (xs (nI i + nI 2).toNatClampNeg) (xs (nI i + nI 3).toNatClampNeg) (xs (nI i + nI 4).toNatClampNeg) (xs (nI i + nI 5).toNatClampNeg) z e1) (cwV 5 hts gL_law_X6_copy rfl rfl rfl (by decide +kernel) ⟨Nat.le_of_ble_eq_true rfl, Nat.le_of_ble_eq_true rfl⟩) hE hP hD hA hS [0, 1, 13] (by decide) rfl 6 0 rfl rfl rfl rfl wb_f rfl rfl hl.1 (Nat.le_of_ble_eq_true rfl) dL_law_292 ⟨Nat.le_of_ble_eq_true rfl, Nat.le_of_ble_eq_true rfl⟩ (fun H locs hP hD hS => ?_)
  refine lv_aload_n hx hb dL_law_295 rfl (lv_at hl 1 rfl) ?_
  refine lv_aload_n hx hb dL_law_296 rfl (lv_at hl 3 rfl) ?_
  refine lv_iload_n hx hb dL_law_297 rfl (lv_at hl 0 rfl) ?_
  refine lv_iconst (v := nI 1) hx hb dL_law_298 (by decide) ?_
  refine lv_iadd hx hb dL_law_299 ?_
  refine va_sld hx hb hX hbl hbA hS (lw_in hL hi (Nat.le_of_ble_eq_true rfl)) dL_law_300 ?_
  refine lv_aload_n hx hb dL_law_301 rfl (lv_at hl 3 rfl) ?_
  refine lv_iload_n hx hb dL_law_302 rfl (lv_at hl 0 rfl) ?_
  refine lv_iconst (v := nI 2) hx hb dL_law_303 (by decide) ?_
  refine lv_iadd hx hb dL_law_304 ?_
  refine va_sld hx hb hX hbl hbA hS (lw_in hL hi (Nat.le_of_ble_eq_true rfl)) dL_law_305 ?_
  refine lv_aload_n hx hb dL_law_306 rfl (lv_at hl 3 rfl) ?_
  refine lv_iload_n hx hb dL_law_307 rfl (lv_at hl 0 rfl) ?_
  refine lv_iconst (v := nI 3) hx hb dL_law_308 (by decide) ?_
  refine lv_iadd hx hb dL_law_309 ?_
  refine va_sld hx hb hX hbl hbA hS (lw_in hL hi (Nat.le_of_ble_eq_true rfl)) dL_law_310 ?_
  refine lv_aload_n hx hb dL_law_311 rfl (lv_at hl 3 rfl) ?_
  refine lv_iload_n hx hb dL_law_312 rfl (lv_at hl 0 rfl) ?_
  refine lv_iconst (v := nI 4) hx hb dL_law_313 (by decide) ?_
  refine lv_iadd hx hb dL_law_314 ?_
  refine va_sld hx hb hX hbl hbA hS (lw_in hL hi (Nat.le_of_ble_eq_true rfl)) dL_law_315 ?_
  refine lv_aload_n hx hb dL_law_316 rfl (lv_at hl 3 rfl) ?_
  refine lv_iload_n hx hb dL_law_317 rfl (lv_at hl 0 rfl) ?_
  refine lv_iconst (v := nI 5) hx hb dL_law_318 (by decide) ?_
  refine lv_iadd hx hb dL_law_319 ?_
  refine va_sld hx hb hX hbl hbA hS (lw_in hL hi (Nat.le_of_ble_eq_true rfl)) dL_law_320 ?_
  refine lw_cB (As := [.int (xs (nI i + nI 1).toNatClampNeg), .int (xs (nI i + nI 2).toNatClampNeg), .int (xs (nI i + nI 3).toNatClampNeg), .int (xs (nI i + nI 4).toNatClampNeg), .int (xs (nI i + nI 5).toNatClampNeg)]) (cb := [wb12 cI cZ a M N]) (cb' := [wb12 cI cZ a (upd M 0 (w.2.2.1)) (bs_up2 (bs_up2 N 2 (w.2.1)) 4 (w.2.2.2))]) (bl1 := wb cI cZ cS cG a g (upd X 1 (z.2.1)) Y (z.2.2) (upd M 0 (w.2.2.1)) (bs_up2 (bs_up2 N 2 (w.2.1)) 4 (w.2.2.2))) ⟨hx, hb, hml, hown, hts⟩ (k_X7_copy l dC dI cI cZ cS cG (a 58) (a 59) (a 60) (a 61) (a 62) (a 63) (a 64) (a 65) (a 66) (a 67) (a 68) (a 69) (a 70) (N 0) (N 1) (N 2) (M 0) (M 1) (N 3) (N 4) (N 5) (M 2) (M 3) (M 4) (M 5) (M 6) (M 7) (M 8) (N 6) (N 7) (M 9) (N 8) (M 10) (N 9) (N 10) (N 11) (M 11) (xs (nI i + nI 1).toNatClampNeg) (xs (nI i + nI 2).toNatClampNeg) (xs (nI i + nI 3).toNatClampNeg) (xs (nI i + nI 4).toNatClampNeg) (xs (nI i + nI 5).toNatClampNeg) w e2) (cwV 5 hts gL_law_X7_copy rfl rfl rfl (by decide +kernel) ⟨Nat.le_of_ble_eq_true rfl, Nat.le_of_ble_eq_true rfl⟩) hE hP hD hA hS [12] (by decide) rfl 7 0 rfl rfl rfl rfl wb_f rfl rfl hl.1 (Nat.le_of_ble_eq_true rfl) dL_law_321 ⟨Nat.le_of_ble_eq_true rfl, Nat.le_of_ble_eq_true rfl⟩ (fun H locs hP hD hS => ?_)
  refine lv_icmp_eq (tgt := 1169) hx hb dL_law_324 (by decide) (fun _ => ?_) (fun c9 => absurd e3 c9)
  exact kk _ _ _ _ _ H locs hP hD hS hR1
set_option maxHeartbeats 4000000 in
set_option maxRecDepth 100000 in
theorem lc_drop (C0 : lw_At p s m meth c b L xs) (hE : bs_E dC dI cI cZ cS cG s) (hP : va_P (dC, dI) vwCl (wb cI cZ cS cG a g X Y G M N).flatten H) (hD : va_D (fun q : Nat => s.heap.size ≤ q) (wb cI cZ cS cG a g X Y G M N).flatten) (hS : va_S (fun q : Nat => s.heap.size ≤ q) s.heap H locs) (hR : RR X Y G M N) (hL : L ≤ 3072) (hi : i + 5 < L) (hl : lv_has ls 4 [(3, .int (nI i)), (2, .ref (a 58)), (1, .ref (a 0)), (0, .ref b)]) (kk : lw_K p l e s m below meth c b dC dI cI cZ cS cG a g ls Q) : W p l e room_1 s m #[Value.ref b] below meth c H locs 600000 7302250 Q (F0 m 329 ls []) := by
  obtain ⟨hx, hb, hr, hml, hown, hts0, hX, hbl, hlocks, hgv⟩ := C0
  have hts : ∀ w ∈ wsL_law, w.before #[Value.ref b] s = true := fun w hw => hts0 w (wsL_law_in w hw)
  have hA : ∀ q : Nat, s.heap.size ≤ q → (fun q : Nat => s.heap.size ≤ q) q := fun _ h => h
  have hbA : ¬ (fun q : Nat => s.heap.size ≤ q) b := Nat.not_le.mpr hbl
  obtain ⟨z, w, e1, e2, e3, hR1⟩ := rs_drop hR (xs (nI i + nI 1).toNatClampNeg)
  refine lv_aload_n hx hb dL_law_329 rfl (lv_at hl 2 rfl) ?_
  refine lv_aload_n hx hb dL_law_330 rfl (lv_at hl 3 rfl) ?_
  refine lv_iload_n hx hb dL_law_331 rfl (lv_at hl 0 rfl) ?_
  refine lv_iconst (v := nI 1) hx hb dL_law_332 (by decide) ?_
  refine lv_iadd hx hb dL_law_333 ?_
  refine va_sld hx hb hX hbl hbA hS (lw_in hL hi (Nat.le_of_ble_eq_true rfl)) dL_law_334 ?_
  refine lw_cB (As := [.int (xs (nI i + nI 1).toNatClampNeg)]) (cb := [wb0 cI cS cG a g X Y, wb1 cI cS cG a g X Y, wb13 cI g G]) (cb' := [wb0 cI cS cG a g (upd X 1 (z.2.1)) (bs_up2 Y 44 (z.2.2)), wb1 cI cS cG a g (upd X 1 (z.2.1)) (bs_up2 Y 44 (z.2.2)), wb13 cI g G]) (bl1 := wb cI cZ cS cG a g (upd X 1 (z.2.1)) (bs_up2 Y 44 (z.2.2)) G M N) ⟨hx, hb, hml, hown, hts⟩ (k_X6_drop l dC dI cI cZ cS cG (a 0) (a 1) (a 5) (a 7) (a 15) (a 23) (a 31) (a 48) (a 53) (a 56) (a 2) g (a 3) (a 4) (X 0) (X 1) G (Y 43) (Y 44) (xs (nI i + nI 1).toNatClampNeg) z e1) (cwV 1 hts gL_law_X6_drop rfl rfl rfl (by decide +kernel) ⟨Nat.le_of_ble_eq_true rfl, Nat.le_of_ble_eq_true rfl⟩) hE hP hD hA hS [0, 1, 13] (by decide) rfl 6 0 rfl rfl rfl rfl wb_f rfl rfl hl.1 (Nat.le_of_ble_eq_true rfl) dL_law_335 ⟨Nat.le_of_ble_eq_true rfl, Nat.le_of_ble_eq_true rfl⟩ (fun H locs hP hD hS => ?_)
  refine lv_aload_n hx hb dL_law_338 rfl (lv_at hl 1 rfl) ?_
  refine lv_aload_n hx hb dL_law_339 rfl (lv_at hl 3 rfl) ?_
  refine lv_iload_n hx hb dL_law_340 rfl (lv_at hl 0 rfl) ?_
  refine lv_iconst (v := nI 1) hx hb dL_law_341 (by decide) ?_
  refine lv_iadd hx hb dL_law_342 ?_
  refine va_sld hx hb hX hbl hbA hS (lw_in hL hi (Nat.le_of_ble_eq_true rfl)) dL_law_343 ?_
  refine lw_cB (As := [.int (xs (nI i + nI 1).toNatClampNeg)]) (cb := [wb12 cI cZ a M N]) (cb' := [wb12 cI cZ a (upd M 0 (w.2.2)) (bs_up2 N 1 (w.2.1))]) (bl1 := wb cI cZ cS cG a g (upd X 1 (z.2.1)) (bs_up2 Y 44 (z.2.2)) G (upd M 0 (w.2.2)) (bs_up2 N 1 (w.2.1))) ⟨hx, hb, hml, hown, hts⟩ (k_X7_drop l dC dI cI cZ cS cG (a 58) (a 59) (a 60) (a 61) (a 62) (a 63) (a 64) (a 65) (a 66) (a 67) (a 68) (a 69) (a 70) (N 0) (N 1) (N 2) (M 0) (M 1) (N 3) (N 4) (N 5) (M 2) (M 3) (M 4) (M 5) (M 6) (M 7) (M 8) (N 6) (N 7) (M 9) (N 8) (M 10) (N 9) (N 10) (N 11) (M 11) (xs (nI i + nI 1).toNatClampNeg) w e2) (cwV 1 hts gL_law_X7_drop rfl rfl rfl (by decide +kernel) ⟨Nat.le_of_ble_eq_true rfl, Nat.le_of_ble_eq_true rfl⟩) hE hP hD hA hS [12] (by decide) rfl 7 0 rfl rfl rfl rfl wb_f rfl rfl hl.1 (Nat.le_of_ble_eq_true rfl) dL_law_344 ⟨Nat.le_of_ble_eq_true rfl, Nat.le_of_ble_eq_true rfl⟩ (fun H locs hP hD hS => ?_)
  refine lv_icmp_eq (tgt := 1169) hx hb dL_law_347 (by decide) (fun _ => ?_) (fun c9 => absurd e3 c9)
  exact kk _ _ _ _ _ H locs hP hD hS hR1
set_option maxHeartbeats 4000000 in
set_option maxRecDepth 100000 in
theorem lc_feed (C0 : lw_At p s m meth c b L xs) (hE : bs_E dC dI cI cZ cS cG s) (hP : va_P (dC, dI) vwCl (wb cI cZ cS cG a g X Y G M N).flatten H) (hD : va_D (fun q : Nat => s.heap.size ≤ q) (wb cI cZ cS cG a g X Y G M N).flatten) (hS : va_S (fun q : Nat => s.heap.size ≤ q) s.heap H locs) (hR : RR X Y G M N) (hL : L ≤ 3072) (hi : i + 5 < L) (hl : lv_has ls 4 [(3, .int (nI i)), (2, .ref (a 58)), (1, .ref (a 0)), (0, .ref b)]) (kk : lw_K p l e s m below meth c b dC dI cI cZ cS cG a g ls Q) : W p l e room_1 s m #[Value.ref b] below meth c H locs 600000 7302250 Q (F0 m 352 ls []) := by
  obtain ⟨hx, hb, hr, hml, hown, hts0, hX, hbl, hlocks, hgv⟩ := C0
  have hts : ∀ w ∈ wsL_law, w.before #[Value.ref b] s = true := fun w hw => hts0 w (wsL_law_in w hw)
  have hA : ∀ q : Nat, s.heap.size ≤ q → (fun q : Nat => s.heap.size ≤ q) q := fun _ h => h
  have hbA : ¬ (fun q : Nat => s.heap.size ≤ q) b := Nat.not_le.mpr hbl
  obtain ⟨z, w, e1, e2, e3, hR1⟩ := rs_feed hR (xs (nI i + nI 1).toNatClampNeg)
  refine lv_aload_n hx hb dL_law_352 rfl (lv_at hl 2 rfl) ?_
  refine lv_aload_n hx hb dL_law_353 rfl (lv_at hl 3 rfl) ?_
  refine lv_iload_n hx hb dL_law_354 rfl (lv_at hl 0 rfl) ?_
  refine lv_iconst (v := nI 1) hx hb dL_law_355 (by decide) ?_
  refine lv_iadd hx hb dL_law_356 ?_
  refine va_sld hx hb hX hbl hbA hS (lw_in hL hi (Nat.le_of_ble_eq_true rfl)) dL_law_357 ?_
  refine lw_cB (As := [.int (xs (nI i + nI 1).toNatClampNeg)]) (cb := [wb0 cI cS cG a g X Y, wb2 cI cS cG a g X Y]) (cb' := [wb0 cI cS cG a g (upd X 2 (z.2.2)) (bs_up2 Y 0 (z.2.1)), wb2 cI cS cG a g (upd X 2 (z.2.2)) (bs_up2 Y 0 (z.2.1))]) (bl1 := wb cI cZ cS cG a g (upd X 2 (z.2.2)) (bs_up2 Y 0 (z.2.1)) G M N) ⟨hx, hb, hml, hown, hts⟩ (k_X6_feed l dC dI cI cZ cS cG (a 0) (a 1) (a 5) (a 7) (a 15) (a 23) (a 31) (a 48) (a 53) (a 56) (a 6) (X 0) (X 1) (Y 0) (X 2) (X 3) (X 4) (xs (nI i + nI 1).toNatClampNeg) z e1) (cwV 1 hts gL_law_X6_feed rfl rfl rfl (by decide +kernel) ⟨Nat.le_of_ble_eq_true rfl, Nat.le_of_ble_eq_true rfl⟩) hE hP hD hA hS [0, 2] (by decide) rfl 6 0 rfl rfl rfl rfl wb_f rfl rfl hl.1 (Nat.le_of_ble_eq_true rfl) dL_law_358 ⟨Nat.le_of_ble_eq_true rfl, Nat.le_of_ble_eq_true rfl⟩ (fun H locs hP hD hS => ?_)
  refine lv_aload_n hx hb dL_law_361 rfl (lv_at hl 1 rfl) ?_
  refine lv_aload_n hx hb dL_law_362 rfl (lv_at hl 3 rfl) ?_
  refine lv_iload_n hx hb dL_law_363 rfl (lv_at hl 0 rfl) ?_
  refine lv_iconst (v := nI 1) hx hb dL_law_364 (by decide) ?_
  refine lv_iadd hx hb dL_law_365 ?_
  refine va_sld hx hb hX hbl hbA hS (lw_in hL hi (Nat.le_of_ble_eq_true rfl)) dL_law_366 ?_
  refine lw_cB (As := [.int (xs (nI i + nI 1).toNatClampNeg)]) (cb := [wb12 cI cZ a M N]) (cb' := [wb12 cI cZ a (upd M 2 (w.2.2)) (bs_up2 N 5 (w.2.1))]) (bl1 := wb cI cZ cS cG a g (upd X 2 (z.2.2)) (bs_up2 Y 0 (z.2.1)) G (upd M 2 (w.2.2)) (bs_up2 N 5 (w.2.1))) ⟨hx, hb, hml, hown, hts⟩ (k_X7_feed l dC dI cI cZ cS cG (a 58) (a 59) (a 60) (a 61) (a 62) (a 63) (a 64) (a 65) (a 66) (a 67) (a 68) (a 69) (a 70) (N 0) (N 1) (N 2) (M 0) (M 1) (N 3) (N 4) (N 5) (M 2) (M 3) (M 4) (M 5) (M 6) (M 7) (M 8) (N 6) (N 7) (M 9) (N 8) (M 10) (N 9) (N 10) (N 11) (M 11) (xs (nI i + nI 1).toNatClampNeg) w e2) (cwV 1 hts gL_law_X7_feed rfl rfl rfl (by decide +kernel) ⟨Nat.le_of_ble_eq_true rfl, Nat.le_of_ble_eq_true rfl⟩) hE hP hD hA hS [12] (by decide) rfl 7 0 rfl rfl rfl rfl wb_f rfl rfl hl.1 (Nat.le_of_ble_eq_true rfl) dL_law_367 ⟨Nat.le_of_ble_eq_true rfl, Nat.le_of_ble_eq_true rfl⟩ (fun H locs hP hD hS => ?_)
  refine lv_icmp_eq (tgt := 1169) hx hb dL_law_370 (by decide) (fun _ => ?_) (fun c9 => absurd e3 c9)
  exact kk _ _ _ _ _ H locs hP hD hS hR1
set_option maxHeartbeats 4000000 in
set_option maxRecDepth 100000 in
theorem lc_scales (C0 : lw_At p s m meth c b L xs) (hE : bs_E dC dI cI cZ cS cG s) (hP : va_P (dC, dI) vwCl (wb cI cZ cS cG a g X Y G M N).flatten H) (hD : va_D (fun q : Nat => s.heap.size ≤ q) (wb cI cZ cS cG a g X Y G M N).flatten) (hS : va_S (fun q : Nat => s.heap.size ≤ q) s.heap H locs) (hR : RR X Y G M N) (hL : L ≤ 3072) (hi : i + 5 < L) (hl : lv_has ls 4 [(3, .int (nI i)), (2, .ref (a 58)), (1, .ref (a 0)), (0, .ref b)]) (kk : lw_K p l e s m below meth c b dC dI cI cZ cS cG a g ls Q) : W p l e room_1 s m #[Value.ref b] below meth c H locs 600000 7302250 Q (F0 m 375 ls []) := by
  obtain ⟨hx, hb, hr, hml, hown, hts0, hX, hbl, hlocks, hgv⟩ := C0
  have hts : ∀ w ∈ wsL_law, w.before #[Value.ref b] s = true := fun w hw => hts0 w (wsL_law_in w hw)
  have hA : ∀ q : Nat, s.heap.size ≤ q → (fun q : Nat => s.heap.size ≤ q) q := fun _ h => h
  have hbA : ¬ (fun q : Nat => s.heap.size ≤ q) b := Nat.not_le.mpr hbl
  obtain ⟨z, w, e1, e2, e3, hR1⟩ := rs_scales hR
  refine lv_aload_n hx hb dL_law_375 rfl (lv_at hl 2 rfl) ?_
  refine lw_cB (As := []) (cb := [wb0 cI cS cG a g X Y, wb2 cI cS cG a g X Y, wb3 cI cS cG a g X Y, wb4 cI cS cG a g X Y, wb9 cI cS cG a g X Y]) (cb' := [wb0 cI cS cG a g (upd (upd (upd (upd (upd (upd (upd (upd (upd (upd (upd (upd (upd (upd (upd (upd (upd (upd X 0 (z.2.1)) 2 (z.2.2.1)) 3 (z.2.2.2.1)) 4 (z.2.2.2.2.1)) 5 (z.2.2.2.2.2.1)) 6 (z.2.2.2.2.2.2.1)) 7 (z.2.2.2.2.2.2.2.1)) 8 (z.2.2.2.2.2.2.2.2.1)) 9 (z.2.2.2.2.2.2.2.2.2.1)) 10 (z.2.2.2.2.2.2.2.2.2.2.1)) 11 (z.2.2.2.2.2.2.2.2.2.2.2.2.2.2.2.2.2.2.1)) 12 (z.2.2.2.2.2.2.2.2.2.2.2.2.2.2.2.2.2.2.2.1)) 13 (z.2.2.2.2.2.2.2.2.2.2.2.2.2.2.2.2.2.2.2.2.1)) 14 (z.2.2.2.2.2.2.2.2.2.2.2.2.2.2.2.2.2.2.2.2.2.1)) 15 (z.2.2.2.2.2.2.2.2.2.2.2.2.2.2.2.2.2.2.2.2.2.2.1)) 16 (z.2.2.2.2.2.2.2.2.2.2.2.2.2.2.2.2.2.2.2.2.2.2.2.1)) 35 (z.2.2.2.2.2.2.2.2.2.2.2.2.2.2.2.2.2.2.2.2.2.2.2.2.2.2.2.2.2.2.2.1)) 36 (z.2.2.2.2.2.2.2.2.2.2.2.2.2.2.2.2.2.2.2.2.2.2.2.2.2.2.2.2.2.2.2.2)) (bs_up2 (bs_up2 (bs_up2 (bs_up2 (bs_up2 (bs_up2 (bs_up2 (bs_up2 (bs_up2 (bs_up2 (bs_up2 (bs_up2 (bs_up2 (bs_up2 Y 1 (z.2.2.2.2.2.2.2.2.2.2.2.1)) 2 (z.2.2.2.2.2.2.2.2.2.2.2.2.1)) 3 (z.2.2.2.2.2.2.2.2.2.2.2.2.2.1)) 4 (z.2.2.2.2.2.2.2.2.2.2.2.2.2.2.1)) 5 (z.2.2.2.2.2.2.2.2.2.2.2.2.2.2.2.1)) 6 (z.2.2.2.2.2.2.2.2.2.2.2.2.2.2.2.2.1)) 7 (z.2.2.2.2.2.2.2.2.2.2.2.2.2.2.2.2.2.1)) 8 (z.2.2.2.2.2.2.2.2.2.2.2.2.2.2.2.2.2.2.2.2.2.2.2.2.1)) 9 (z.2.2.2.2.2.2.2.2.2.2.2.2.2.2.2.2.2.2.2.2.2.2.2.2.2.1)) 10 (z.2.2.2.2.2.2.2.2.2.2.2.2.2.2.2.2.2.2.2.2.2.2.2.2.2.2.1)) 11 (z.2.2.2.2.2.2.2.2.2.2.2.2.2.2.2.2.2.2.2.2.2.2.2.2.2.2.2.1)) 12 (z.2.2.2.2.2.2.2.2.2.2.2.2.2.2.2.2.2.2.2.2.2.2.2.2.2.2.2.2.1)) 13 (z.2.2.2.2.2.2.2.2.2.2.2.2.2.2.2.2.2.2.2.2.2.2.2.2.2.2.2.2.2.1)) 14 (z.2.2.2.2.2.2.2.2.2.2.2.2.2.2.2.2.2.2.2.2.2.2.2.2.2.2.2.2.2.2.1)), wb2 cI cS cG a g (upd (upd (upd (upd (upd (upd (upd (upd (upd (upd (upd (upd (upd (upd (upd (upd (upd (upd X 0 (z.2.1)) 2 (z.2.2.1)) 3 (z.2.2.2.1)) 4 (z.2.2.2.2.1)) 5 (z.2.2.2.2.2.1)) 6 (z.2.2.2.2.2.2.1)) 7 (z.2.2.2.2.2.2.2.1)) 8 (z.2.2.2.2.2.2.2.2.1)) 9 (z.2.2.2.2.2.2.2.2.2.1)) 10 (z.2.2.2.2.2.2.2.2.2.2.1)) 11 (z.2.2.2.2.2.2.2.2.2.2.2.2.2.2.2.2.2.2.1)) 12 (z.2.2.2.2.2.2.2.2.2.2.2.2.2.2.2.2.2.2.2.1)) 13 (z.2.2.2.2.2.2.2.2.2.2.2.2.2.2.2.2.2.2.2.2.1)) 14 (z.2.2.2.2.2.2.2.2.2.2.2.2.2.2.2.2.2.2.2.2.2.1)) 15 (z.2.2.2.2.2.2.2.2.2.2.2.2.2.2.2.2.2.2.2.2.2.2.1)) 16 (z.2.2.2.2.2.2.2.2.2.2.2.2.2.2.2.2.2.2.2.2.2.2.2.1)) 35 (z.2.2.2.2.2.2.2.2.2.2.2.2.2.2.2.2.2.2.2.2.2.2.2.2.2.2.2.2.2.2.2.1)) 36 (z.2.2.2.2.2.2.2.2.2.2.2.2.2.2.2.2.2.2.2.2.2.2.2.2.2.2.2.2.2.2.2.2)) (bs_up2 (bs_up2 (bs_up2 (bs_up2 (bs_up2 (bs_up2 (bs_up2 (bs_up2 (bs_up2 (bs_up2 (bs_up2 (bs_up2 (bs_up2 (bs_up2 Y 1 (z.2.2.2.2.2.2.2.2.2.2.2.1)) 2 (z.2.2.2.2.2.2.2.2.2.2.2.2.1)) 3 (z.2.2.2.2.2.2.2.2.2.2.2.2.2.1)) 4 (z.2.2.2.2.2.2.2.2.2.2.2.2.2.2.1)) 5 (z.2.2.2.2.2.2.2.2.2.2.2.2.2.2.2.1)) 6 (z.2.2.2.2.2.2.2.2.2.2.2.2.2.2.2.2.1)) 7 (z.2.2.2.2.2.2.2.2.2.2.2.2.2.2.2.2.2.1)) 8 (z.2.2.2.2.2.2.2.2.2.2.2.2.2.2.2.2.2.2.2.2.2.2.2.2.1)) 9 (z.2.2.2.2.2.2.2.2.2.2.2.2.2.2.2.2.2.2.2.2.2.2.2.2.2.1)) 10 (z.2.2.2.2.2.2.2.2.2.2.2.2.2.2.2.2.2.2.2.2.2.2.2.2.2.2.1)) 11 (z.2.2.2.2.2.2.2.2.2.2.2.2.2.2.2.2.2.2.2.2.2.2.2.2.2.2.2.1)) 12 (z.2.2.2.2.2.2.2.2.2.2.2.2.2.2.2.2.2.2.2.2.2.2.2.2.2.2.2.2.1)) 13 (z.2.2.2.2.2.2.2.2.2.2.2.2.2.2.2.2.2.2.2.2.2.2.2.2.2.2.2.2.2.1)) 14 (z.2.2.2.2.2.2.2.2.2.2.2.2.2.2.2.2.2.2.2.2.2.2.2.2.2.2.2.2.2.2.1)), wb3 cI cS cG a g (upd (upd (upd (upd (upd (upd (upd (upd (upd (upd (upd (upd (upd (upd (upd (upd (upd (upd X 0 (z.2.1)) 2 (z.2.2.1)) 3 (z.2.2.2.1)) 4 (z.2.2.2.2.1)) 5 (z.2.2.2.2.2.1)) 6 (z.2.2.2.2.2.2.1)) 7 (z.2.2.2.2.2.2.2.1)) 8 (z.2.2.2.2.2.2.2.2.1)) 9 (z.2.2.2.2.2.2.2.2.2.1)) 10 (z.2.2.2.2.2.2.2.2.2.2.1)) 11 (z.2.2.2.2.2.2.2.2.2.2.2.2.2.2.2.2.2.2.1)) 12 (z.2.2.2.2.2.2.2.2.2.2.2.2.2.2.2.2.2.2.2.1)) 13 (z.2.2.2.2.2.2.2.2.2.2.2.2.2.2.2.2.2.2.2.2.1)) 14 (z.2.2.2.2.2.2.2.2.2.2.2.2.2.2.2.2.2.2.2.2.2.1)) 15 (z.2.2.2.2.2.2.2.2.2.2.2.2.2.2.2.2.2.2.2.2.2.2.1)) 16 (z.2.2.2.2.2.2.2.2.2.2.2.2.2.2.2.2.2.2.2.2.2.2.2.1)) 35 (z.2.2.2.2.2.2.2.2.2.2.2.2.2.2.2.2.2.2.2.2.2.2.2.2.2.2.2.2.2.2.2.1)) 36 (z.2.2.2.2.2.2.2.2.2.2.2.2.2.2.2.2.2.2.2.2.2.2.2.2.2.2.2.2.2.2.2.2)) (bs_up2 (bs_up2 (bs_up2 (bs_up2 (bs_up2 (bs_up2 (bs_up2 (bs_up2 (bs_up2 (bs_up2 (bs_up2 (bs_up2 (bs_up2 (bs_up2 Y 1 (z.2.2.2.2.2.2.2.2.2.2.2.1)) 2 (z.2.2.2.2.2.2.2.2.2.2.2.2.1)) 3 (z.2.2.2.2.2.2.2.2.2.2.2.2.2.1)) 4 (z.2.2.2.2.2.2.2.2.2.2.2.2.2.2.1)) 5 (z.2.2.2.2.2.2.2.2.2.2.2.2.2.2.2.1)) 6 (z.2.2.2.2.2.2.2.2.2.2.2.2.2.2.2.2.1)) 7 (z.2.2.2.2.2.2.2.2.2.2.2.2.2.2.2.2.2.1)) 8 (z.2.2.2.2.2.2.2.2.2.2.2.2.2.2.2.2.2.2.2.2.2.2.2.2.1)) 9 (z.2.2.2.2.2.2.2.2.2.2.2.2.2.2.2.2.2.2.2.2.2.2.2.2.2.1)) 10 (z.2.2.2.2.2.2.2.2.2.2.2.2.2.2.2.2.2.2.2.2.2.2.2.2.2.2.1)) 11 (z.2.2.2.2.2.2.2.2.2.2.2.2.2.2.2.2.2.2.2.2.2.2.2.2.2.2.2.1)) 12 (z.2.2.2.2.2.2.2.2.2.2.2.2.2.2.2.2.2.2.2.2.2.2.2.2.2.2.2.2.1)) 13 (z.2.2.2.2.2.2.2.2.2.2.2.2.2.2.2.2.2.2.2.2.2.2.2.2.2.2.2.2.2.1)) 14 (z.2.2.2.2.2.2.2.2.2.2.2.2.2.2.2.2.2.2.2.2.2.2.2.2.2.2.2.2.2.2.1)), wb4 cI cS cG a g (upd (upd (upd (upd (upd (upd (upd (upd (upd (upd (upd (upd (upd (upd (upd (upd (upd (upd X 0 (z.2.1)) 2 (z.2.2.1)) 3 (z.2.2.2.1)) 4 (z.2.2.2.2.1)) 5 (z.2.2.2.2.2.1)) 6 (z.2.2.2.2.2.2.1)) 7 (z.2.2.2.2.2.2.2.1)) 8 (z.2.2.2.2.2.2.2.2.1)) 9 (z.2.2.2.2.2.2.2.2.2.1)) 10 (z.2.2.2.2.2.2.2.2.2.2.1)) 11 (z.2.2.2.2.2.2.2.2.2.2.2.2.2.2.2.2.2.2.1)) 12 (z.2.2.2.2.2.2.2.2.2.2.2.2.2.2.2.2.2.2.2.1)) 13 (z.2.2.2.2.2.2.2.2.2.2.2.2.2.2.2.2.2.2.2.2.1)) 14 (z.2.2.2.2.2.2.2.2.2.2.2.2.2.2.2.2.2.2.2.2.2.1)) 15 (z.2.2.2.2.2.2.2.2.2.2.2.2.2.2.2.2.2.2.2.2.2.2.1)) 16 (z.2.2.2.2.2.2.2.2.2.2.2.2.2.2.2.2.2.2.2.2.2.2.2.1)) 35 (z.2.2.2.2.2.2.2.2.2.2.2.2.2.2.2.2.2.2.2.2.2.2.2.2.2.2.2.2.2.2.2.1)) 36 (z.2.2.2.2.2.2.2.2.2.2.2.2.2.2.2.2.2.2.2.2.2.2.2.2.2.2.2.2.2.2.2.2)) (bs_up2 (bs_up2 (bs_up2 (bs_up2 (bs_up2 (bs_up2 (bs_up2 (bs_up2 (bs_up2 (bs_up2 (bs_up2 (bs_up2 (bs_up2 (bs_up2 Y 1 (z.2.2.2.2.2.2.2.2.2.2.2.1)) 2 (z.2.2.2.2.2.2.2.2.2.2.2.2.1)) 3 (z.2.2.2.2.2.2.2.2.2.2.2.2.2.1)) 4 (z.2.2.2.2.2.2.2.2.2.2.2.2.2.2.1)) 5 (z.2.2.2.2.2.2.2.2.2.2.2.2.2.2.2.1)) 6 (z.2.2.2.2.2.2.2.2.2.2.2.2.2.2.2.2.1)) 7 (z.2.2.2.2.2.2.2.2.2.2.2.2.2.2.2.2.2.1)) 8 (z.2.2.2.2.2.2.2.2.2.2.2.2.2.2.2.2.2.2.2.2.2.2.2.2.1)) 9 (z.2.2.2.2.2.2.2.2.2.2.2.2.2.2.2.2.2.2.2.2.2.2.2.2.2.1)) 10 (z.2.2.2.2.2.2.2.2.2.2.2.2.2.2.2.2.2.2.2.2.2.2.2.2.2.2.1)) 11 (z.2.2.2.2.2.2.2.2.2.2.2.2.2.2.2.2.2.2.2.2.2.2.2.2.2.2.2.1)) 12 (z.2.2.2.2.2.2.2.2.2.2.2.2.2.2.2.2.2.2.2.2.2.2.2.2.2.2.2.2.1)) 13 (z.2.2.2.2.2.2.2.2.2.2.2.2.2.2.2.2.2.2.2.2.2.2.2.2.2.2.2.2.2.1)) 14 (z.2.2.2.2.2.2.2.2.2.2.2.2.2.2.2.2.2.2.2.2.2.2.2.2.2.2.2.2.2.2.1)), wb9 cI cS cG a g (upd (upd (upd (upd (upd (upd (upd (upd (upd (upd (upd (upd (upd (upd (upd (upd (upd (upd X 0 (z.2.1)) 2 (z.2.2.1)) 3 (z.2.2.2.1)) 4 (z.2.2.2.2.1)) 5 (z.2.2.2.2.2.1)) 6 (z.2.2.2.2.2.2.1)) 7 (z.2.2.2.2.2.2.2.1)) 8 (z.2.2.2.2.2.2.2.2.1)) 9 (z.2.2.2.2.2.2.2.2.2.1)) 10 (z.2.2.2.2.2.2.2.2.2.2.1)) 11 (z.2.2.2.2.2.2.2.2.2.2.2.2.2.2.2.2.2.2.1)) 12 (z.2.2.2.2.2.2.2.2.2.2.2.2.2.2.2.2.2.2.2.1)) 13 (z.2.2.2.2.2.2.2.2.2.2.2.2.2.2.2.2.2.2.2.2.1)) 14 (z.2.2.2.2.2.2.2.2.2.2.2.2.2.2.2.2.2.2.2.2.2.1)) 15 (z.2.2.2.2.2.2.2.2.2.2.2.2.2.2.2.2.2.2.2.2.2.2.1)) 16 (z.2.2.2.2.2.2.2.2.2.2.2.2.2.2.2.2.2.2.2.2.2.2.2.1)) 35 (z.2.2.2.2.2.2.2.2.2.2.2.2.2.2.2.2.2.2.2.2.2.2.2.2.2.2.2.2.2.2.2.1)) 36 (z.2.2.2.2.2.2.2.2.2.2.2.2.2.2.2.2.2.2.2.2.2.2.2.2.2.2.2.2.2.2.2.2)) (bs_up2 (bs_up2 (bs_up2 (bs_up2 (bs_up2 (bs_up2 (bs_up2 (bs_up2 (bs_up2 (bs_up2 (bs_up2 (bs_up2 (bs_up2 (bs_up2 Y 1 (z.2.2.2.2.2.2.2.2.2.2.2.1)) 2 (z.2.2.2.2.2.2.2.2.2.2.2.2.1)) 3 (z.2.2.2.2.2.2.2.2.2.2.2.2.2.1)) 4 (z.2.2.2.2.2.2.2.2.2.2.2.2.2.2.1)) 5 (z.2.2.2.2.2.2.2.2.2.2.2.2.2.2.2.1)) 6 (z.2.2.2.2.2.2.2.2.2.2.2.2.2.2.2.2.1)) 7 (z.2.2.2.2.2.2.2.2.2.2.2.2.2.2.2.2.2.1)) 8 (z.2.2.2.2.2.2.2.2.2.2.2.2.2.2.2.2.2.2.2.2.2.2.2.2.1)) 9 (z.2.2.2.2.2.2.2.2.2.2.2.2.2.2.2.2.2.2.2.2.2.2.2.2.2.1)) 10 (z.2.2.2.2.2.2.2.2.2.2.2.2.2.2.2.2.2.2.2.2.2.2.2.2.2.2.1)) 11 (z.2.2.2.2.2.2.2.2.2.2.2.2.2.2.2.2.2.2.2.2.2.2.2.2.2.2.2.1)) 12 (z.2.2.2.2.2.2.2.2.2.2.2.2.2.2.2.2.2.2.2.2.2.2.2.2.2.2.2.2.1)) 13 (z.2.2.2.2.2.2.2.2.2.2.2.2.2.2.2.2.2.2.2.2.2.2.2.2.2.2.2.2.2.1)) 14 (z.2.2.2.2.2.2.2.2.2.2.2.2.2.2.2.2.2.2.2.2.2.2.2.2.2.2.2.2.2.2.1))]) (bl1 := wb cI cZ cS cG a g (upd (upd (upd (upd (upd (upd (upd (upd (upd (upd (upd (upd (upd (upd (upd (upd (upd (upd X 0 (z.2.1)) 2 (z.2.2.1)) 3 (z.2.2.2.1)) 4 (z.2.2.2.2.1)) 5 (z.2.2.2.2.2.1)) 6 (z.2.2.2.2.2.2.1)) 7 (z.2.2.2.2.2.2.2.1)) 8 (z.2.2.2.2.2.2.2.2.1)) 9 (z.2.2.2.2.2.2.2.2.2.1)) 10 (z.2.2.2.2.2.2.2.2.2.2.1)) 11 (z.2.2.2.2.2.2.2.2.2.2.2.2.2.2.2.2.2.2.1)) 12 (z.2.2.2.2.2.2.2.2.2.2.2.2.2.2.2.2.2.2.2.1)) 13 (z.2.2.2.2.2.2.2.2.2.2.2.2.2.2.2.2.2.2.2.2.1)) 14 (z.2.2.2.2.2.2.2.2.2.2.2.2.2.2.2.2.2.2.2.2.2.1)) 15 (z.2.2.2.2.2.2.2.2.2.2.2.2.2.2.2.2.2.2.2.2.2.2.1)) 16 (z.2.2.2.2.2.2.2.2.2.2.2.2.2.2.2.2.2.2.2.2.2.2.2.1)) 35 (z.2.2.2.2.2.2.2.2.2.2.2.2.2.2.2.2.2.2.2.2.2.2.2.2.2.2.2.2.2.2.2.1)) 36 (z.2.2.2.2.2.2.2.2.2.2.2.2.2.2.2.2.2.2.2.2.2.2.2.2.2.2.2.2.2.2.2.2)) (bs_up2 (bs_up2 (bs_up2 (bs_up2 (bs_up2 (bs_up2 (bs_up2 (bs_up2 (bs_up2 (bs_up2 (bs_up2 (bs_up2 (bs_up2 (bs_up2 Y 1 (z.2.2.2.2.2.2.2.2.2.2.2.1)) 2 (z.2.2.2.2.2.2.2.2.2.2.2.2.1)) 3 (z.2.2.2.2.2.2.2.2.2.2.2.2.2.1)) 4 (z.2.2.2.2.2.2.2.2.2.2.2.2.2.2.1)) 5 (z.2.2.2.2.2.2.2.2.2.2.2.2.2.2.2.1)) 6 (z.2.2.2.2.2.2.2.2.2.2.2.2.2.2.2.2.1)) 7 (z.2.2.2.2.2.2.2.2.2.2.2.2.2.2.2.2.2.1)) 8 (z.2.2.2.2.2.2.2.2.2.2.2.2.2.2.2.2.2.2.2.2.2.2.2.2.1)) 9 (z.2.2.2.2.2.2.2.2.2.2.2.2.2.2.2.2.2.2.2.2.2.2.2.2.2.1)) 10 (z.2.2.2.2.2.2.2.2.2.2.2.2.2.2.2.2.2.2.2.2.2.2.2.2.2.2.1)) 11 (z.2.2.2.2.2.2.2.2.2.2.2.2.2.2.2.2.2.2.2.2.2.2.2.2.2.2.2.1)) 12 (z.2.2.2.2.2.2.2.2.2.2.2.2.2.2.2.2.2.2.2.2.2.2.2.2.2.2.2.2.1)) 13 (z.2.2.2.2.2.2.2.2.2.2.2.2.2.2.2.2.2.2.2.2.2.2.2.2.2.2.2.2.2.1)) 14 (z.2.2.2.2.2.2.2.2.2.2.2.2.2.2.2.2.2.2.2.2.2.2.2.2.2.2.2.2.2.2.1)) G M N) ⟨hx, hb, hml, hown, hts⟩ (k_X6_scales l dC dI cI cZ cS cG (a 0) (a 1) (a 5) (a 7) (a 15) (a 23) (a 31) (a 48) (a 53) (a 56) (a 6) (a 8) (a 9) (a 10) (a 11) (a 12) (a 13) (a 14) (a 16) (a 17) (a 18) (a 19) (a 20) (a 21) (a 22) (a 49) (a 50) (a 51) (a 52) (X 0) (X 1) (Y 0) (X 2) (X 3) (X 4) (X 5) (X 6) (X 7) (X 8) (X 9) (X 10) (Y 1) (Y 2) (Y 3) (Y 4) (Y 5) (Y 6) (Y 7) (X 11) (X 12) (X 13) (X 14) (X 15) (X 16) (Y 8) (Y 9) (Y 10) (Y 11) (Y 12) (Y 13) (Y 14) (Y 36) (Y 37) (Y 38) (Y 39) (X 35) (X 36) z e1) (cwV 0 hts gL_law_X6_scales rfl rfl rfl (by decide +kernel) ⟨Nat.le_of_ble_eq_true rfl, Nat.le_of_ble_eq_true rfl⟩) hE hP hD hA hS [0, 2, 3, 4, 9] (by decide) rfl 6 0 rfl rfl rfl rfl wb_f rfl rfl hl.1 (Nat.le_of_ble_eq_true rfl) dL_law_376 ⟨Nat.le_of_ble_eq_true rfl, Nat.le_of_ble_eq_true rfl⟩ (fun H locs hP hD hS => ?_)
  refine lv_aload_n hx hb dL_law_379 rfl (lv_at hl 1 rfl) ?_
  refine lw_cB (As := []) (cb := [wb12 cI cZ a M N]) (cb' := [wb12 cI cZ a (upd (upd (upd (upd (upd (upd (upd (upd (upd M 1 (w.2.1)) 2 (w.2.2.2.1)) 3 (w.2.2.2.2.1)) 4 (w.2.2.2.2.2.1)) 5 (w.2.2.2.2.2.2.1)) 6 (w.2.2.2.2.2.2.2.1)) 7 (w.2.2.2.2.2.2.2.2.1)) 8 (w.2.2.2.2.2.2.2.2.2.1)) 9 (w.2.2.2.2.2.2.2.2.2.2.2)) (bs_up2 (bs_up2 N 3 (w.2.2.1)) 6 (w.2.2.2.2.2.2.2.2.2.2.1))]) (bl1 := wb cI cZ cS cG a g (upd (upd (upd (upd (upd (upd (upd (upd (upd (upd (upd (upd (upd (upd (upd (upd (upd (upd X 0 (z.2.1)) 2 (z.2.2.1)) 3 (z.2.2.2.1)) 4 (z.2.2.2.2.1)) 5 (z.2.2.2.2.2.1)) 6 (z.2.2.2.2.2.2.1)) 7 (z.2.2.2.2.2.2.2.1)) 8 (z.2.2.2.2.2.2.2.2.1)) 9 (z.2.2.2.2.2.2.2.2.2.1)) 10 (z.2.2.2.2.2.2.2.2.2.2.1)) 11 (z.2.2.2.2.2.2.2.2.2.2.2.2.2.2.2.2.2.2.1)) 12 (z.2.2.2.2.2.2.2.2.2.2.2.2.2.2.2.2.2.2.2.1)) 13 (z.2.2.2.2.2.2.2.2.2.2.2.2.2.2.2.2.2.2.2.2.1)) 14 (z.2.2.2.2.2.2.2.2.2.2.2.2.2.2.2.2.2.2.2.2.2.1)) 15 (z.2.2.2.2.2.2.2.2.2.2.2.2.2.2.2.2.2.2.2.2.2.2.1)) 16 (z.2.2.2.2.2.2.2.2.2.2.2.2.2.2.2.2.2.2.2.2.2.2.2.1)) 35 (z.2.2.2.2.2.2.2.2.2.2.2.2.2.2.2.2.2.2.2.2.2.2.2.2.2.2.2.2.2.2.2.1)) 36 (z.2.2.2.2.2.2.2.2.2.2.2.2.2.2.2.2.2.2.2.2.2.2.2.2.2.2.2.2.2.2.2.2)) (bs_up2 (bs_up2 (bs_up2 (bs_up2 (bs_up2 (bs_up2 (bs_up2 (bs_up2 (bs_up2 (bs_up2 (bs_up2 (bs_up2 (bs_up2 (bs_up2 Y 1 (z.2.2.2.2.2.2.2.2.2.2.2.1)) 2 (z.2.2.2.2.2.2.2.2.2.2.2.2.1)) 3 (z.2.2.2.2.2.2.2.2.2.2.2.2.2.1)) 4 (z.2.2.2.2.2.2.2.2.2.2.2.2.2.2.1)) 5 (z.2.2.2.2.2.2.2.2.2.2.2.2.2.2.2.1)) 6 (z.2.2.2.2.2.2.2.2.2.2.2.2.2.2.2.2.1)) 7 (z.2.2.2.2.2.2.2.2.2.2.2.2.2.2.2.2.2.1)) 8 (z.2.2.2.2.2.2.2.2.2.2.2.2.2.2.2.2.2.2.2.2.2.2.2.2.1)) 9 (z.2.2.2.2.2.2.2.2.2.2.2.2.2.2.2.2.2.2.2.2.2.2.2.2.2.1)) 10 (z.2.2.2.2.2.2.2.2.2.2.2.2.2.2.2.2.2.2.2.2.2.2.2.2.2.2.1)) 11 (z.2.2.2.2.2.2.2.2.2.2.2.2.2.2.2.2.2.2.2.2.2.2.2.2.2.2.2.1)) 12 (z.2.2.2.2.2.2.2.2.2.2.2.2.2.2.2.2.2.2.2.2.2.2.2.2.2.2.2.2.1)) 13 (z.2.2.2.2.2.2.2.2.2.2.2.2.2.2.2.2.2.2.2.2.2.2.2.2.2.2.2.2.2.1)) 14 (z.2.2.2.2.2.2.2.2.2.2.2.2.2.2.2.2.2.2.2.2.2.2.2.2.2.2.2.2.2.2.1)) G (upd (upd (upd (upd (upd (upd (upd (upd (upd M 1 (w.2.1)) 2 (w.2.2.2.1)) 3 (w.2.2.2.2.1)) 4 (w.2.2.2.2.2.1)) 5 (w.2.2.2.2.2.2.1)) 6 (w.2.2.2.2.2.2.2.1)) 7 (w.2.2.2.2.2.2.2.2.1)) 8 (w.2.2.2.2.2.2.2.2.2.1)) 9 (w.2.2.2.2.2.2.2.2.2.2.2)) (bs_up2 (bs_up2 N 3 (w.2.2.1)) 6 (w.2.2.2.2.2.2.2.2.2.2.1))) ⟨hx, hb, hml, hown, hts⟩ (k_X7_scales l dC dI cI cZ cS cG (a 58) (a 59) (a 60) (a 61) (a 62) (a 63) (a 64) (a 65) (a 66) (a 67) (a 68) (a 69) (a 70) (N 0) (N 1) (N 2) (M 0) (M 1) (N 3) (N 4) (N 5) (M 2) (M 3) (M 4) (M 5) (M 6) (M 7) (M 8) (N 6) (N 7) (M 9) (N 8) (M 10) (N 9) (N 10) (N 11) (M 11) w e2) (cwV 0 hts gL_law_X7_scales rfl rfl rfl (by decide +kernel) ⟨Nat.le_of_ble_eq_true rfl, Nat.le_of_ble_eq_true rfl⟩) hE hP hD hA hS [12] (by decide) rfl 7 0 rfl rfl rfl rfl wb_f rfl rfl hl.1 (Nat.le_of_ble_eq_true rfl) dL_law_380 ⟨Nat.le_of_ble_eq_true rfl, Nat.le_of_ble_eq_true rfl⟩ (fun H locs hP hD hS => ?_)
  refine lv_icmp_eq (tgt := 1169) hx hb dL_law_383 (by decide) (fun _ => ?_) (fun c9 => absurd e3 c9)
  exact kk _ _ _ _ _ H locs hP hD hS hR1
set_option maxHeartbeats 4000000 in
set_option maxRecDepth 100000 in
theorem lc_fault (C0 : lw_At p s m meth c b L xs) (hE : bs_E dC dI cI cZ cS cG s) (hP : va_P (dC, dI) vwCl (wb cI cZ cS cG a g X Y G M N).flatten H) (hD : va_D (fun q : Nat => s.heap.size ≤ q) (wb cI cZ cS cG a g X Y G M N).flatten) (hS : va_S (fun q : Nat => s.heap.size ≤ q) s.heap H locs) (hR : RR X Y G M N) (hL : L ≤ 3072) (hi : i + 5 < L) (hl : lv_has ls 4 [(3, .int (nI i)), (2, .ref (a 58)), (1, .ref (a 0)), (0, .ref b)]) (kk : lw_K p l e s m below meth c b dC dI cI cZ cS cG a g ls Q) : W p l e room_1 s m #[Value.ref b] below meth c H locs 600000 7302250 Q (F0 m 388 ls []) := by
  obtain ⟨hx, hb, hr, hml, hown, hts0, hX, hbl, hlocks, hgv⟩ := C0
  have hts : ∀ w ∈ wsL_law, w.before #[Value.ref b] s = true := fun w hw => hts0 w (wsL_law_in w hw)
  have hA : ∀ q : Nat, s.heap.size ≤ q → (fun q : Nat => s.heap.size ≤ q) q := fun _ h => h
  have hbA : ¬ (fun q : Nat => s.heap.size ≤ q) b := Nat.not_le.mpr hbl
  obtain ⟨z, w, e1, e2, e3, hR1⟩ := rs_fault hR
  refine lv_aload_n hx hb dL_law_388 rfl (lv_at hl 2 rfl) ?_
  refine lw_cBR (As := []) (cb := [wb0 cI cS cG a g X Y]) ⟨hx, hb, hml, hown, hts⟩ (k_X6_fault l dC dI cI cZ cS cG (a 0) (a 1) (a 5) (a 7) (a 15) (a 23) (a 31) (a 48) (a 53) (a 56) (X 0) (X 1) z e1) (cwV 0 hts gL_law_X6_fault rfl rfl rfl (by decide +kernel) ⟨Nat.le_of_ble_eq_true rfl, Nat.le_of_ble_eq_true rfl⟩) hE hP hD hA hS [0] (by decide) rfl 6 0 rfl rfl rfl rfl hl.1 (Nat.le_of_ble_eq_true rfl) dL_law_389 ⟨Nat.le_of_ble_eq_true rfl, Nat.le_of_ble_eq_true rfl⟩ (fun H locs hP hD hS => ?_)
  refine lv_aload_n hx hb dL_law_392 rfl (lv_at hl 1 rfl) ?_
  refine lw_cBR (As := []) (cb := [wb12 cI cZ a M N]) ⟨hx, hb, hml, hown, hts⟩ (k_X7_fault l dC dI cI cZ cS cG (a 58) (a 59) (a 60) (a 61) (a 62) (a 63) (a 64) (a 65) (a 66) (a 67) (a 68) (a 69) (a 70) (N 0) (N 1) (N 2) (M 0) (M 1) (N 3) (N 4) (N 5) (M 2) (M 3) (M 4) (M 5) (M 6) (M 7) (M 8) (N 6) (N 7) (M 9) (N 8) (M 10) (N 9) (N 10) (N 11) (M 11) w e2) (cwV 0 hts gL_law_X7_fault rfl rfl rfl (by decide +kernel) ⟨Nat.le_of_ble_eq_true rfl, Nat.le_of_ble_eq_true rfl⟩) hE hP hD hA hS [12] (by decide) rfl 7 0 rfl rfl rfl rfl hl.1 (Nat.le_of_ble_eq_true rfl) dL_law_393 ⟨Nat.le_of_ble_eq_true rfl, Nat.le_of_ble_eq_true rfl⟩ (fun H locs hP hD hS => ?_)
  refine lv_icmp_eq (tgt := 1169) hx hb dL_law_396 (by decide) (fun _ => ?_) (fun c9 => absurd e3 c9)
  exact kk _ _ _ _ _ H locs hP hD hS hR1
set_option maxHeartbeats 4000000 in
set_option maxRecDepth 100000 in
theorem lc_lay (C0 : lw_At p s m meth c b L xs) (hE : bs_E dC dI cI cZ cS cG s) (hP : va_P (dC, dI) vwCl (wb cI cZ cS cG a g X Y G M N).flatten H) (hD : va_D (fun q : Nat => s.heap.size ≤ q) (wb cI cZ cS cG a g X Y G M N).flatten) (hS : va_S (fun q : Nat => s.heap.size ≤ q) s.heap H locs) (hR : RR X Y G M N) (hL : L ≤ 3072) (hi : i + 5 < L) (hl : lv_has ls 4 [(3, .int (nI i)), (2, .ref (a 58)), (1, .ref (a 0)), (0, .ref b)]) (kk : lw_K p l e s m below meth c b dC dI cI cZ cS cG a g ls Q) : W p l e room_1 s m #[Value.ref b] below meth c H locs 600000 7302250 Q (F0 m 401 ls []) := by
  obtain ⟨hx, hb, hr, hml, hown, hts0, hX, hbl, hlocks, hgv⟩ := C0
  have hts : ∀ w ∈ wsL_law, w.before #[Value.ref b] s = true := fun w hw => hts0 w (wsL_law_in w hw)
  have hA : ∀ q : Nat, s.heap.size ≤ q → (fun q : Nat => s.heap.size ≤ q) q := fun _ h => h
  have hbA : ¬ (fun q : Nat => s.heap.size ≤ q) b := Nat.not_le.mpr hbl
  obtain ⟨z, w, e1, e2, e3, hR1⟩ := rs_lay hR (xs (nI i + nI 1).toNatClampNeg) (xs (nI i + nI 2).toNatClampNeg)
  refine lv_aload_n hx hb dL_law_401 rfl (lv_at hl 2 rfl) ?_
  refine lv_aload_n hx hb dL_law_402 rfl (lv_at hl 3 rfl) ?_
  refine lv_iload_n hx hb dL_law_403 rfl (lv_at hl 0 rfl) ?_
  refine lv_iconst (v := nI 1) hx hb dL_law_404 (by decide) ?_
  refine lv_iadd hx hb dL_law_405 ?_
  refine va_sld hx hb hX hbl hbA hS (lw_in hL hi (Nat.le_of_ble_eq_true rfl)) dL_law_406 ?_
  refine lv_aload_n hx hb dL_law_407 rfl (lv_at hl 3 rfl) ?_
  refine lv_iload_n hx hb dL_law_408 rfl (lv_at hl 0 rfl) ?_
  refine lv_iconst (v := nI 2) hx hb dL_law_409 (by decide) ?_
  refine lv_iadd hx hb dL_law_410 ?_
  refine va_sld hx hb hX hbl hbA hS (lw_in hL hi (Nat.le_of_ble_eq_true rfl)) dL_law_411 ?_
  refine lw_cB (As := [.int (xs (nI i + nI 1).toNatClampNeg), .int (xs (nI i + nI 2).toNatClampNeg)]) (cb := [wb0 cI cS cG a g X Y, wb3 cI cS cG a g X Y, wb9 cI cS cG a g X Y]) (cb' := [wb0 cI cS cG a g (upd (upd (upd X 10 (z.2.1)) 35 (z.2.2.2.2.2.2.1)) 36 (z.2.2.2.2.2.2.2)) (bs_up2 (bs_up2 (bs_up2 (bs_up2 Y 36 (z.2.2.1)) 37 (z.2.2.2.1)) 38 (z.2.2.2.2.1)) 39 (z.2.2.2.2.2.1)), wb3 cI cS cG a g (upd (upd (upd X 10 (z.2.1)) 35 (z.2.2.2.2.2.2.1)) 36 (z.2.2.2.2.2.2.2)) (bs_up2 (bs_up2 (bs_up2 (bs_up2 Y 36 (z.2.2.1)) 37 (z.2.2.2.1)) 38 (z.2.2.2.2.1)) 39 (z.2.2.2.2.2.1)), wb9 cI cS cG a g (upd (upd (upd X 10 (z.2.1)) 35 (z.2.2.2.2.2.2.1)) 36 (z.2.2.2.2.2.2.2)) (bs_up2 (bs_up2 (bs_up2 (bs_up2 Y 36 (z.2.2.1)) 37 (z.2.2.2.1)) 38 (z.2.2.2.2.1)) 39 (z.2.2.2.2.2.1))]) (bl1 := wb cI cZ cS cG a g (upd (upd (upd X 10 (z.2.1)) 35 (z.2.2.2.2.2.2.1)) 36 (z.2.2.2.2.2.2.2)) (bs_up2 (bs_up2 (bs_up2 (bs_up2 Y 36 (z.2.2.1)) 37 (z.2.2.2.1)) 38 (z.2.2.2.2.1)) 39 (z.2.2.2.2.2.1)) G M N) ⟨hx, hb, hml, hown, hts⟩ (k_X6_lay l dC dI cI cZ cS cG (a 0) (a 1) (a 5) (a 7) (a 15) (a 23) (a 31) (a 48) (a 53) (a 56) (a 8) (a 9) (a 10) (a 11) (a 12) (a 13) (a 14) (a 49) (a 50) (a 51) (a 52) (X 0) (X 1) (X 5) (X 6) (X 7) (X 8) (X 9) (X 10) (Y 1) (Y 2) (Y 3) (Y 4) (Y 5) (Y 6) (Y 7) (Y 36) (Y 37) (Y 38) (Y 39) (X 35) (X 36) (xs (nI i + nI 1).toNatClampNeg) (xs (nI i + nI 2).toNatClampNeg) z e1) (cwV 2 hts gL_law_X6_lay rfl rfl rfl (by decide +kernel) ⟨Nat.le_of_ble_eq_true rfl, Nat.le_of_ble_eq_true rfl⟩) hE hP hD hA hS [0, 3, 9] (by decide) rfl 6 0 rfl rfl rfl rfl wb_f rfl rfl hl.1 (Nat.le_of_ble_eq_true rfl) dL_law_412 ⟨Nat.le_of_ble_eq_true rfl, Nat.le_of_ble_eq_true rfl⟩ (fun H locs hP hD hS => ?_)
  refine lv_aload_n hx hb dL_law_415 rfl (lv_at hl 1 rfl) ?_
  refine lv_aload_n hx hb dL_law_416 rfl (lv_at hl 3 rfl) ?_
  refine lv_iload_n hx hb dL_law_417 rfl (lv_at hl 0 rfl) ?_
  refine lv_iconst (v := nI 1) hx hb dL_law_418 (by decide) ?_
  refine lv_iadd hx hb dL_law_419 ?_
  refine va_sld hx hb hX hbl hbA hS (lw_in hL hi (Nat.le_of_ble_eq_true rfl)) dL_law_420 ?_
  refine lv_aload_n hx hb dL_law_421 rfl (lv_at hl 3 rfl) ?_
  refine lv_iload_n hx hb dL_law_422 rfl (lv_at hl 0 rfl) ?_
  refine lv_iconst (v := nI 2) hx hb dL_law_423 (by decide) ?_
  refine lv_iadd hx hb dL_law_424 ?_
  refine va_sld hx hb hX hbl hbA hS (lw_in hL hi (Nat.le_of_ble_eq_true rfl)) dL_law_425 ?_
  refine lw_cB (As := [.int (xs (nI i + nI 1).toNatClampNeg), .int (xs (nI i + nI 2).toNatClampNeg)]) (cb := [wb12 cI cZ a M N]) (cb' := [wb12 cI cZ a (upd M 9 (w.2.2.2)) (bs_up2 (bs_up2 N 3 (w.2.1)) 7 (w.2.2.1))]) (bl1 := wb cI cZ cS cG a g (upd (upd (upd X 10 (z.2.1)) 35 (z.2.2.2.2.2.2.1)) 36 (z.2.2.2.2.2.2.2)) (bs_up2 (bs_up2 (bs_up2 (bs_up2 Y 36 (z.2.2.1)) 37 (z.2.2.2.1)) 38 (z.2.2.2.2.1)) 39 (z.2.2.2.2.2.1)) G (upd M 9 (w.2.2.2)) (bs_up2 (bs_up2 N 3 (w.2.1)) 7 (w.2.2.1))) ⟨hx, hb, hml, hown, hts⟩ (k_X7_lay l dC dI cI cZ cS cG (a 58) (a 59) (a 60) (a 61) (a 62) (a 63) (a 64) (a 65) (a 66) (a 67) (a 68) (a 69) (a 70) (N 0) (N 1) (N 2) (M 0) (M 1) (N 3) (N 4) (N 5) (M 2) (M 3) (M 4) (M 5) (M 6) (M 7) (M 8) (N 6) (N 7) (M 9) (N 8) (M 10) (N 9) (N 10) (N 11) (M 11) (xs (nI i + nI 1).toNatClampNeg) (xs (nI i + nI 2).toNatClampNeg) w e2) (cwV 2 hts gL_law_X7_lay rfl rfl rfl (by decide +kernel) ⟨Nat.le_of_ble_eq_true rfl, Nat.le_of_ble_eq_true rfl⟩) hE hP hD hA hS [12] (by decide) rfl 7 0 rfl rfl rfl rfl wb_f rfl rfl hl.1 (Nat.le_of_ble_eq_true rfl) dL_law_426 ⟨Nat.le_of_ble_eq_true rfl, Nat.le_of_ble_eq_true rfl⟩ (fun H locs hP hD hS => ?_)
  refine lv_icmp_eq (tgt := 1169) hx hb dL_law_429 (by decide) (fun _ => ?_) (fun c9 => absurd e3 c9)
  exact kk _ _ _ _ _ H locs hP hD hS hR1
set_option maxHeartbeats 4000000 in
set_option maxRecDepth 100000 in
theorem lc_settle (C0 : lw_At p s m meth c b L xs) (hE : bs_E dC dI cI cZ cS cG s) (hP : va_P (dC, dI) vwCl (wb cI cZ cS cG a g X Y G M N).flatten H) (hD : va_D (fun q : Nat => s.heap.size ≤ q) (wb cI cZ cS cG a g X Y G M N).flatten) (hS : va_S (fun q : Nat => s.heap.size ≤ q) s.heap H locs) (hR : RR X Y G M N) (hL : L ≤ 3072) (hi : i + 5 < L) (hl : lv_has ls 4 [(3, .int (nI i)), (2, .ref (a 58)), (1, .ref (a 0)), (0, .ref b)]) (kk : lw_K p l e s m below meth c b dC dI cI cZ cS cG a g ls Q) : W p l e room_1 s m #[Value.ref b] below meth c H locs 600000 7302250 Q (F0 m 434 ls []) := by
  obtain ⟨hx, hb, hr, hml, hown, hts0, hX, hbl, hlocks, hgv⟩ := C0
  have hts : ∀ w ∈ wsL_law, w.before #[Value.ref b] s = true := fun w hw => hts0 w (wsL_law_in w hw)
  have hA : ∀ q : Nat, s.heap.size ≤ q → (fun q : Nat => s.heap.size ≤ q) q := fun _ h => h
  have hbA : ¬ (fun q : Nat => s.heap.size ≤ q) b := Nat.not_le.mpr hbl
  obtain ⟨z, w, e1, e2, e3, hR1⟩ := rs_settle hR (xs (nI i + nI 1).toNatClampNeg) (xs (nI i + nI 2).toNatClampNeg)
  refine lv_aload_n hx hb dL_law_434 rfl (lv_at hl 2 rfl) ?_
  refine lv_aload_n hx hb dL_law_435 rfl (lv_at hl 3 rfl) ?_
  refine lv_iload_n hx hb dL_law_436 rfl (lv_at hl 0 rfl) ?_
  refine lv_iconst (v := nI 1) hx hb dL_law_437 (by decide) ?_
  refine lv_iadd hx hb dL_law_438 ?_
  refine va_sld hx hb hX hbl hbA hS (lw_in hL hi (Nat.le_of_ble_eq_true rfl)) dL_law_439 ?_
  refine lv_aload_n hx hb dL_law_440 rfl (lv_at hl 3 rfl) ?_
  refine lv_iload_n hx hb dL_law_441 rfl (lv_at hl 0 rfl) ?_
  refine lv_iconst (v := nI 2) hx hb dL_law_442 (by decide) ?_
  refine lv_iadd hx hb dL_law_443 ?_
  refine va_sld hx hb hX hbl hbA hS (lw_in hL hi (Nat.le_of_ble_eq_true rfl)) dL_law_444 ?_
  refine lw_cB (As := [.int (xs (nI i + nI 1).toNatClampNeg), .int (xs (nI i + nI 2).toNatClampNeg)]) (cb := [wb0 cI cS cG a g X Y, wb3 cI cS cG a g X Y, wb9 cI cS cG a g X Y]) (cb' := [wb0 cI cS cG a g (upd (upd (upd X 10 (z.2.1)) 35 (z.2.2.2.2.2.2.2.2.1)) 36 (z.2.2.2.2.2.2.2.2.2)) (bs_up2 (bs_up2 (bs_up2 (bs_up2 (bs_up2 (bs_up2 Y 1 (z.2.2.1)) 7 (z.2.2.2.1)) 36 (z.2.2.2.2.1)) 37 (z.2.2.2.2.2.1)) 38 (z.2.2.2.2.2.2.1)) 39 (z.2.2.2.2.2.2.2.1)), wb3 cI cS cG a g (upd (upd (upd X 10 (z.2.1)) 35 (z.2.2.2.2.2.2.2.2.1)) 36 (z.2.2.2.2.2.2.2.2.2)) (bs_up2 (bs_up2 (bs_up2 (bs_up2 (bs_up2 (bs_up2 Y 1 (z.2.2.1)) 7 (z.2.2.2.1)) 36 (z.2.2.2.2.1)) 37 (z.2.2.2.2.2.1)) 38 (z.2.2.2.2.2.2.1)) 39 (z.2.2.2.2.2.2.2.1)), wb9 cI cS cG a g (upd (upd (upd X 10 (z.2.1)) 35 (z.2.2.2.2.2.2.2.2.1)) 36 (z.2.2.2.2.2.2.2.2.2)) (bs_up2 (bs_up2 (bs_up2 (bs_up2 (bs_up2 (bs_up2 Y 1 (z.2.2.1)) 7 (z.2.2.2.1)) 36 (z.2.2.2.2.1)) 37 (z.2.2.2.2.2.1)) 38 (z.2.2.2.2.2.2.1)) 39 (z.2.2.2.2.2.2.2.1))]) (bl1 := wb cI cZ cS cG a g (upd (upd (upd X 10 (z.2.1)) 35 (z.2.2.2.2.2.2.2.2.1)) 36 (z.2.2.2.2.2.2.2.2.2)) (bs_up2 (bs_up2 (bs_up2 (bs_up2 (bs_up2 (bs_up2 Y 1 (z.2.2.1)) 7 (z.2.2.2.1)) 36 (z.2.2.2.2.1)) 37 (z.2.2.2.2.2.1)) 38 (z.2.2.2.2.2.2.1)) 39 (z.2.2.2.2.2.2.2.1)) G M N) ⟨hx, hb, hml, hown, hts⟩ (k_X6_settle l dC dI cI cZ cS cG (a 0) (a 1) (a 5) (a 7) (a 15) (a 23) (a 31) (a 48) (a 53) (a 56) (a 8) (a 9) (a 10) (a 11) (a 12) (a 13) (a 14) (a 49) (a 50) (a 51) (a 52) (X 0) (X 1) (X 5) (X 6) (X 7) (X 8) (X 9) (X 10) (Y 1) (Y 2) (Y 3) (Y 4) (Y 5) (Y 6) (Y 7) (Y 36) (Y 37) (Y 38) (Y 39) (X 35) (X 36) (xs (nI i + nI 1).toNatClampNeg) (xs (nI i + nI 2).toNatClampNeg) z e1) (cwV 2 hts gL_law_X6_settle rfl rfl rfl (by decide +kernel) ⟨Nat.le_of_ble_eq_true rfl, Nat.le_of_ble_eq_true rfl⟩) hE hP hD hA hS [0, 3, 9] (by decide) rfl 6 0 rfl rfl rfl rfl wb_f rfl rfl hl.1 (Nat.le_of_ble_eq_true rfl) dL_law_445 ⟨Nat.le_of_ble_eq_true rfl, Nat.le_of_ble_eq_true rfl⟩ (fun H locs hP hD hS => ?_)
  refine lv_aload_n hx hb dL_law_448 rfl (lv_at hl 1 rfl) ?_
  refine lv_aload_n hx hb dL_law_449 rfl (lv_at hl 3 rfl) ?_
  refine lv_iload_n hx hb dL_law_450 rfl (lv_at hl 0 rfl) ?_
  refine lv_iconst (v := nI 1) hx hb dL_law_451 (by decide) ?_
  refine lv_iadd hx hb dL_law_452 ?_
  refine va_sld hx hb hX hbl hbA hS (lw_in hL hi (Nat.le_of_ble_eq_true rfl)) dL_law_453 ?_
  refine lv_aload_n hx hb dL_law_454 rfl (lv_at hl 3 rfl) ?_
  refine lv_iload_n hx hb dL_law_455 rfl (lv_at hl 0 rfl) ?_
  refine lv_iconst (v := nI 2) hx hb dL_law_456 (by decide) ?_
  refine lv_iadd hx hb dL_law_457 ?_
  refine va_sld hx hb hX hbl hbA hS (lw_in hL hi (Nat.le_of_ble_eq_true rfl)) dL_law_458 ?_
  refine lw_cB (As := [.int (xs (nI i + nI 1).toNatClampNeg), .int (xs (nI i + nI 2).toNatClampNeg)]) (cb := [wb12 cI cZ a M N]) (cb' := [wb12 cI cZ a (upd M 9 (w.2.2.2)) (bs_up2 (bs_up2 N 3 (w.2.1)) 7 (w.2.2.1))]) (bl1 := wb cI cZ cS cG a g (upd (upd (upd X 10 (z.2.1)) 35 (z.2.2.2.2.2.2.2.2.1)) 36 (z.2.2.2.2.2.2.2.2.2)) (bs_up2 (bs_up2 (bs_up2 (bs_up2 (bs_up2 (bs_up2 Y 1 (z.2.2.1)) 7 (z.2.2.2.1)) 36 (z.2.2.2.2.1)) 37 (z.2.2.2.2.2.1)) 38 (z.2.2.2.2.2.2.1)) 39 (z.2.2.2.2.2.2.2.1)) G (upd M 9 (w.2.2.2)) (bs_up2 (bs_up2 N 3 (w.2.1)) 7 (w.2.2.1))) ⟨hx, hb, hml, hown, hts⟩ (k_X7_settle l dC dI cI cZ cS cG (a 58) (a 59) (a 60) (a 61) (a 62) (a 63) (a 64) (a 65) (a 66) (a 67) (a 68) (a 69) (a 70) (N 0) (N 1) (N 2) (M 0) (M 1) (N 3) (N 4) (N 5) (M 2) (M 3) (M 4) (M 5) (M 6) (M 7) (M 8) (N 6) (N 7) (M 9) (N 8) (M 10) (N 9) (N 10) (N 11) (M 11) (xs (nI i + nI 1).toNatClampNeg) (xs (nI i + nI 2).toNatClampNeg) w e2) (cwV 2 hts gL_law_X7_settle rfl rfl rfl (by decide +kernel) ⟨Nat.le_of_ble_eq_true rfl, Nat.le_of_ble_eq_true rfl⟩) hE hP hD hA hS [12] (by decide) rfl 7 0 rfl rfl rfl rfl wb_f rfl rfl hl.1 (Nat.le_of_ble_eq_true rfl) dL_law_459 ⟨Nat.le_of_ble_eq_true rfl, Nat.le_of_ble_eq_true rfl⟩ (fun H locs hP hD hS => ?_)
  refine lv_icmp_eq (tgt := 1169) hx hb dL_law_462 (by decide) (fun _ => ?_) (fun c9 => absurd e3 c9)
  exact kk _ _ _ _ _ H locs hP hD hS hR1
set_option maxHeartbeats 4000000 in
set_option maxRecDepth 100000 in
theorem lc_wax (C0 : lw_At p s m meth c b L xs) (hE : bs_E dC dI cI cZ cS cG s) (hP : va_P (dC, dI) vwCl (wb cI cZ cS cG a g X Y G M N).flatten H) (hD : va_D (fun q : Nat => s.heap.size ≤ q) (wb cI cZ cS cG a g X Y G M N).flatten) (hS : va_S (fun q : Nat => s.heap.size ≤ q) s.heap H locs) (hR : RR X Y G M N) (hL : L ≤ 3072) (hi : i + 5 < L) (hl : lv_has ls 4 [(3, .int (nI i)), (2, .ref (a 58)), (1, .ref (a 0)), (0, .ref b)]) (kk : lw_K p l e s m below meth c b dC dI cI cZ cS cG a g ls Q) : W p l e room_1 s m #[Value.ref b] below meth c H locs 600000 7302250 Q (F0 m 467 ls []) := by
  obtain ⟨hx, hb, hr, hml, hown, hts0, hX, hbl, hlocks, hgv⟩ := C0
  have hts : ∀ w ∈ wsL_law, w.before #[Value.ref b] s = true := fun w hw => hts0 w (wsL_law_in w hw)
  have hA : ∀ q : Nat, s.heap.size ≤ q → (fun q : Nat => s.heap.size ≤ q) q := fun _ h => h
  have hbA : ¬ (fun q : Nat => s.heap.size ≤ q) b := Nat.not_le.mpr hbl
  obtain ⟨z, w, e1, e2, e3, hR1⟩ := rs_wax hR (xs (nI i + nI 1).toNatClampNeg)
  refine lv_aload_n hx hb dL_law_467 rfl (lv_at hl 2 rfl) ?_
  refine lv_aload_n hx hb dL_law_468 rfl (lv_at hl 3 rfl) ?_
  refine lv_iload_n hx hb dL_law_469 rfl (lv_at hl 0 rfl) ?_
  refine lv_iconst (v := nI 1) hx hb dL_law_470 (by decide) ?_
  refine lv_iadd hx hb dL_law_471 ?_
  refine va_sld hx hb hX hbl hbA hS (lw_in hL hi (Nat.le_of_ble_eq_true rfl)) dL_law_472 ?_
  refine lw_cB (As := [.int (xs (nI i + nI 1).toNatClampNeg)]) (cb := [wb0 cI cS cG a g X Y, wb3 cI cS cG a g X Y, wb9 cI cS cG a g X Y]) (cb' := [wb0 cI cS cG a g (upd (upd (upd X 6 (z.2.1)) 35 (z.2.2.2.2.2.2.1)) 36 (z.2.2.2.2.2.2.2)) (bs_up2 (bs_up2 (bs_up2 (bs_up2 Y 36 (z.2.2.1)) 37 (z.2.2.2.1)) 38 (z.2.2.2.2.1)) 39 (z.2.2.2.2.2.1)), wb3 cI cS cG a g (upd (upd (upd X 6 (z.2.1)) 35 (z.2.2.2.2.2.2.1)) 36 (z.2.2.2.2.2.2.2)) (bs_up2 (bs_up2 (bs_up2 (bs_up2 Y 36 (z.2.2.1)) 37 (z.2.2.2.1)) 38 (z.2.2.2.2.1)) 39 (z.2.2.2.2.2.1)), wb9 cI cS cG a g (upd (upd (upd X 6 (z.2.1)) 35 (z.2.2.2.2.2.2.1)) 36 (z.2.2.2.2.2.2.2)) (bs_up2 (bs_up2 (bs_up2 (bs_up2 Y 36 (z.2.2.1)) 37 (z.2.2.2.1)) 38 (z.2.2.2.2.1)) 39 (z.2.2.2.2.2.1))]) (bl1 := wb cI cZ cS cG a g (upd (upd (upd X 6 (z.2.1)) 35 (z.2.2.2.2.2.2.1)) 36 (z.2.2.2.2.2.2.2)) (bs_up2 (bs_up2 (bs_up2 (bs_up2 Y 36 (z.2.2.1)) 37 (z.2.2.2.1)) 38 (z.2.2.2.2.1)) 39 (z.2.2.2.2.2.1)) G M N) ⟨hx, hb, hml, hown, hts⟩ (k_X6_wax l dC dI cI cZ cS cG (a 0) (a 1) (a 5) (a 7) (a 15) (a 23) (a 31) (a 48) (a 53) (a 56) (a 8) (a 9) (a 10) (a 11) (a 12) (a 13) (a 14) (a 49) (a 50) (a 51) (a 52) (X 0) (X 1) (X 5) (X 6) (X 7) (X 8) (X 9) (X 10) (Y 1) (Y 2) (Y 3) (Y 4) (Y 5) (Y 6) (Y 7) (Y 36) (Y 37) (Y 38) (Y 39) (X 35) (X 36) (xs (nI i + nI 1).toNatClampNeg) z e1) (cwV 1 hts gL_law_X6_wax rfl rfl rfl (by decide +kernel) ⟨Nat.le_of_ble_eq_true rfl, Nat.le_of_ble_eq_true rfl⟩) hE hP hD hA hS [0, 3, 9] (by decide) rfl 6 0 rfl rfl rfl rfl wb_f rfl rfl hl.1 (Nat.le_of_ble_eq_true rfl) dL_law_473 ⟨Nat.le_of_ble_eq_true rfl, Nat.le_of_ble_eq_true rfl⟩ (fun H locs hP hD hS => ?_)
  refine lv_aload_n hx hb dL_law_476 rfl (lv_at hl 1 rfl) ?_
  refine lv_aload_n hx hb dL_law_477 rfl (lv_at hl 3 rfl) ?_
  refine lv_iload_n hx hb dL_law_478 rfl (lv_at hl 0 rfl) ?_
  refine lv_iconst (v := nI 1) hx hb dL_law_479 (by decide) ?_
  refine lv_iadd hx hb dL_law_480 ?_
  refine va_sld hx hb hX hbl hbA hS (lw_in hL hi (Nat.le_of_ble_eq_true rfl)) dL_law_481 ?_
  refine lw_cB (As := [.int (xs (nI i + nI 1).toNatClampNeg)]) (cb := [wb12 cI cZ a M N]) (cb' := [wb12 cI cZ a (upd M 9 (w.2.2.2)) (bs_up2 (bs_up2 N 3 (w.2.1)) 7 (w.2.2.1))]) (bl1 := wb cI cZ cS cG a g (upd (upd (upd X 6 (z.2.1)) 35 (z.2.2.2.2.2.2.1)) 36 (z.2.2.2.2.2.2.2)) (bs_up2 (bs_up2 (bs_up2 (bs_up2 Y 36 (z.2.2.1)) 37 (z.2.2.2.1)) 38 (z.2.2.2.2.1)) 39 (z.2.2.2.2.2.1)) G (upd M 9 (w.2.2.2)) (bs_up2 (bs_up2 N 3 (w.2.1)) 7 (w.2.2.1))) ⟨hx, hb, hml, hown, hts⟩ (k_X7_wax l dC dI cI cZ cS cG (a 58) (a 59) (a 60) (a 61) (a 62) (a 63) (a 64) (a 65) (a 66) (a 67) (a 68) (a 69) (a 70) (N 0) (N 1) (N 2) (M 0) (M 1) (N 3) (N 4) (N 5) (M 2) (M 3) (M 4) (M 5) (M 6) (M 7) (M 8) (N 6) (N 7) (M 9) (N 8) (M 10) (N 9) (N 10) (N 11) (M 11) (xs (nI i + nI 1).toNatClampNeg) w e2) (cwV 1 hts gL_law_X7_wax rfl rfl rfl (by decide +kernel) ⟨Nat.le_of_ble_eq_true rfl, Nat.le_of_ble_eq_true rfl⟩) hE hP hD hA hS [12] (by decide) rfl 7 0 rfl rfl rfl rfl wb_f rfl rfl hl.1 (Nat.le_of_ble_eq_true rfl) dL_law_482 ⟨Nat.le_of_ble_eq_true rfl, Nat.le_of_ble_eq_true rfl⟩ (fun H locs hP hD hS => ?_)
  refine lv_icmp_eq (tgt := 1169) hx hb dL_law_485 (by decide) (fun _ => ?_) (fun c9 => absurd e3 c9)
  exact kk _ _ _ _ _ H locs hP hD hS hR1
set_option maxHeartbeats 4000000 in
set_option maxRecDepth 100000 in
theorem lc_undo (C0 : lw_At p s m meth c b L xs) (hE : bs_E dC dI cI cZ cS cG s) (hP : va_P (dC, dI) vwCl (wb cI cZ cS cG a g X Y G M N).flatten H) (hD : va_D (fun q : Nat => s.heap.size ≤ q) (wb cI cZ cS cG a g X Y G M N).flatten) (hS : va_S (fun q : Nat => s.heap.size ≤ q) s.heap H locs) (hR : RR X Y G M N) (hL : L ≤ 3072) (hi : i + 5 < L) (hl : lv_has ls 4 [(3, .int (nI i)), (2, .ref (a 58)), (1, .ref (a 0)), (0, .ref b)]) (kk : lw_K p l e s m below meth c b dC dI cI cZ cS cG a g ls Q) : W p l e room_1 s m #[Value.ref b] below meth c H locs 600000 7302250 Q (F0 m 490 ls []) := by
  obtain ⟨hx, hb, hr, hml, hown, hts0, hX, hbl, hlocks, hgv⟩ := C0
  have hts : ∀ w ∈ wsL_law, w.before #[Value.ref b] s = true := fun w hw => hts0 w (wsL_law_in w hw)
  have hA : ∀ q : Nat, s.heap.size ≤ q → (fun q : Nat => s.heap.size ≤ q) q := fun _ h => h
  have hbA : ¬ (fun q : Nat => s.heap.size ≤ q) b := Nat.not_le.mpr hbl
  obtain ⟨z, w, e1, e2, e3, hR1⟩ := rs_undo hR
  refine lv_aload_n hx hb dL_law_490 rfl (lv_at hl 2 rfl) ?_
  refine lw_cB (As := []) (cb := [wb0 cI cS cG a g X Y, wb3 cI cS cG a g X Y, wb9 cI cS cG a g X Y]) (cb' := [wb0 cI cS cG a g (upd (upd (upd X 6 (z.2.1)) 10 (z.2.2.1)) 36 (z.2.2.2.2.2)) (bs_up2 (bs_up2 Y 1 (z.2.2.2.1)) 7 (z.2.2.2.2.1)), wb3 cI cS cG a g (upd (upd (upd X 6 (z.2.1)) 10 (z.2.2.1)) 36 (z.2.2.2.2.2)) (bs_up2 (bs_up2 Y 1 (z.2.2.2.1)) 7 (z.2.2.2.2.1)), wb9 cI cS cG a g (upd (upd (upd X 6 (z.2.1)) 10 (z.2.2.1)) 36 (z.2.2.2.2.2)) (bs_up2 (bs_up2 Y 1 (z.2.2.2.1)) 7 (z.2.2.2.2.1))]) (bl1 := wb cI cZ cS cG a g (upd (upd (upd X 6 (z.2.1)) 10 (z.2.2.1)) 36 (z.2.2.2.2.2)) (bs_up2 (bs_up2 Y 1 (z.2.2.2.1)) 7 (z.2.2.2.2.1)) G M N) ⟨hx, hb, hml, hown, hts⟩ (k_X6_undo l dC dI cI cZ cS cG (a 0) (a 1) (a 5) (a 7) (a 15) (a 23) (a 31) (a 48) (a 53) (a 56) (a 8) (a 9) (a 10) (a 11) (a 12) (a 13) (a 14) (a 49) (a 50) (a 51) (a 52) (X 0) (X 1) (X 5) (X 6) (X 7) (X 8) (X 9) (X 10) (Y 1) (Y 2) (Y 3) (Y 4) (Y 5) (Y 6) (Y 7) (Y 36) (Y 37) (Y 38) (Y 39) (X 35) (X 36) z e1) (cwV 0 hts gL_law_X6_undo rfl rfl rfl (by decide +kernel) ⟨Nat.le_of_ble_eq_true rfl, Nat.le_of_ble_eq_true rfl⟩) hE hP hD hA hS [0, 3, 9] (by decide) rfl 6 0 rfl rfl rfl rfl wb_f rfl rfl hl.1 (Nat.le_of_ble_eq_true rfl) dL_law_491 ⟨Nat.le_of_ble_eq_true rfl, Nat.le_of_ble_eq_true rfl⟩ (fun H locs hP hD hS => ?_)
  refine lv_aload_n hx hb dL_law_494 rfl (lv_at hl 1 rfl) ?_
  refine lw_cB (As := []) (cb := [wb12 cI cZ a M N]) (cb' := [wb12 cI cZ a (upd M 9 (w.2.2)) (bs_up2 N 3 (w.2.1))]) (bl1 := wb cI cZ cS cG a g (upd (upd (upd X 6 (z.2.1)) 10 (z.2.2.1)) 36 (z.2.2.2.2.2)) (bs_up2 (bs_up2 Y 1 (z.2.2.2.1)) 7 (z.2.2.2.2.1)) G (upd M 9 (w.2.2)) (bs_up2 N 3 (w.2.1))) ⟨hx, hb, hml, hown, hts⟩ (k_X7_undo l dC dI cI cZ cS cG (a 58) (a 59) (a 60) (a 61) (a 62) (a 63) (a 64) (a 65) (a 66) (a 67) (a 68) (a 69) (a 70) (N 0) (N 1) (N 2) (M 0) (M 1) (N 3) (N 4) (N 5) (M 2) (M 3) (M 4) (M 5) (M 6) (M 7) (M 8) (N 6) (N 7) (M 9) (N 8) (M 10) (N 9) (N 10) (N 11) (M 11) w e2) (cwV 0 hts gL_law_X7_undo rfl rfl rfl (by decide +kernel) ⟨Nat.le_of_ble_eq_true rfl, Nat.le_of_ble_eq_true rfl⟩) hE hP hD hA hS [12] (by decide) rfl 7 0 rfl rfl rfl rfl wb_f rfl rfl hl.1 (Nat.le_of_ble_eq_true rfl) dL_law_495 ⟨Nat.le_of_ble_eq_true rfl, Nat.le_of_ble_eq_true rfl⟩ (fun H locs hP hD hS => ?_)
  refine lv_icmp_eq (tgt := 1169) hx hb dL_law_498 (by decide) (fun _ => ?_) (fun c9 => absurd e3 c9)
  exact kk _ _ _ _ _ H locs hP hD hS hR1
set_option maxHeartbeats 4000000 in
set_option maxRecDepth 100000 in
theorem lc_promise (C0 : lw_At p s m meth c b L xs) (hE : bs_E dC dI cI cZ cS cG s) (hP : va_P (dC, dI) vwCl (wb cI cZ cS cG a g X Y G M N).flatten H) (hD : va_D (fun q : Nat => s.heap.size ≤ q) (wb cI cZ cS cG a g X Y G M N).flatten) (hS : va_S (fun q : Nat => s.heap.size ≤ q) s.heap H locs) (hR : RR X Y G M N) (hL : L ≤ 3072) (hi : i + 5 < L) (hl : lv_has ls 4 [(3, .int (nI i)), (2, .ref (a 58)), (1, .ref (a 0)), (0, .ref b)]) (kk : lw_K p l e s m below meth c b dC dI cI cZ cS cG a g ls Q) : W p l e room_1 s m #[Value.ref b] below meth c H locs 600000 7302250 Q (F0 m 503 ls []) := by
  obtain ⟨hx, hb, hr, hml, hown, hts0, hX, hbl, hlocks, hgv⟩ := C0
  have hts : ∀ w ∈ wsL_law, w.before #[Value.ref b] s = true := fun w hw => hts0 w (wsL_law_in w hw)
  have hA : ∀ q : Nat, s.heap.size ≤ q → (fun q : Nat => s.heap.size ≤ q) q := fun _ h => h
  have hbA : ¬ (fun q : Nat => s.heap.size ≤ q) b := Nat.not_le.mpr hbl
  obtain ⟨z, w, e1, e2, e3, hR1⟩ := rs_promise hR (xs (nI i + nI 1).toNatClampNeg) (xs (nI i + nI 2).toNatClampNeg)
  refine lv_aload_n hx hb dL_law_503 rfl (lv_at hl 2 rfl) ?_
  refine lv_aload_n hx hb dL_law_504 rfl (lv_at hl 3 rfl) ?_
  refine lv_iload_n hx hb dL_law_505 rfl (lv_at hl 0 rfl) ?_
  refine lv_iconst (v := nI 1) hx hb dL_law_506 (by decide) ?_
  refine lv_iadd hx hb dL_law_507 ?_
  refine va_sld hx hb hX hbl hbA hS (lw_in hL hi (Nat.le_of_ble_eq_true rfl)) dL_law_508 ?_
  refine lv_aload_n hx hb dL_law_509 rfl (lv_at hl 3 rfl) ?_
  refine lv_iload_n hx hb dL_law_510 rfl (lv_at hl 0 rfl) ?_
  refine lv_iconst (v := nI 2) hx hb dL_law_511 (by decide) ?_
  refine lv_iadd hx hb dL_law_512 ?_
  refine va_sld hx hb hX hbl hbA hS (lw_in hL hi (Nat.le_of_ble_eq_true rfl)) dL_law_513 ?_
  refine lw_cBR (As := [.int (xs (nI i + nI 1).toNatClampNeg), .int (xs (nI i + nI 2).toNatClampNeg)]) (cb := [wb0 cI cS cG a g X Y, wb3 cI cS cG a g X Y]) ⟨hx, hb, hml, hown, hts⟩ (k_X6_promise l dC dI cI cZ cS cG (a 0) (a 1) (a 5) (a 7) (a 15) (a 23) (a 31) (a 48) (a 53) (a 56) (a 8) (a 9) (a 10) (a 11) (a 12) (a 13) (a 14) (X 0) (X 1) (X 5) (X 6) (X 7) (X 8) (X 9) (X 10) (Y 1) (Y 2) (Y 3) (Y 4) (Y 5) (Y 6) (Y 7) (xs (nI i + nI 1).toNatClampNeg) (xs (nI i + nI 2).toNatClampNeg) z e1) (cwV 2 hts gL_law_X6_promise rfl rfl rfl (by decide +kernel) ⟨Nat.le_of_ble_eq_true rfl, Nat.le_of_ble_eq_true rfl⟩) hE hP hD hA hS [0, 3] (by decide) rfl 6 0 rfl rfl rfl rfl hl.1 (Nat.le_of_ble_eq_true rfl) dL_law_514 ⟨Nat.le_of_ble_eq_true rfl, Nat.le_of_ble_eq_true rfl⟩ (fun H locs hP hD hS => ?_)
  refine lv_aload_n hx hb dL_law_517 rfl (lv_at hl 1 rfl) ?_
  refine lv_aload_n hx hb dL_law_518 rfl (lv_at hl 3 rfl) ?_
  refine lv_iload_n hx hb dL_law_519 rfl (lv_at hl 0 rfl) ?_
  refine lv_iconst (v := nI 1) hx hb dL_law_520 (by decide) ?_
  refine lv_iadd hx hb dL_law_521 ?_
  refine va_sld hx hb hX hbl hbA hS (lw_in hL hi (Nat.le_of_ble_eq_true rfl)) dL_law_522 ?_
  refine lv_aload_n hx hb dL_law_523 rfl (lv_at hl 3 rfl) ?_
  refine lv_iload_n hx hb dL_law_524 rfl (lv_at hl 0 rfl) ?_
  refine lv_iconst (v := nI 2) hx hb dL_law_525 (by decide) ?_
  refine lv_iadd hx hb dL_law_526 ?_
  refine va_sld hx hb hX hbl hbA hS (lw_in hL hi (Nat.le_of_ble_eq_true rfl)) dL_law_527 ?_
  refine lw_cBR (As := [.int (xs (nI i + nI 1).toNatClampNeg), .int (xs (nI i + nI 2).toNatClampNeg)]) (cb := [wb12 cI cZ a M N]) ⟨hx, hb, hml, hown, hts⟩ (k_X7_promise l dC dI cI cZ cS cG (a 58) (a 59) (a 60) (a 61) (a 62) (a 63) (a 64) (a 65) (a 66) (a 67) (a 68) (a 69) (a 70) (N 0) (N 1) (N 2) (M 0) (M 1) (N 3) (N 4) (N 5) (M 2) (M 3) (M 4) (M 5) (M 6) (M 7) (M 8) (N 6) (N 7) (M 9) (N 8) (M 10) (N 9) (N 10) (N 11) (M 11) (xs (nI i + nI 1).toNatClampNeg) (xs (nI i + nI 2).toNatClampNeg) w e2) (cwV 2 hts gL_law_X7_promise rfl rfl rfl (by decide +kernel) ⟨Nat.le_of_ble_eq_true rfl, Nat.le_of_ble_eq_true rfl⟩) hE hP hD hA hS [12] (by decide) rfl 7 0 rfl rfl rfl rfl hl.1 (Nat.le_of_ble_eq_true rfl) dL_law_528 ⟨Nat.le_of_ble_eq_true rfl, Nat.le_of_ble_eq_true rfl⟩ (fun H locs hP hD hS => ?_)
  refine lv_icmp_eq (tgt := 1169) hx hb dL_law_531 (by decide) (fun _ => ?_) (fun c9 => absurd e3 c9)
  exact kk _ _ _ _ _ H locs hP hD hS hR1
set_option maxHeartbeats 4000000 in
set_option maxRecDepth 100000 in
theorem lc_keeps (C0 : lw_At p s m meth c b L xs) (hE : bs_E dC dI cI cZ cS cG s) (hP : va_P (dC, dI) vwCl (wb cI cZ cS cG a g X Y G M N).flatten H) (hD : va_D (fun q : Nat => s.heap.size ≤ q) (wb cI cZ cS cG a g X Y G M N).flatten) (hS : va_S (fun q : Nat => s.heap.size ≤ q) s.heap H locs) (hR : RR X Y G M N) (hL : L ≤ 3072) (hi : i + 5 < L) (hl : lv_has ls 4 [(3, .int (nI i)), (2, .ref (a 58)), (1, .ref (a 0)), (0, .ref b)]) (kk : lw_K p l e s m below meth c b dC dI cI cZ cS cG a g ls Q) : W p l e room_1 s m #[Value.ref b] below meth c H locs 600000 7302250 Q (F0 m 536 ls []) := by
  obtain ⟨hx, hb, hr, hml, hown, hts0, hX, hbl, hlocks, hgv⟩ := C0
  have hts : ∀ w ∈ wsL_law, w.before #[Value.ref b] s = true := fun w hw => hts0 w (wsL_law_in w hw)
  have hA : ∀ q : Nat, s.heap.size ≤ q → (fun q : Nat => s.heap.size ≤ q) q := fun _ h => h
  have hbA : ¬ (fun q : Nat => s.heap.size ≤ q) b := Nat.not_le.mpr hbl
  obtain ⟨z, w, e1, e2, e3, hR1⟩ := rs_keeps hR (xs (nI i + nI 1).toNatClampNeg)
  refine lv_aload_n hx hb dL_law_536 rfl (lv_at hl 2 rfl) ?_
  refine lv_aload_n hx hb dL_law_537 rfl (lv_at hl 3 rfl) ?_
  refine lv_iload_n hx hb dL_law_538 rfl (lv_at hl 0 rfl) ?_
  refine lv_iconst (v := nI 1) hx hb dL_law_539 (by decide) ?_
  refine lv_iadd hx hb dL_law_540 ?_
  refine va_sld hx hb hX hbl hbA hS (lw_in hL hi (Nat.le_of_ble_eq_true rfl)) dL_law_541 ?_
  refine lw_cBR (As := [.int (xs (nI i + nI 1).toNatClampNeg)]) (cb := [wb0 cI cS cG a g X Y, wb3 cI cS cG a g X Y]) ⟨hx, hb, hml, hown, hts⟩ (k_X6_keeps l dC dI cI cZ cS cG (a 0) (a 1) (a 5) (a 7) (a 15) (a 23) (a 31) (a 48) (a 53) (a 56) (a 8) (a 9) (a 10) (a 11) (a 12) (a 13) (a 14) (X 0) (X 1) (X 5) (X 6) (X 7) (X 8) (X 9) (X 10) (Y 1) (Y 2) (Y 3) (Y 4) (Y 5) (Y 6) (Y 7) (xs (nI i + nI 1).toNatClampNeg) z e1) (cwV 1 hts gL_law_X6_keeps rfl rfl rfl (by decide +kernel) ⟨Nat.le_of_ble_eq_true rfl, Nat.le_of_ble_eq_true rfl⟩) hE hP hD hA hS [0, 3] (by decide) rfl 6 0 rfl rfl rfl rfl hl.1 (Nat.le_of_ble_eq_true rfl) dL_law_542 ⟨Nat.le_of_ble_eq_true rfl, Nat.le_of_ble_eq_true rfl⟩ (fun H locs hP hD hS => ?_)
  refine lv_aload_n hx hb dL_law_545 rfl (lv_at hl 1 rfl) ?_
  refine lv_aload_n hx hb dL_law_546 rfl (lv_at hl 3 rfl) ?_
  refine lv_iload_n hx hb dL_law_547 rfl (lv_at hl 0 rfl) ?_
  refine lv_iconst (v := nI 1) hx hb dL_law_548 (by decide) ?_
  refine lv_iadd hx hb dL_law_549 ?_
  refine va_sld hx hb hX hbl hbA hS (lw_in hL hi (Nat.le_of_ble_eq_true rfl)) dL_law_550 ?_
  refine lw_cBR (As := [.int (xs (nI i + nI 1).toNatClampNeg)]) (cb := [wb12 cI cZ a M N]) ⟨hx, hb, hml, hown, hts⟩ (k_X7_keeps l dC dI cI cZ cS cG (a 58) (a 59) (a 60) (a 61) (a 62) (a 63) (a 64) (a 65) (a 66) (a 67) (a 68) (a 69) (a 70) (N 0) (N 1) (N 2) (M 0) (M 1) (N 3) (N 4) (N 5) (M 2) (M 3) (M 4) (M 5) (M 6) (M 7) (M 8) (N 6) (N 7) (M 9) (N 8) (M 10) (N 9) (N 10) (N 11) (M 11) (xs (nI i + nI 1).toNatClampNeg) w e2) (cwV 1 hts gL_law_X7_keeps rfl rfl rfl (by decide +kernel) ⟨Nat.le_of_ble_eq_true rfl, Nat.le_of_ble_eq_true rfl⟩) hE hP hD hA hS [12] (by decide) rfl 7 0 rfl rfl rfl rfl hl.1 (Nat.le_of_ble_eq_true rfl) dL_law_551 ⟨Nat.le_of_ble_eq_true rfl, Nat.le_of_ble_eq_true rfl⟩ (fun H locs hP hD hS => ?_)
  refine lv_icmp_eq (tgt := 1169) hx hb dL_law_554 (by decide) (fun _ => ?_) (fun c9 => absurd e3 c9)
  exact kk _ _ _ _ _ H locs hP hD hS hR1
set_option maxHeartbeats 4000000 in
set_option maxRecDepth 100000 in
theorem lc_reads (C0 : lw_At p s m meth c b L xs) (hE : bs_E dC dI cI cZ cS cG s) (hP : va_P (dC, dI) vwCl (wb cI cZ cS cG a g X Y G M N).flatten H) (hD : va_D (fun q : Nat => s.heap.size ≤ q) (wb cI cZ cS cG a g X Y G M N).flatten) (hS : va_S (fun q : Nat => s.heap.size ≤ q) s.heap H locs) (hR : RR X Y G M N) (hL : L ≤ 3072) (hi : i + 5 < L) (hl : lv_has ls 4 [(3, .int (nI i)), (2, .ref (a 58)), (1, .ref (a 0)), (0, .ref b)]) (kk : lw_K p l e s m below meth c b dC dI cI cZ cS cG a g ls Q) : W p l e room_1 s m #[Value.ref b] below meth c H locs 600000 7302250 Q (F0 m 559 ls []) := by
  obtain ⟨hx, hb, hr, hml, hown, hts0, hX, hbl, hlocks, hgv⟩ := C0
  have hts : ∀ w ∈ wsL_law, w.before #[Value.ref b] s = true := fun w hw => hts0 w (wsL_law_in w hw)
  have hA : ∀ q : Nat, s.heap.size ≤ q → (fun q : Nat => s.heap.size ≤ q) q := fun _ h => h
  have hbA : ¬ (fun q : Nat => s.heap.size ≤ q) b := Nat.not_le.mpr hbl
  obtain ⟨z, w, e1, e2, e3, hR1⟩ := rs_reads hR (xs (nI i + nI 1).toNatClampNeg)
  refine lv_aload_n hx hb dL_law_559 rfl (lv_at hl 2 rfl) ?_
  refine lv_aload_n hx hb dL_law_560 rfl (lv_at hl 3 rfl) ?_
  refine lv_iload_n hx hb dL_law_561 rfl (lv_at hl 0 rfl) ?_
  refine lv_iconst (v := nI 1) hx hb dL_law_562 (by decide) ?_
  refine lv_iadd hx hb dL_law_563 ?_
  refine va_sld hx hb hX hbl hbA hS (lw_in hL hi (Nat.le_of_ble_eq_true rfl)) dL_law_564 ?_
  refine lw_cBR (As := [.int (xs (nI i + nI 1).toNatClampNeg)]) (cb := [wb0 cI cS cG a g X Y, wb3 cI cS cG a g X Y]) ⟨hx, hb, hml, hown, hts⟩ (k_X6_reads l dC dI cI cZ cS cG (a 0) (a 1) (a 5) (a 7) (a 15) (a 23) (a 31) (a 48) (a 53) (a 56) (a 8) (a 9) (a 10) (a 11) (a 12) (a 13) (a 14) (X 0) (X 1) (X 5) (X 6) (X 7) (X 8) (X 9) (X 10) (Y 1) (Y 2) (Y 3) (Y 4) (Y 5) (Y 6) (Y 7) (xs (nI i + nI 1).toNatClampNeg) z e1) (cwV 1 hts gL_law_X6_reads rfl rfl rfl (by decide +kernel) ⟨Nat.le_of_ble_eq_true rfl, Nat.le_of_ble_eq_true rfl⟩) hE hP hD hA hS [0, 3] (by decide) rfl 6 0 rfl rfl rfl rfl hl.1 (Nat.le_of_ble_eq_true rfl) dL_law_565 ⟨Nat.le_of_ble_eq_true rfl, Nat.le_of_ble_eq_true rfl⟩ (fun H locs hP hD hS => ?_)
  refine lv_aload_n hx hb dL_law_568 rfl (lv_at hl 1 rfl) ?_
  refine lv_aload_n hx hb dL_law_569 rfl (lv_at hl 3 rfl) ?_
  refine lv_iload_n hx hb dL_law_570 rfl (lv_at hl 0 rfl) ?_
  refine lv_iconst (v := nI 1) hx hb dL_law_571 (by decide) ?_
  refine lv_iadd hx hb dL_law_572 ?_
  refine va_sld hx hb hX hbl hbA hS (lw_in hL hi (Nat.le_of_ble_eq_true rfl)) dL_law_573 ?_
  refine lw_cBR (As := [.int (xs (nI i + nI 1).toNatClampNeg)]) (cb := [wb12 cI cZ a M N]) ⟨hx, hb, hml, hown, hts⟩ (k_X7_reads l dC dI cI cZ cS cG (a 58) (a 59) (a 60) (a 61) (a 62) (a 63) (a 64) (a 65) (a 66) (a 67) (a 68) (a 69) (a 70) (N 0) (N 1) (N 2) (M 0) (M 1) (N 3) (N 4) (N 5) (M 2) (M 3) (M 4) (M 5) (M 6) (M 7) (M 8) (N 6) (N 7) (M 9) (N 8) (M 10) (N 9) (N 10) (N 11) (M 11) (xs (nI i + nI 1).toNatClampNeg) w e2) (cwV 1 hts gL_law_X7_reads rfl rfl rfl (by decide +kernel) ⟨Nat.le_of_ble_eq_true rfl, Nat.le_of_ble_eq_true rfl⟩) hE hP hD hA hS [12] (by decide) rfl 7 0 rfl rfl rfl rfl hl.1 (Nat.le_of_ble_eq_true rfl) dL_law_574 ⟨Nat.le_of_ble_eq_true rfl, Nat.le_of_ble_eq_true rfl⟩ (fun H locs hP hD hS => ?_)
  refine lv_icmp_eq (tgt := 1169) hx hb dL_law_577 (by decide) (fun _ => ?_) (fun c9 => absurd e3 c9)
  exact kk _ _ _ _ _ H locs hP hD hS hR1
set_option maxHeartbeats 4000000 in
set_option maxRecDepth 100000 in
theorem lc_clash (C0 : lw_At p s m meth c b L xs) (hE : bs_E dC dI cI cZ cS cG s) (hP : va_P (dC, dI) vwCl (wb cI cZ cS cG a g X Y G M N).flatten H) (hD : va_D (fun q : Nat => s.heap.size ≤ q) (wb cI cZ cS cG a g X Y G M N).flatten) (hS : va_S (fun q : Nat => s.heap.size ≤ q) s.heap H locs) (hR : RR X Y G M N) (hL : L ≤ 3072) (hi : i + 5 < L) (hl : lv_has ls 4 [(3, .int (nI i)), (2, .ref (a 58)), (1, .ref (a 0)), (0, .ref b)]) (kk : lw_K p l e s m below meth c b dC dI cI cZ cS cG a g ls Q) : W p l e room_1 s m #[Value.ref b] below meth c H locs 600000 7302250 Q (F0 m 582 ls []) := by
  obtain ⟨hx, hb, hr, hml, hown, hts0, hX, hbl, hlocks, hgv⟩ := C0
  have hts : ∀ w ∈ wsL_law, w.before #[Value.ref b] s = true := fun w hw => hts0 w (wsL_law_in w hw)
  have hA : ∀ q : Nat, s.heap.size ≤ q → (fun q : Nat => s.heap.size ≤ q) q := fun _ h => h
  have hbA : ¬ (fun q : Nat => s.heap.size ≤ q) b := Nat.not_le.mpr hbl
  obtain ⟨z, w, e1, e2, e3, hR1⟩ := rs_clash hR (xs (nI i + nI 1).toNatClampNeg)
  refine lv_aload_n hx hb dL_law_582 rfl (lv_at hl 2 rfl) ?_
  refine lv_aload_n hx hb dL_law_583 rfl (lv_at hl 3 rfl) ?_
  refine lv_iload_n hx hb dL_law_584 rfl (lv_at hl 0 rfl) ?_
  refine lv_iconst (v := nI 1) hx hb dL_law_585 (by decide) ?_
  refine lv_iadd hx hb dL_law_586 ?_
  refine va_sld hx hb hX hbl hbA hS (lw_in hL hi (Nat.le_of_ble_eq_true rfl)) dL_law_587 ?_
  refine lw_cBR (As := [.int (xs (nI i + nI 1).toNatClampNeg)]) (cb := [wb0 cI cS cG a g X Y, wb3 cI cS cG a g X Y]) ⟨hx, hb, hml, hown, hts⟩ (k_X6_clash l dC dI cI cZ cS cG (a 0) (a 1) (a 5) (a 7) (a 15) (a 23) (a 31) (a 48) (a 53) (a 56) (a 8) (a 9) (a 10) (a 11) (a 12) (a 13) (a 14) (X 0) (X 1) (X 5) (X 6) (X 7) (X 8) (X 9) (X 10) (Y 1) (Y 2) (Y 3) (Y 4) (Y 5) (Y 6) (Y 7) (xs (nI i + nI 1).toNatClampNeg) z e1) (cwV 1 hts gL_law_X6_clash rfl rfl rfl (by decide +kernel) ⟨Nat.le_of_ble_eq_true rfl, Nat.le_of_ble_eq_true rfl⟩) hE hP hD hA hS [0, 3] (by decide) rfl 6 0 rfl rfl rfl rfl hl.1 (Nat.le_of_ble_eq_true rfl) dL_law_588 ⟨Nat.le_of_ble_eq_true rfl, Nat.le_of_ble_eq_true rfl⟩ (fun H locs hP hD hS => ?_)
  refine lv_aload_n hx hb dL_law_591 rfl (lv_at hl 1 rfl) ?_
  refine lv_aload_n hx hb dL_law_592 rfl (lv_at hl 3 rfl) ?_
  refine lv_iload_n hx hb dL_law_593 rfl (lv_at hl 0 rfl) ?_
  refine lv_iconst (v := nI 1) hx hb dL_law_594 (by decide) ?_
  refine lv_iadd hx hb dL_law_595 ?_
  refine va_sld hx hb hX hbl hbA hS (lw_in hL hi (Nat.le_of_ble_eq_true rfl)) dL_law_596 ?_
  refine lw_cBR (As := [.int (xs (nI i + nI 1).toNatClampNeg)]) (cb := [wb12 cI cZ a M N]) ⟨hx, hb, hml, hown, hts⟩ (k_X7_clash l dC dI cI cZ cS cG (a 58) (a 59) (a 60) (a 61) (a 62) (a 63) (a 64) (a 65) (a 66) (a 67) (a 68) (a 69) (a 70) (N 0) (N 1) (N 2) (M 0) (M 1) (N 3) (N 4) (N 5) (M 2) (M 3) (M 4) (M 5) (M 6) (M 7) (M 8) (N 6) (N 7) (M 9) (N 8) (M 10) (N 9) (N 10) (N 11) (M 11) (xs (nI i + nI 1).toNatClampNeg) w e2) (cwV 1 hts gL_law_X7_clash rfl rfl rfl (by decide +kernel) ⟨Nat.le_of_ble_eq_true rfl, Nat.le_of_ble_eq_true rfl⟩) hE hP hD hA hS [12] (by decide) rfl 7 0 rfl rfl rfl rfl hl.1 (Nat.le_of_ble_eq_true rfl) dL_law_597 ⟨Nat.le_of_ble_eq_true rfl, Nat.le_of_ble_eq_true rfl⟩ (fun H locs hP hD hS => ?_)
  refine lv_icmp_eq (tgt := 1169) hx hb dL_law_600 (by decide) (fun _ => ?_) (fun c9 => absurd e3 c9)
  exact kk _ _ _ _ _ H locs hP hD hS hR1
set_option maxHeartbeats 4000000 in
set_option maxRecDepth 100000 in
theorem lc_bags (C0 : lw_At p s m meth c b L xs) (hE : bs_E dC dI cI cZ cS cG s) (hP : va_P (dC, dI) vwCl (wb cI cZ cS cG a g X Y G M N).flatten H) (hD : va_D (fun q : Nat => s.heap.size ≤ q) (wb cI cZ cS cG a g X Y G M N).flatten) (hS : va_S (fun q : Nat => s.heap.size ≤ q) s.heap H locs) (hR : RR X Y G M N) (hL : L ≤ 3072) (hi : i + 5 < L) (hl : lv_has ls 4 [(3, .int (nI i)), (2, .ref (a 58)), (1, .ref (a 0)), (0, .ref b)]) (kk : lw_K p l e s m below meth c b dC dI cI cZ cS cG a g ls Q) : W p l e room_1 s m #[Value.ref b] below meth c H locs 600000 7302250 Q (F0 m 605 ls []) := by
  obtain ⟨hx, hb, hr, hml, hown, hts0, hX, hbl, hlocks, hgv⟩ := C0
  have hts : ∀ w ∈ wsL_law, w.before #[Value.ref b] s = true := fun w hw => hts0 w (wsL_law_in w hw)
  have hA : ∀ q : Nat, s.heap.size ≤ q → (fun q : Nat => s.heap.size ≤ q) q := fun _ h => h
  have hbA : ¬ (fun q : Nat => s.heap.size ≤ q) b := Nat.not_le.mpr hbl
  obtain ⟨z, w, e1, e2, e3, hR1⟩ := rs_bags hR (xs (nI i + nI 1).toNatClampNeg) (xs (nI i + nI 2).toNatClampNeg)
  refine lv_aload_n hx hb dL_law_605 rfl (lv_at hl 2 rfl) ?_
  refine lv_aload_n hx hb dL_law_606 rfl (lv_at hl 3 rfl) ?_
  refine lv_iload_n hx hb dL_law_607 rfl (lv_at hl 0 rfl) ?_
  refine lv_iconst (v := nI 1) hx hb dL_law_608 (by decide) ?_
  refine lv_iadd hx hb dL_law_609 ?_
  refine va_sld hx hb hX hbl hbA hS (lw_in hL hi (Nat.le_of_ble_eq_true rfl)) dL_law_610 ?_
  refine lv_aload_n hx hb dL_law_611 rfl (lv_at hl 3 rfl) ?_
  refine lv_iload_n hx hb dL_law_612 rfl (lv_at hl 0 rfl) ?_
  refine lv_iconst (v := nI 2) hx hb dL_law_613 (by decide) ?_
  refine lv_iadd hx hb dL_law_614 ?_
  refine va_sld hx hb hX hbl hbA hS (lw_in hL hi (Nat.le_of_ble_eq_true rfl)) dL_law_615 ?_
  refine lw_cB (As := [.int (xs (nI i + nI 1).toNatClampNeg), .int (xs (nI i + nI 2).toNatClampNeg)]) (cb := [wb0 cI cS cG a g X Y, wb3 cI cS cG a g X Y, wb10 cI cS cG a g X Y]) (cb' := [wb0 cI cS cG a g (upd (upd (upd (upd (upd X 37 (z.2.2.2.1)) 38 (z.2.2.2.2.1)) 39 (z.2.2.2.2.2.1)) 40 (z.2.2.2.2.2.2.1)) 41 (z.2.2.2.2.2.2.2)) (bs_up2 (bs_up2 Y 40 (z.2.1)) 41 (z.2.2.1)), wb3 cI cS cG a g (upd (upd (upd (upd (upd X 37 (z.2.2.2.1)) 38 (z.2.2.2.2.1)) 39 (z.2.2.2.2.2.1)) 40 (z.2.2.2.2.2.2.1)) 41 (z.2.2.2.2.2.2.2)) (bs_up2 (bs_up2 Y 40 (z.2.1)) 41 (z.2.2.1)), wb10 cI cS cG a g (upd (upd (upd (upd (upd X 37 (z.2.2.2.1)) 38 (z.2.2.2.2.1)) 39 (z.2.2.2.2.2.1)) 40 (z.2.2.2.2.2.2.1)) 41 (z.2.2.2.2.2.2.2)) (bs_up2 (bs_up2 Y 40 (z.2.1)) 41 (z.2.2.1))]) (bl1 := wb cI cZ cS cG a g (upd (upd (upd (upd (upd X 37 (z.2.2.2.1)) 38 (z.2.2.2.2.1)) 39 (z.2.2.2.2.2.1)) 40 (z.2.2.2.2.2.2.1)) 41 (z.2.2.2.2.2.2.2)) (bs_up2 (bs_up2 Y 40 (z.2.1)) 41 (z.2.2.1)) G M N) ⟨hx, hb, hml, hown, hts⟩ (k_X6_bags l dC dI cI cZ cS cG (a 0) (a 1) (a 5) (a 7) (a 15) (a 23) (a 31) (a 48) (a 53) (a 56) (a 8) (a 9) (a 10) (a 11) (a 12) (a 13) (a 14) (a 54) (a 55) (X 0) (X 1) (X 5) (X 6) (X 7) (X 8) (X 9) (X 10) (Y 1) (Y 2) (Y 3) (Y 4) (Y 5) (Y 6) (Y 7) (Y 40) (Y 41) (X 37) (X 38) (X 39) (X 40) (X 41) (xs (nI i + nI 1).toNatClampNeg) (xs (nI i + nI 2).toNatClampNeg) z e1) (cwV 2 hts gL_law_X6_bags rfl rfl rfl (by decide +kernel) ⟨Nat.le_of_ble_eq_true rfl, Nat.le_of_ble_eq_true rfl⟩) hE hP hD hA hS [0, 3, 10] (by decide) rfl 6 0 rfl rfl rfl rfl wb_f rfl rfl hl.1 (Nat.le_of_ble_eq_true rfl) dL_law_616 ⟨Nat.le_of_ble_eq_true rfl, Nat.le_of_ble_eq_true rfl⟩ (fun H locs hP hD hS => ?_)
  refine lv_aload_n hx hb dL_law_619 rfl (lv_at hl 1 rfl) ?_
  refine lv_aload_n hx hb dL_law_620 rfl (lv_at hl 3 rfl) ?_
  refine lv_iload_n hx hb dL_law_621 rfl (lv_at hl 0 rfl) ?_
  refine lv_iconst (v := nI 1) hx hb dL_law_622 (by decide) ?_
  refine lv_iadd hx hb dL_law_623 ?_
  refine va_sld hx hb hX hbl hbA hS (lw_in hL hi (Nat.le_of_ble_eq_true rfl)) dL_law_624 ?_
  refine lv_aload_n hx hb dL_law_625 rfl (lv_at hl 3 rfl) ?_
  refine lv_iload_n hx hb dL_law_626 rfl (lv_at hl 0 rfl) ?_
  refine lv_iconst (v := nI 2) hx hb dL_law_627 (by decide) ?_
  refine lv_iadd hx hb dL_law_628 ?_
  refine va_sld hx hb hX hbl hbA hS (lw_in hL hi (Nat.le_of_ble_eq_true rfl)) dL_law_629 ?_
  refine lw_cBR (As := [.int (xs (nI i + nI 1).toNatClampNeg), .int (xs (nI i + nI 2).toNatClampNeg)]) (cb := [wb12 cI cZ a M N]) ⟨hx, hb, hml, hown, hts⟩ (k_X7_bags l dC dI cI cZ cS cG (a 58) (a 59) (a 60) (a 61) (a 62) (a 63) (a 64) (a 65) (a 66) (a 67) (a 68) (a 69) (a 70) (N 0) (N 1) (N 2) (M 0) (M 1) (N 3) (N 4) (N 5) (M 2) (M 3) (M 4) (M 5) (M 6) (M 7) (M 8) (N 6) (N 7) (M 9) (N 8) (M 10) (N 9) (N 10) (N 11) (M 11) (xs (nI i + nI 1).toNatClampNeg) (xs (nI i + nI 2).toNatClampNeg) w e2) (cwV 2 hts gL_law_X7_bags rfl rfl rfl (by decide +kernel) ⟨Nat.le_of_ble_eq_true rfl, Nat.le_of_ble_eq_true rfl⟩) hE hP hD hA hS [12] (by decide) rfl 7 0 rfl rfl rfl rfl hl.1 (Nat.le_of_ble_eq_true rfl) dL_law_630 ⟨Nat.le_of_ble_eq_true rfl, Nat.le_of_ble_eq_true rfl⟩ (fun H locs hP hD hS => ?_)
  refine lv_icmp_eq (tgt := 1169) hx hb dL_law_633 (by decide) (fun _ => ?_) (fun c9 => absurd e3 c9)
  exact kk _ _ _ _ _ H locs hP hD hS hR1
set_option maxHeartbeats 4000000 in
set_option maxRecDepth 100000 in
theorem lc_heaviest (C0 : lw_At p s m meth c b L xs) (hE : bs_E dC dI cI cZ cS cG s) (hP : va_P (dC, dI) vwCl (wb cI cZ cS cG a g X Y G M N).flatten H) (hD : va_D (fun q : Nat => s.heap.size ≤ q) (wb cI cZ cS cG a g X Y G M N).flatten) (hS : va_S (fun q : Nat => s.heap.size ≤ q) s.heap H locs) (hR : RR X Y G M N) (hL : L ≤ 3072) (hi : i + 5 < L) (hl : lv_has ls 4 [(3, .int (nI i)), (2, .ref (a 58)), (1, .ref (a 0)), (0, .ref b)]) (kk : lw_K p l e s m below meth c b dC dI cI cZ cS cG a g ls Q) : W p l e room_1 s m #[Value.ref b] below meth c H locs 600000 7302250 Q (F0 m 638 ls []) := by
  obtain ⟨hx, hb, hr, hml, hown, hts0, hX, hbl, hlocks, hgv⟩ := C0
  have hts : ∀ w ∈ wsL_law, w.before #[Value.ref b] s = true := fun w hw => hts0 w (wsL_law_in w hw)
  have hA : ∀ q : Nat, s.heap.size ≤ q → (fun q : Nat => s.heap.size ≤ q) q := fun _ h => h
  have hbA : ¬ (fun q : Nat => s.heap.size ≤ q) b := Nat.not_le.mpr hbl
  obtain ⟨z, w, e1, e2, e3, hR1⟩ := rs_heaviest hR (xs (nI i + nI 1).toNatClampNeg) (xs (nI i + nI 2).toNatClampNeg)
  refine lv_aload_n hx hb dL_law_638 rfl (lv_at hl 2 rfl) ?_
  refine lv_aload_n hx hb dL_law_639 rfl (lv_at hl 3 rfl) ?_
  refine lv_iload_n hx hb dL_law_640 rfl (lv_at hl 0 rfl) ?_
  refine lv_iconst (v := nI 1) hx hb dL_law_641 (by decide) ?_
  refine lv_iadd hx hb dL_law_642 ?_
  refine va_sld hx hb hX hbl hbA hS (lw_in hL hi (Nat.le_of_ble_eq_true rfl)) dL_law_643 ?_
  refine lv_aload_n hx hb dL_law_644 rfl (lv_at hl 3 rfl) ?_
  refine lv_iload_n hx hb dL_law_645 rfl (lv_at hl 0 rfl) ?_
  refine lv_iconst (v := nI 2) hx hb dL_law_646 (by decide) ?_
  refine lv_iadd hx hb dL_law_647 ?_
  refine va_sld hx hb hX hbl hbA hS (lw_in hL hi (Nat.le_of_ble_eq_true rfl)) dL_law_648 ?_
  refine lw_cB (As := [.int (xs (nI i + nI 1).toNatClampNeg), .int (xs (nI i + nI 2).toNatClampNeg)]) (cb := [wb0 cI cS cG a g X Y, wb3 cI cS cG a g X Y, wb10 cI cS cG a g X Y]) (cb' := [wb0 cI cS cG a g (upd (upd (upd (upd (upd X 37 (z.2.2.2.1)) 38 (z.2.2.2.2.1)) 39 (z.2.2.2.2.2.1)) 40 (z.2.2.2.2.2.2.1)) 41 (z.2.2.2.2.2.2.2)) (bs_up2 (bs_up2 Y 40 (z.2.1)) 41 (z.2.2.1)), wb3 cI cS cG a g (upd (upd (upd (upd (upd X 37 (z.2.2.2.1)) 38 (z.2.2.2.2.1)) 39 (z.2.2.2.2.2.1)) 40 (z.2.2.2.2.2.2.1)) 41 (z.2.2.2.2.2.2.2)) (bs_up2 (bs_up2 Y 40 (z.2.1)) 41 (z.2.2.1)), wb10 cI cS cG a g (upd (upd (upd (upd (upd X 37 (z.2.2.2.1)) 38 (z.2.2.2.2.1)) 39 (z.2.2.2.2.2.1)) 40 (z.2.2.2.2.2.2.1)) 41 (z.2.2.2.2.2.2.2)) (bs_up2 (bs_up2 Y 40 (z.2.1)) 41 (z.2.2.1))]) (bl1 := wb cI cZ cS cG a g (upd (upd (upd (upd (upd X 37 (z.2.2.2.1)) 38 (z.2.2.2.2.1)) 39 (z.2.2.2.2.2.1)) 40 (z.2.2.2.2.2.2.1)) 41 (z.2.2.2.2.2.2.2)) (bs_up2 (bs_up2 Y 40 (z.2.1)) 41 (z.2.2.1)) G M N) ⟨hx, hb, hml, hown, hts⟩ (k_X6_heaviest l dC dI cI cZ cS cG (a 0) (a 1) (a 5) (a 7) (a 15) (a 23) (a 31) (a 48) (a 53) (a 56) (a 8) (a 9) (a 10) (a 11) (a 12) (a 13) (a 14) (a 54) (a 55) (X 0) (X 1) (X 5) (X 6) (X 7) (X 8) (X 9) (X 10) (Y 1) (Y 2) (Y 3) (Y 4) (Y 5) (Y 6) (Y 7) (Y 40) (Y 41) (X 37) (X 38) (X 39) (X 40) (X 41) (xs (nI i + nI 1).toNatClampNeg) (xs (nI i + nI 2).toNatClampNeg) z e1) (cwV 2 hts gL_law_X6_heaviest rfl rfl rfl (by decide +kernel) ⟨Nat.le_of_ble_eq_true rfl, Nat.le_of_ble_eq_true rfl⟩) hE hP hD hA hS [0, 3, 10] (by decide) rfl 6 0 rfl rfl rfl rfl wb_f rfl rfl hl.1 (Nat.le_of_ble_eq_true rfl) dL_law_649 ⟨Nat.le_of_ble_eq_true rfl, Nat.le_of_ble_eq_true rfl⟩ (fun H locs hP hD hS => ?_)
  refine lv_aload_n hx hb dL_law_652 rfl (lv_at hl 1 rfl) ?_
  refine lv_aload_n hx hb dL_law_653 rfl (lv_at hl 3 rfl) ?_
  refine lv_iload_n hx hb dL_law_654 rfl (lv_at hl 0 rfl) ?_
  refine lv_iconst (v := nI 1) hx hb dL_law_655 (by decide) ?_
  refine lv_iadd hx hb dL_law_656 ?_
  refine va_sld hx hb hX hbl hbA hS (lw_in hL hi (Nat.le_of_ble_eq_true rfl)) dL_law_657 ?_
  refine lv_aload_n hx hb dL_law_658 rfl (lv_at hl 3 rfl) ?_
  refine lv_iload_n hx hb dL_law_659 rfl (lv_at hl 0 rfl) ?_
  refine lv_iconst (v := nI 2) hx hb dL_law_660 (by decide) ?_
  refine lv_iadd hx hb dL_law_661 ?_
  refine va_sld hx hb hX hbl hbA hS (lw_in hL hi (Nat.le_of_ble_eq_true rfl)) dL_law_662 ?_
  refine lw_cBR (As := [.int (xs (nI i + nI 1).toNatClampNeg), .int (xs (nI i + nI 2).toNatClampNeg)]) (cb := [wb12 cI cZ a M N]) ⟨hx, hb, hml, hown, hts⟩ (k_X7_heaviest l dC dI cI cZ cS cG (a 58) (a 59) (a 60) (a 61) (a 62) (a 63) (a 64) (a 65) (a 66) (a 67) (a 68) (a 69) (a 70) (N 0) (N 1) (N 2) (M 0) (M 1) (N 3) (N 4) (N 5) (M 2) (M 3) (M 4) (M 5) (M 6) (M 7) (M 8) (N 6) (N 7) (M 9) (N 8) (M 10) (N 9) (N 10) (N 11) (M 11) (xs (nI i + nI 1).toNatClampNeg) (xs (nI i + nI 2).toNatClampNeg) w e2) (cwV 2 hts gL_law_X7_heaviest rfl rfl rfl (by decide +kernel) ⟨Nat.le_of_ble_eq_true rfl, Nat.le_of_ble_eq_true rfl⟩) hE hP hD hA hS [12] (by decide) rfl 7 0 rfl rfl rfl rfl hl.1 (Nat.le_of_ble_eq_true rfl) dL_law_663 ⟨Nat.le_of_ble_eq_true rfl, Nat.le_of_ble_eq_true rfl⟩ (fun H locs hP hD hS => ?_)
  refine lv_icmp_eq (tgt := 1169) hx hb dL_law_666 (by decide) (fun _ => ?_) (fun c9 => absurd e3 c9)
  exact kk _ _ _ _ _ H locs hP hD hS hR1
set_option maxHeartbeats 4000000 in
set_option maxRecDepth 100000 in
theorem lc_worded (C0 : lw_At p s m meth c b L xs) (hE : bs_E dC dI cI cZ cS cG s) (hP : va_P (dC, dI) vwCl (wb cI cZ cS cG a g X Y G M N).flatten H) (hD : va_D (fun q : Nat => s.heap.size ≤ q) (wb cI cZ cS cG a g X Y G M N).flatten) (hS : va_S (fun q : Nat => s.heap.size ≤ q) s.heap H locs) (hR : RR X Y G M N) (hL : L ≤ 3072) (hi : i + 5 < L) (hl : lv_has ls 4 [(3, .int (nI i)), (2, .ref (a 58)), (1, .ref (a 0)), (0, .ref b)]) (kk : lw_K p l e s m below meth c b dC dI cI cZ cS cG a g ls Q) : W p l e room_1 s m #[Value.ref b] below meth c H locs 600000 7302250 Q (F0 m 671 ls []) := by
  obtain ⟨hx, hb, hr, hml, hown, hts0, hX, hbl, hlocks, hgv⟩ := C0
  have hts : ∀ w ∈ wsL_law, w.before #[Value.ref b] s = true := fun w hw => hts0 w (wsL_law_in w hw)
  have hA : ∀ q : Nat, s.heap.size ≤ q → (fun q : Nat => s.heap.size ≤ q) q := fun _ h => h
  have hbA : ¬ (fun q : Nat => s.heap.size ≤ q) b := Nat.not_le.mpr hbl
  obtain ⟨z, w, e1, e2, e3, hR1⟩ := rs_worded hR (xs (nI i + nI 1).toNatClampNeg) (xs (nI i + nI 2).toNatClampNeg)
  refine lv_aload_n hx hb dL_law_671 rfl (lv_at hl 2 rfl) ?_
  refine lv_aload_n hx hb dL_law_672 rfl (lv_at hl 3 rfl) ?_
  refine lv_iload_n hx hb dL_law_673 rfl (lv_at hl 0 rfl) ?_
  refine lv_iconst (v := nI 1) hx hb dL_law_674 (by decide) ?_
  refine lv_iadd hx hb dL_law_675 ?_
  refine va_sld hx hb hX hbl hbA hS (lw_in hL hi (Nat.le_of_ble_eq_true rfl)) dL_law_676 ?_
  refine lv_aload_n hx hb dL_law_677 rfl (lv_at hl 3 rfl) ?_
  refine lv_iload_n hx hb dL_law_678 rfl (lv_at hl 0 rfl) ?_
  refine lv_iconst (v := nI 2) hx hb dL_law_679 (by decide) ?_
  refine lv_iadd hx hb dL_law_680 ?_
  refine va_sld hx hb hX hbl hbA hS (lw_in hL hi (Nat.le_of_ble_eq_true rfl)) dL_law_681 ?_
  refine lw_cBR (As := [.int (xs (nI i + nI 1).toNatClampNeg), .int (xs (nI i + nI 2).toNatClampNeg)]) (cb := [wb0 cI cS cG a g X Y, wb3 cI cS cG a g X Y]) ⟨hx, hb, hml, hown, hts⟩ (k_X6_worded l dC dI cI cZ cS cG (a 0) (a 1) (a 5) (a 7) (a 15) (a 23) (a 31) (a 48) (a 53) (a 56) (a 8) (a 9) (a 10) (a 11) (a 12) (a 13) (a 14) (X 0) (X 1) (X 5) (X 6) (X 7) (X 8) (X 9) (X 10) (Y 1) (Y 2) (Y 3) (Y 4) (Y 5) (Y 6) (Y 7) (xs (nI i + nI 1).toNatClampNeg) (xs (nI i + nI 2).toNatClampNeg) z e1) (cwV 2 hts gL_law_X6_worded rfl rfl rfl (by decide +kernel) ⟨Nat.le_of_ble_eq_true rfl, Nat.le_of_ble_eq_true rfl⟩) hE hP hD hA hS [0, 3] (by decide) rfl 6 0 rfl rfl rfl rfl hl.1 (Nat.le_of_ble_eq_true rfl) dL_law_682 ⟨Nat.le_of_ble_eq_true rfl, Nat.le_of_ble_eq_true rfl⟩ (fun H locs hP hD hS => ?_)
  refine lv_aload_n hx hb dL_law_685 rfl (lv_at hl 1 rfl) ?_
  refine lv_aload_n hx hb dL_law_686 rfl (lv_at hl 3 rfl) ?_
  refine lv_iload_n hx hb dL_law_687 rfl (lv_at hl 0 rfl) ?_
  refine lv_iconst (v := nI 1) hx hb dL_law_688 (by decide) ?_
  refine lv_iadd hx hb dL_law_689 ?_
  refine va_sld hx hb hX hbl hbA hS (lw_in hL hi (Nat.le_of_ble_eq_true rfl)) dL_law_690 ?_
  refine lv_aload_n hx hb dL_law_691 rfl (lv_at hl 3 rfl) ?_
  refine lv_iload_n hx hb dL_law_692 rfl (lv_at hl 0 rfl) ?_
  refine lv_iconst (v := nI 2) hx hb dL_law_693 (by decide) ?_
  refine lv_iadd hx hb dL_law_694 ?_
  refine va_sld hx hb hX hbl hbA hS (lw_in hL hi (Nat.le_of_ble_eq_true rfl)) dL_law_695 ?_
  refine lw_cBR (As := [.int (xs (nI i + nI 1).toNatClampNeg), .int (xs (nI i + nI 2).toNatClampNeg)]) (cb := [wb12 cI cZ a M N]) ⟨hx, hb, hml, hown, hts⟩ (k_X7_worded l dC dI cI cZ cS cG (a 58) (a 59) (a 60) (a 61) (a 62) (a 63) (a 64) (a 65) (a 66) (a 67) (a 68) (a 69) (a 70) (N 0) (N 1) (N 2) (M 0) (M 1) (N 3) (N 4) (N 5) (M 2) (M 3) (M 4) (M 5) (M 6) (M 7) (M 8) (N 6) (N 7) (M 9) (N 8) (M 10) (N 9) (N 10) (N 11) (M 11) (xs (nI i + nI 1).toNatClampNeg) (xs (nI i + nI 2).toNatClampNeg) w e2) (cwV 2 hts gL_law_X7_worded rfl rfl rfl (by decide +kernel) ⟨Nat.le_of_ble_eq_true rfl, Nat.le_of_ble_eq_true rfl⟩) hE hP hD hA hS [12] (by decide) rfl 7 0 rfl rfl rfl rfl hl.1 (Nat.le_of_ble_eq_true rfl) dL_law_696 ⟨Nat.le_of_ble_eq_true rfl, Nat.le_of_ble_eq_true rfl⟩ (fun H locs hP hD hS => ?_)
  refine lv_icmp_eq (tgt := 1169) hx hb dL_law_699 (by decide) (fun _ => ?_) (fun c9 => absurd e3 c9)
  exact kk _ _ _ _ _ H locs hP hD hS hR1
set_option maxHeartbeats 4000000 in
set_option maxRecDepth 100000 in
theorem lc_price (C0 : lw_At p s m meth c b L xs) (hE : bs_E dC dI cI cZ cS cG s) (hP : va_P (dC, dI) vwCl (wb cI cZ cS cG a g X Y G M N).flatten H) (hD : va_D (fun q : Nat => s.heap.size ≤ q) (wb cI cZ cS cG a g X Y G M N).flatten) (hS : va_S (fun q : Nat => s.heap.size ≤ q) s.heap H locs) (hR : RR X Y G M N) (hL : L ≤ 3072) (hi : i + 5 < L) (hl : lv_has ls 4 [(3, .int (nI i)), (2, .ref (a 58)), (1, .ref (a 0)), (0, .ref b)]) (kk : lw_K p l e s m below meth c b dC dI cI cZ cS cG a g ls Q) : W p l e room_1 s m #[Value.ref b] below meth c H locs 600000 7302250 Q (F0 m 704 ls []) := by
  obtain ⟨hx, hb, hr, hml, hown, hts0, hX, hbl, hlocks, hgv⟩ := C0
  have hts : ∀ w ∈ wsL_law, w.before #[Value.ref b] s = true := fun w hw => hts0 w (wsL_law_in w hw)
  have hA : ∀ q : Nat, s.heap.size ≤ q → (fun q : Nat => s.heap.size ≤ q) q := fun _ h => h
  have hbA : ¬ (fun q : Nat => s.heap.size ≤ q) b := Nat.not_le.mpr hbl
  obtain ⟨z, w, e1, e2, e3, hR1⟩ := rs_price hR (xs (nI i + nI 1).toNatClampNeg) (xs (nI i + nI 2).toNatClampNeg)
  refine lv_aload_n hx hb dL_law_704 rfl (lv_at hl 2 rfl) ?_
  refine lv_aload_n hx hb dL_law_705 rfl (lv_at hl 3 rfl) ?_
  refine lv_iload_n hx hb dL_law_706 rfl (lv_at hl 0 rfl) ?_
  refine lv_iconst (v := nI 1) hx hb dL_law_707 (by decide) ?_
  refine lv_iadd hx hb dL_law_708 ?_
  refine va_sld hx hb hX hbl hbA hS (lw_in hL hi (Nat.le_of_ble_eq_true rfl)) dL_law_709 ?_
  refine lv_aload_n hx hb dL_law_710 rfl (lv_at hl 3 rfl) ?_
  refine lv_iload_n hx hb dL_law_711 rfl (lv_at hl 0 rfl) ?_
  refine lv_iconst (v := nI 2) hx hb dL_law_712 (by decide) ?_
  refine lv_iadd hx hb dL_law_713 ?_
  refine va_sld hx hb hX hbl hbA hS (lw_in hL hi (Nat.le_of_ble_eq_true rfl)) dL_law_714 ?_
  refine lw_cBR (As := [.int (xs (nI i + nI 1).toNatClampNeg), .int (xs (nI i + nI 2).toNatClampNeg)]) (cb := [wb0 cI cS cG a g X Y, wb3 cI cS cG a g X Y]) ⟨hx, hb, hml, hown, hts⟩ (k_X6_price l dC dI cI cZ cS cG (a 0) (a 1) (a 5) (a 7) (a 15) (a 23) (a 31) (a 48) (a 53) (a 56) (a 8) (a 9) (a 10) (a 11) (a 12) (a 13) (a 14) (X 0) (X 1) (X 5) (X 6) (X 7) (X 8) (X 9) (X 10) (Y 1) (Y 2) (Y 3) (Y 4) (Y 5) (Y 6) (Y 7) (xs (nI i + nI 1).toNatClampNeg) (xs (nI i + nI 2).toNatClampNeg) z e1) (cwV 2 hts gL_law_X6_price rfl rfl rfl (by decide +kernel) ⟨Nat.le_of_ble_eq_true rfl, Nat.le_of_ble_eq_true rfl⟩) hE hP hD hA hS [0, 3] (by decide) rfl 6 0 rfl rfl rfl rfl hl.1 (Nat.le_of_ble_eq_true rfl) dL_law_715 ⟨Nat.le_of_ble_eq_true rfl, Nat.le_of_ble_eq_true rfl⟩ (fun H locs hP hD hS => ?_)
  refine lv_aload_n hx hb dL_law_718 rfl (lv_at hl 1 rfl) ?_
  refine lv_aload_n hx hb dL_law_719 rfl (lv_at hl 3 rfl) ?_
  refine lv_iload_n hx hb dL_law_720 rfl (lv_at hl 0 rfl) ?_
  refine lv_iconst (v := nI 1) hx hb dL_law_721 (by decide) ?_
  refine lv_iadd hx hb dL_law_722 ?_
  refine va_sld hx hb hX hbl hbA hS (lw_in hL hi (Nat.le_of_ble_eq_true rfl)) dL_law_723 ?_
  refine lv_aload_n hx hb dL_law_724 rfl (lv_at hl 3 rfl) ?_
  refine lv_iload_n hx hb dL_law_725 rfl (lv_at hl 0 rfl) ?_
  refine lv_iconst (v := nI 2) hx hb dL_law_726 (by decide) ?_
  refine lv_iadd hx hb dL_law_727 ?_
  refine va_sld hx hb hX hbl hbA hS (lw_in hL hi (Nat.le_of_ble_eq_true rfl)) dL_law_728 ?_
  refine lw_cBR (As := [.int (xs (nI i + nI 1).toNatClampNeg), .int (xs (nI i + nI 2).toNatClampNeg)]) (cb := [wb12 cI cZ a M N]) ⟨hx, hb, hml, hown, hts⟩ (k_X7_price l dC dI cI cZ cS cG (a 58) (a 59) (a 60) (a 61) (a 62) (a 63) (a 64) (a 65) (a 66) (a 67) (a 68) (a 69) (a 70) (N 0) (N 1) (N 2) (M 0) (M 1) (N 3) (N 4) (N 5) (M 2) (M 3) (M 4) (M 5) (M 6) (M 7) (M 8) (N 6) (N 7) (M 9) (N 8) (M 10) (N 9) (N 10) (N 11) (M 11) (xs (nI i + nI 1).toNatClampNeg) (xs (nI i + nI 2).toNatClampNeg) w e2) (cwV 2 hts gL_law_X7_price rfl rfl rfl (by decide +kernel) ⟨Nat.le_of_ble_eq_true rfl, Nat.le_of_ble_eq_true rfl⟩) hE hP hD hA hS [12] (by decide) rfl 7 0 rfl rfl rfl rfl hl.1 (Nat.le_of_ble_eq_true rfl) dL_law_729 ⟨Nat.le_of_ble_eq_true rfl, Nat.le_of_ble_eq_true rfl⟩ (fun H locs hP hD hS => ?_)
  refine lv_icmp_eq (tgt := 1169) hx hb dL_law_732 (by decide) (fun _ => ?_) (fun c9 => absurd e3 c9)
  exact kk _ _ _ _ _ H locs hP hD hS hR1
set_option maxHeartbeats 4000000 in
set_option maxRecDepth 100000 in
theorem lc_prices (C0 : lw_At p s m meth c b L xs) (hE : bs_E dC dI cI cZ cS cG s) (hP : va_P (dC, dI) vwCl (wb cI cZ cS cG a g X Y G M N).flatten H) (hD : va_D (fun q : Nat => s.heap.size ≤ q) (wb cI cZ cS cG a g X Y G M N).flatten) (hS : va_S (fun q : Nat => s.heap.size ≤ q) s.heap H locs) (hR : RR X Y G M N) (hL : L ≤ 3072) (hi : i + 5 < L) (hl : lv_has ls 4 [(3, .int (nI i)), (2, .ref (a 58)), (1, .ref (a 0)), (0, .ref b)]) (kk : lw_K p l e s m below meth c b dC dI cI cZ cS cG a g ls Q) : W p l e room_1 s m #[Value.ref b] below meth c H locs 600000 7302250 Q (F0 m 737 ls []) := by
  obtain ⟨hx, hb, hr, hml, hown, hts0, hX, hbl, hlocks, hgv⟩ := C0
  have hts : ∀ w ∈ wsL_law, w.before #[Value.ref b] s = true := fun w hw => hts0 w (wsL_law_in w hw)
  have hA : ∀ q : Nat, s.heap.size ≤ q → (fun q : Nat => s.heap.size ≤ q) q := fun _ h => h
  have hbA : ¬ (fun q : Nat => s.heap.size ≤ q) b := Nat.not_le.mpr hbl
  obtain ⟨z, w, e1, e2, e3, hR1⟩ := rs_prices hR (xs (nI i + nI 1).toNatClampNeg) (xs (nI i + nI 2).toNatClampNeg)
  refine lv_aload_n hx hb dL_law_737 rfl (lv_at hl 2 rfl) ?_
  refine lv_aload_n hx hb dL_law_738 rfl (lv_at hl 3 rfl) ?_
  refine lv_iload_n hx hb dL_law_739 rfl (lv_at hl 0 rfl) ?_
  refine lv_iconst (v := nI 1) hx hb dL_law_740 (by decide) ?_
  refine lv_iadd hx hb dL_law_741 ?_
  refine va_sld hx hb hX hbl hbA hS (lw_in hL hi (Nat.le_of_ble_eq_true rfl)) dL_law_742 ?_
  refine lv_aload_n hx hb dL_law_743 rfl (lv_at hl 3 rfl) ?_
  refine lv_iload_n hx hb dL_law_744 rfl (lv_at hl 0 rfl) ?_
  refine lv_iconst (v := nI 2) hx hb dL_law_745 (by decide) ?_
  refine lv_iadd hx hb dL_law_746 ?_
  refine va_sld hx hb hX hbl hbA hS (lw_in hL hi (Nat.le_of_ble_eq_true rfl)) dL_law_747 ?_
  refine lw_cBR (As := [.int (xs (nI i + nI 1).toNatClampNeg), .int (xs (nI i + nI 2).toNatClampNeg)]) (cb := [wb0 cI cS cG a g X Y, wb3 cI cS cG a g X Y]) ⟨hx, hb, hml, hown, hts⟩ (k_X6_prices l dC dI cI cZ cS cG (a 0) (a 1) (a 5) (a 7) (a 15) (a 23) (a 31) (a 48) (a 53) (a 56) (a 8) (a 9) (a 10) (a 11) (a 12) (a 13) (a 14) (X 0) (X 1) (X 5) (X 6) (X 7) (X 8) (X 9) (X 10) (Y 1) (Y 2) (Y 3) (Y 4) (Y 5) (Y 6) (Y 7) (xs (nI i + nI 1).toNatClampNeg) (xs (nI i + nI 2).toNatClampNeg) z e1) (cwV 2 hts gL_law_X6_prices rfl rfl rfl (by decide +kernel) ⟨Nat.le_of_ble_eq_true rfl, Nat.le_of_ble_eq_true rfl⟩) hE hP hD hA hS [0, 3] (by decide) rfl 6 0 rfl rfl rfl rfl hl.1 (Nat.le_of_ble_eq_true rfl) dL_law_748 ⟨Nat.le_of_ble_eq_true rfl, Nat.le_of_ble_eq_true rfl⟩ (fun H locs hP hD hS => ?_)
  refine lv_aload_n hx hb dL_law_751 rfl (lv_at hl 1 rfl) ?_
  refine lv_aload_n hx hb dL_law_752 rfl (lv_at hl 3 rfl) ?_
  refine lv_iload_n hx hb dL_law_753 rfl (lv_at hl 0 rfl) ?_
  refine lv_iconst (v := nI 1) hx hb dL_law_754 (by decide) ?_
  refine lv_iadd hx hb dL_law_755 ?_
  refine va_sld hx hb hX hbl hbA hS (lw_in hL hi (Nat.le_of_ble_eq_true rfl)) dL_law_756 ?_
  refine lv_aload_n hx hb dL_law_757 rfl (lv_at hl 3 rfl) ?_
  refine lv_iload_n hx hb dL_law_758 rfl (lv_at hl 0 rfl) ?_
  refine lv_iconst (v := nI 2) hx hb dL_law_759 (by decide) ?_
  refine lv_iadd hx hb dL_law_760 ?_
  refine va_sld hx hb hX hbl hbA hS (lw_in hL hi (Nat.le_of_ble_eq_true rfl)) dL_law_761 ?_
  refine lw_cBR (As := [.int (xs (nI i + nI 1).toNatClampNeg), .int (xs (nI i + nI 2).toNatClampNeg)]) (cb := [wb12 cI cZ a M N]) ⟨hx, hb, hml, hown, hts⟩ (k_X7_prices l dC dI cI cZ cS cG (a 58) (a 59) (a 60) (a 61) (a 62) (a 63) (a 64) (a 65) (a 66) (a 67) (a 68) (a 69) (a 70) (N 0) (N 1) (N 2) (M 0) (M 1) (N 3) (N 4) (N 5) (M 2) (M 3) (M 4) (M 5) (M 6) (M 7) (M 8) (N 6) (N 7) (M 9) (N 8) (M 10) (N 9) (N 10) (N 11) (M 11) (xs (nI i + nI 1).toNatClampNeg) (xs (nI i + nI 2).toNatClampNeg) w e2) (cwV 2 hts gL_law_X7_prices rfl rfl rfl (by decide +kernel) ⟨Nat.le_of_ble_eq_true rfl, Nat.le_of_ble_eq_true rfl⟩) hE hP hD hA hS [12] (by decide) rfl 7 0 rfl rfl rfl rfl hl.1 (Nat.le_of_ble_eq_true rfl) dL_law_762 ⟨Nat.le_of_ble_eq_true rfl, Nat.le_of_ble_eq_true rfl⟩ (fun H locs hP hD hS => ?_)
  refine lv_icmp_eq (tgt := 1169) hx hb dL_law_765 (by decide) (fun _ => ?_) (fun c9 => absurd e3 c9)
  exact kk _ _ _ _ _ H locs hP hD hS hR1
set_option maxHeartbeats 4000000 in
set_option maxRecDepth 100000 in
theorem lc_settles (C0 : lw_At p s m meth c b L xs) (hE : bs_E dC dI cI cZ cS cG s) (hP : va_P (dC, dI) vwCl (wb cI cZ cS cG a g X Y G M N).flatten H) (hD : va_D (fun q : Nat => s.heap.size ≤ q) (wb cI cZ cS cG a g X Y G M N).flatten) (hS : va_S (fun q : Nat => s.heap.size ≤ q) s.heap H locs) (hR : RR X Y G M N) (hL : L ≤ 3072) (hi : i + 5 < L) (hl : lv_has ls 4 [(3, .int (nI i)), (2, .ref (a 58)), (1, .ref (a 0)), (0, .ref b)]) (kk : lw_K p l e s m below meth c b dC dI cI cZ cS cG a g ls Q) : W p l e room_1 s m #[Value.ref b] below meth c H locs 600000 7302250 Q (F0 m 770 ls []) := by
  obtain ⟨hx, hb, hr, hml, hown, hts0, hX, hbl, hlocks, hgv⟩ := C0
  have hts : ∀ w ∈ wsL_law, w.before #[Value.ref b] s = true := fun w hw => hts0 w (wsL_law_in w hw)
  have hA : ∀ q : Nat, s.heap.size ≤ q → (fun q : Nat => s.heap.size ≤ q) q := fun _ h => h
  have hbA : ¬ (fun q : Nat => s.heap.size ≤ q) b := Nat.not_le.mpr hbl
  obtain ⟨z, w, e1, e2, e3, hR1⟩ := rs_settles hR (xs (nI i + nI 1).toNatClampNeg) (xs (nI i + nI 2).toNatClampNeg) (xs (nI i + nI 3).toNatClampNeg)
  refine lv_aload_n hx hb dL_law_770 rfl (lv_at hl 2 rfl) ?_
  refine lv_aload_n hx hb dL_law_771 rfl (lv_at hl 3 rfl) ?_
  refine lv_iload_n hx hb dL_law_772 rfl (lv_at hl 0 rfl) ?_
  refine lv_iconst (v := nI 1) hx hb dL_law_773 (by decide) ?_
  refine lv_iadd hx hb dL_law_774 ?_
  refine va_sld hx hb hX hbl hbA hS (lw_in hL hi (Nat.le_of_ble_eq_true rfl)) dL_law_775 ?_
  refine lv_aload_n hx hb dL_law_776 rfl (lv_at hl 3 rfl) ?_
  refine lv_iload_n hx hb dL_law_777 rfl (lv_at hl 0 rfl) ?_
  refine lv_iconst (v := nI 2) hx hb dL_law_778 (by decide) ?_
  refine lv_iadd hx hb dL_law_779 ?_
  refine va_sld hx hb hX hbl hbA hS (lw_in hL hi (Nat.le_of_ble_eq_true rfl)) dL_law_780 ?_
  refine lv_aload_n hx hb dL_law_781 rfl (lv_at hl 3 rfl) ?_
  refine lv_iload_n hx hb dL_law_782 rfl (lv_at hl 0 rfl) ?_
  refine lv_iconst (v := nI 3) hx hb dL_law_783 (by decide) ?_
  refine lv_iadd hx hb dL_law_784 ?_
  refine va_sld hx hb hX hbl hbA hS (lw_in hL hi (Nat.le_of_ble_eq_true rfl)) dL_law_785 ?_
  refine lw_cB (As := [.int (xs (nI i + nI 1).toNatClampNeg), .int (xs (nI i + nI 2).toNatClampNeg), .int (xs (nI i + nI 3).toNatClampNeg)]) (cb := [wb0 cI cS cG a g X Y, wb3 cI cS cG a g X Y, wb5 cI cS cG a g X Y]) (cb' := [wb0 cI cS cG a g (upd (upd (upd (upd (upd (upd X 17 (z.2.1)) 18 (z.2.2.1)) 19 (z.2.2.2.1)) 20 (z.2.2.2.2.1)) 21 (z.2.2.2.2.2.1)) 22 (z.2.2.2.2.2.2.1)) (bs_up2 (bs_up2 (bs_up2 (bs_up2 (bs_up2 (bs_up2 (bs_up2 Y 15 (z.2.2.2.2.2.2.2.1)) 16 (z.2.2.2.2.2.2.2.2.1)) 17 (z.2.2.2.2.2.2.2.2.2.1)) 18 (z.2.2.2.2.2.2.2.2.2.2.1)) 19 (z.2.2.2.2.2.2.2.2.2.2.2.1)) 20 (z.2.2.2.2.2.2.2.2.2.2.2.2.1)) 21 (z.2.2.2.2.2.2.2.2.2.2.2.2.2)), wb3 cI cS cG a g (upd (upd (upd (upd (upd (upd X 17 (z.2.1)) 18 (z.2.2.1)) 19 (z.2.2.2.1)) 20 (z.2.2.2.2.1)) 21 (z.2.2.2.2.2.1)) 22 (z.2.2.2.2.2.2.1)) (bs_up2 (bs_up2 (bs_up2 (bs_up2 (bs_up2 (bs_up2 (bs_up2 Y 15 (z.2.2.2.2.2.2.2.1)) 16 (z.2.2.2.2.2.2.2.2.1)) 17 (z.2.2.2.2.2.2.2.2.2.1)) 18 (z.2.2.2.2.2.2.2.2.2.2.1)) 19 (z.2.2.2.2.2.2.2.2.2.2.2.1)) 20 (z.2.2.2.2.2.2.2.2.2.2.2.2.1)) 21 (z.2.2.2.2.2.2.2.2.2.2.2.2.2)), wb5 cI cS cG a g (upd (upd (upd (upd (upd (upd X 17 (z.2.1)) 18 (z.2.2.1)) 19 (z.2.2.2.1)) 20 (z.2.2.2.2.1)) 21 (z.2.2.2.2.2.1)) 22 (z.2.2.2.2.2.2.1)) (bs_up2 (bs_up2 (bs_up2 (bs_up2 (bs_up2 (bs_up2 (bs_up2 Y 15 (z.2.2.2.2.2.2.2.1)) 16 (z.2.2.2.2.2.2.2.2.1)) 17 (z.2.2.2.2.2.2.2.2.2.1)) 18 (z.2.2.2.2.2.2.2.2.2.2.1)) 19 (z.2.2.2.2.2.2.2.2.2.2.2.1)) 20 (z.2.2.2.2.2.2.2.2.2.2.2.2.1)) 21 (z.2.2.2.2.2.2.2.2.2.2.2.2.2))]) (bl1 := wb cI cZ cS cG a g (upd (upd (upd (upd (upd (upd X 17 (z.2.1)) 18 (z.2.2.1)) 19 (z.2.2.2.1)) 20 (z.2.2.2.2.1)) 21 (z.2.2.2.2.2.1)) 22 (z.2.2.2.2.2.2.1)) (bs_up2 (bs_up2 (bs_up2 (bs_up2 (bs_up2 (bs_up2 (bs_up2 Y 15 (z.2.2.2.2.2.2.2.1)) 16 (z.2.2.2.2.2.2.2.2.1)) 17 (z.2.2.2.2.2.2.2.2.2.1)) 18 (z.2.2.2.2.2.2.2.2.2.2.1)) 19 (z.2.2.2.2.2.2.2.2.2.2.2.1)) 20 (z.2.2.2.2.2.2.2.2.2.2.2.2.1)) 21 (z.2.2.2.2.2.2.2.2.2.2.2.2.2)) G M N) ⟨hx, hb, hml, hown, hts⟩ (k_X6_settles l dC dI cI cZ cS cG (a 0) (a 1) (a 5) (a 7) (a 15) (a 23) (a 31) (a 48) (a 53) (a 56) (a 8) (a 9) (a 10) (a 11) (a 12) (a 13) (a 14) (a 24) (a 25) (a 26) (a 27) (a 28) (a 29) (a 30) (X 0) (X 1) (X 5) (X 6) (X 7) (X 8) (X 9) (X 10) (Y 1) (Y 2) (Y 3) (Y 4) (Y 5) (Y 6) (Y 7) (X 17) (X 18) (X 19) (X 20) (X 21) (X 22) (Y 15) (Y 16) (Y 17) (Y 18) (Y 19) (Y 20) (Y 21) (xs (nI i + nI 1).toNatClampNeg) (xs (nI i + nI 2).toNatClampNeg) (xs (nI i + nI 3).toNatClampNeg) z e1) (cwV 3 hts gL_law_X6_settles rfl rfl rfl (by decide +kernel) ⟨Nat.le_of_ble_eq_true rfl, Nat.le_of_ble_eq_true rfl⟩) hE hP hD hA hS [0, 3, 5] (by decide) rfl 6 0 rfl rfl rfl rfl wb_f rfl rfl hl.1 (Nat.le_of_ble_eq_true rfl) dL_law_786 ⟨Nat.le_of_ble_eq_true rfl, Nat.le_of_ble_eq_true rfl⟩ (fun H locs hP hD hS => ?_)
  refine lv_aload_n hx hb dL_law_789 rfl (lv_at hl 1 rfl) ?_
  refine lv_aload_n hx hb dL_law_790 rfl (lv_at hl 3 rfl) ?_
  refine lv_iload_n hx hb dL_law_791 rfl (lv_at hl 0 rfl) ?_
  refine lv_iconst (v := nI 1) hx hb dL_law_792 (by decide) ?_
  refine lv_iadd hx hb dL_law_793 ?_
  refine va_sld hx hb hX hbl hbA hS (lw_in hL hi (Nat.le_of_ble_eq_true rfl)) dL_law_794 ?_
  refine lv_aload_n hx hb dL_law_795 rfl (lv_at hl 3 rfl) ?_
  refine lv_iload_n hx hb dL_law_796 rfl (lv_at hl 0 rfl) ?_
  refine lv_iconst (v := nI 2) hx hb dL_law_797 (by decide) ?_
  refine lv_iadd hx hb dL_law_798 ?_
  refine va_sld hx hb hX hbl hbA hS (lw_in hL hi (Nat.le_of_ble_eq_true rfl)) dL_law_799 ?_
  refine lv_aload_n hx hb dL_law_800 rfl (lv_at hl 3 rfl) ?_
  refine lv_iload_n hx hb dL_law_801 rfl (lv_at hl 0 rfl) ?_
  refine lv_iconst (v := nI 3) hx hb dL_law_802 (by decide) ?_
  refine lv_iadd hx hb dL_law_803 ?_
  refine va_sld hx hb hX hbl hbA hS (lw_in hL hi (Nat.le_of_ble_eq_true rfl)) dL_law_804 ?_
  refine lw_cB (As := [.int (xs (nI i + nI 1).toNatClampNeg), .int (xs (nI i + nI 2).toNatClampNeg), .int (xs (nI i + nI 3).toNatClampNeg)]) (cb := [wb12 cI cZ a M N]) (cb' := [wb12 cI cZ a (upd M 10 (w.2.2.2)) (bs_up2 (bs_up2 N 3 (w.2.1)) 8 (w.2.2.1))]) (bl1 := wb cI cZ cS cG a g (upd (upd (upd (upd (upd (upd X 17 (z.2.1)) 18 (z.2.2.1)) 19 (z.2.2.2.1)) 20 (z.2.2.2.2.1)) 21 (z.2.2.2.2.2.1)) 22 (z.2.2.2.2.2.2.1)) (bs_up2 (bs_up2 (bs_up2 (bs_up2 (bs_up2 (bs_up2 (bs_up2 Y 15 (z.2.2.2.2.2.2.2.1)) 16 (z.2.2.2.2.2.2.2.2.1)) 17 (z.2.2.2.2.2.2.2.2.2.1)) 18 (z.2.2.2.2.2.2.2.2.2.2.1)) 19 (z.2.2.2.2.2.2.2.2.2.2.2.1)) 20 (z.2.2.2.2.2.2.2.2.2.2.2.2.1)) 21 (z.2.2.2.2.2.2.2.2.2.2.2.2.2)) G (upd M 10 (w.2.2.2)) (bs_up2 (bs_up2 N 3 (w.2.1)) 8 (w.2.2.1))) ⟨hx, hb, hml, hown, hts⟩ (k_X7_settles l dC dI cI cZ cS cG (a 58) (a 59) (a 60) (a 61) (a 62) (a 63) (a 64) (a 65) (a 66) (a 67) (a 68) (a 69) (a 70) (N 0) (N 1) (N 2) (M 0) (M 1) (N 3) (N 4) (N 5) (M 2) (M 3) (M 4) (M 5) (M 6) (M 7) (M 8) (N 6) (N 7) (M 9) (N 8) (M 10) (N 9) (N 10) (N 11) (M 11) (xs (nI i + nI 1).toNatClampNeg) (xs (nI i + nI 2).toNatClampNeg) (xs (nI i + nI 3).toNatClampNeg) w e2) (cwV 3 hts gL_law_X7_settles rfl rfl rfl (by decide +kernel) ⟨Nat.le_of_ble_eq_true rfl, Nat.le_of_ble_eq_true rfl⟩) hE hP hD hA hS [12] (by decide) rfl 7 0 rfl rfl rfl rfl wb_f rfl rfl hl.1 (Nat.le_of_ble_eq_true rfl) dL_law_805 ⟨Nat.le_of_ble_eq_true rfl, Nat.le_of_ble_eq_true rfl⟩ (fun H locs hP hD hS => ?_)
  refine lv_icmp_eq (tgt := 1169) hx hb dL_law_808 (by decide) (fun _ => ?_) (fun c9 => absurd e3 c9)
  exact kk _ _ _ _ _ H locs hP hD hS hR1
set_option maxHeartbeats 4000000 in
set_option maxRecDepth 100000 in
theorem lc_bestHeavy (C0 : lw_At p s m meth c b L xs) (hE : bs_E dC dI cI cZ cS cG s) (hP : va_P (dC, dI) vwCl (wb cI cZ cS cG a g X Y G M N).flatten H) (hD : va_D (fun q : Nat => s.heap.size ≤ q) (wb cI cZ cS cG a g X Y G M N).flatten) (hS : va_S (fun q : Nat => s.heap.size ≤ q) s.heap H locs) (hR : RR X Y G M N) (hL : L ≤ 3072) (hi : i + 5 < L) (hl : lv_has ls 4 [(3, .int (nI i)), (2, .ref (a 58)), (1, .ref (a 0)), (0, .ref b)]) (kk : lw_K p l e s m below meth c b dC dI cI cZ cS cG a g ls Q) : W p l e room_1 s m #[Value.ref b] below meth c H locs 600000 7302250 Q (F0 m 813 ls []) := by
  obtain ⟨hx, hb, hr, hml, hown, hts0, hX, hbl, hlocks, hgv⟩ := C0
  have hts : ∀ w ∈ wsL_law, w.before #[Value.ref b] s = true := fun w hw => hts0 w (wsL_law_in w hw)
  have hA : ∀ q : Nat, s.heap.size ≤ q → (fun q : Nat => s.heap.size ≤ q) q := fun _ h => h
  have hbA : ¬ (fun q : Nat => s.heap.size ≤ q) b := Nat.not_le.mpr hbl
  obtain ⟨z, w, e1, e2, e3, hR1⟩ := rs_bestHeavy hR (xs (nI i + nI 1).toNatClampNeg)
  refine lv_aload_n hx hb dL_law_813 rfl (lv_at hl 2 rfl) ?_
  refine lv_aload_n hx hb dL_law_814 rfl (lv_at hl 3 rfl) ?_
  refine lv_iload_n hx hb dL_law_815 rfl (lv_at hl 0 rfl) ?_
  refine lv_iconst (v := nI 1) hx hb dL_law_816 (by decide) ?_
  refine lv_iadd hx hb dL_law_817 ?_
  refine va_sld hx hb hX hbl hbA hS (lw_in hL hi (Nat.le_of_ble_eq_true rfl)) dL_law_818 ?_
  refine lw_cB (As := [.int (xs (nI i + nI 1).toNatClampNeg)]) (cb := [wb0 cI cS cG a g X Y, wb3 cI cS cG a g X Y, wb5 cI cS cG a g X Y]) (cb' := [wb0 cI cS cG a g (upd (upd (upd (upd (upd (upd X 17 (z.2.1)) 18 (z.2.2.1)) 19 (z.2.2.2.1)) 20 (z.2.2.2.2.1)) 21 (z.2.2.2.2.2.1)) 22 (z.2.2.2.2.2.2.1)) (bs_up2 (bs_up2 (bs_up2 (bs_up2 (bs_up2 (bs_up2 (bs_up2 Y 15 (z.2.2.2.2.2.2.2.1)) 16 (z.2.2.2.2.2.2.2.2.1)) 17 (z.2.2.2.2.2.2.2.2.2.1)) 18 (z.2.2.2.2.2.2.2.2.2.2.1)) 19 (z.2.2.2.2.2.2.2.2.2.2.2.1)) 20 (z.2.2.2.2.2.2.2.2.2.2.2.2.1)) 21 (z.2.2.2.2.2.2.2.2.2.2.2.2.2)), wb3 cI cS cG a g (upd (upd (upd (upd (upd (upd X 17 (z.2.1)) 18 (z.2.2.1)) 19 (z.2.2.2.1)) 20 (z.2.2.2.2.1)) 21 (z.2.2.2.2.2.1)) 22 (z.2.2.2.2.2.2.1)) (bs_up2 (bs_up2 (bs_up2 (bs_up2 (bs_up2 (bs_up2 (bs_up2 Y 15 (z.2.2.2.2.2.2.2.1)) 16 (z.2.2.2.2.2.2.2.2.1)) 17 (z.2.2.2.2.2.2.2.2.2.1)) 18 (z.2.2.2.2.2.2.2.2.2.2.1)) 19 (z.2.2.2.2.2.2.2.2.2.2.2.1)) 20 (z.2.2.2.2.2.2.2.2.2.2.2.2.1)) 21 (z.2.2.2.2.2.2.2.2.2.2.2.2.2)), wb5 cI cS cG a g (upd (upd (upd (upd (upd (upd X 17 (z.2.1)) 18 (z.2.2.1)) 19 (z.2.2.2.1)) 20 (z.2.2.2.2.1)) 21 (z.2.2.2.2.2.1)) 22 (z.2.2.2.2.2.2.1)) (bs_up2 (bs_up2 (bs_up2 (bs_up2 (bs_up2 (bs_up2 (bs_up2 Y 15 (z.2.2.2.2.2.2.2.1)) 16 (z.2.2.2.2.2.2.2.2.1)) 17 (z.2.2.2.2.2.2.2.2.2.1)) 18 (z.2.2.2.2.2.2.2.2.2.2.1)) 19 (z.2.2.2.2.2.2.2.2.2.2.2.1)) 20 (z.2.2.2.2.2.2.2.2.2.2.2.2.1)) 21 (z.2.2.2.2.2.2.2.2.2.2.2.2.2))]) (bl1 := wb cI cZ cS cG a g (upd (upd (upd (upd (upd (upd X 17 (z.2.1)) 18 (z.2.2.1)) 19 (z.2.2.2.1)) 20 (z.2.2.2.2.1)) 21 (z.2.2.2.2.2.1)) 22 (z.2.2.2.2.2.2.1)) (bs_up2 (bs_up2 (bs_up2 (bs_up2 (bs_up2 (bs_up2 (bs_up2 Y 15 (z.2.2.2.2.2.2.2.1)) 16 (z.2.2.2.2.2.2.2.2.1)) 17 (z.2.2.2.2.2.2.2.2.2.1)) 18 (z.2.2.2.2.2.2.2.2.2.2.1)) 19 (z.2.2.2.2.2.2.2.2.2.2.2.1)) 20 (z.2.2.2.2.2.2.2.2.2.2.2.2.1)) 21 (z.2.2.2.2.2.2.2.2.2.2.2.2.2)) G M N) ⟨hx, hb, hml, hown, hts⟩ (k_X6_bestHeavy l dC dI cI cZ cS cG (a 0) (a 1) (a 5) (a 7) (a 15) (a 23) (a 31) (a 48) (a 53) (a 56) (a 8) (a 9) (a 10) (a 11) (a 12) (a 13) (a 14) (a 24) (a 25) (a 26) (a 27) (a 28) (a 29) (a 30) (X 0) (X 1) (X 5) (X 6) (X 7) (X 8) (X 9) (X 10) (Y 1) (Y 2) (Y 3) (Y 4) (Y 5) (Y 6) (Y 7) (X 17) (X 18) (X 19) (X 20) (X 21) (X 22) (Y 15) (Y 16) (Y 17) (Y 18) (Y 19) (Y 20) (Y 21) (xs (nI i + nI 1).toNatClampNeg) z e1) (cwV 1 hts gL_law_X6_bestHeavy rfl rfl rfl (by decide +kernel) ⟨Nat.le_of_ble_eq_true rfl, Nat.le_of_ble_eq_true rfl⟩) hE hP hD hA hS [0, 3, 5] (by decide) rfl 6 0 rfl rfl rfl rfl wb_f rfl rfl hl.1 (Nat.le_of_ble_eq_true rfl) dL_law_819 ⟨Nat.le_of_ble_eq_true rfl, Nat.le_of_ble_eq_true rfl⟩ (fun H locs hP hD hS => ?_)
  refine lv_aload_n hx hb dL_law_822 rfl (lv_at hl 1 rfl) ?_
  refine lv_aload_n hx hb dL_law_823 rfl (lv_at hl 3 rfl) ?_
  refine lv_iload_n hx hb dL_law_824 rfl (lv_at hl 0 rfl) ?_
  refine lv_iconst (v := nI 1) hx hb dL_law_825 (by decide) ?_
  refine lv_iadd hx hb dL_law_826 ?_
  refine va_sld hx hb hX hbl hbA hS (lw_in hL hi (Nat.le_of_ble_eq_true rfl)) dL_law_827 ?_
  refine lw_cB (As := [.int (xs (nI i + nI 1).toNatClampNeg)]) (cb := [wb12 cI cZ a M N]) (cb' := [wb12 cI cZ a (upd M 10 (w.2.2.2)) (bs_up2 (bs_up2 N 3 (w.2.1)) 8 (w.2.2.1))]) (bl1 := wb cI cZ cS cG a g (upd (upd (upd (upd (upd (upd X 17 (z.2.1)) 18 (z.2.2.1)) 19 (z.2.2.2.1)) 20 (z.2.2.2.2.1)) 21 (z.2.2.2.2.2.1)) 22 (z.2.2.2.2.2.2.1)) (bs_up2 (bs_up2 (bs_up2 (bs_up2 (bs_up2 (bs_up2 (bs_up2 Y 15 (z.2.2.2.2.2.2.2.1)) 16 (z.2.2.2.2.2.2.2.2.1)) 17 (z.2.2.2.2.2.2.2.2.2.1)) 18 (z.2.2.2.2.2.2.2.2.2.2.1)) 19 (z.2.2.2.2.2.2.2.2.2.2.2.1)) 20 (z.2.2.2.2.2.2.2.2.2.2.2.2.1)) 21 (z.2.2.2.2.2.2.2.2.2.2.2.2.2)) G (upd M 10 (w.2.2.2)) (bs_up2 (bs_up2 N 3 (w.2.1)) 8 (w.2.2.1))) ⟨hx, hb, hml, hown, hts⟩ (k_X7_bestHeavy l dC dI cI cZ cS cG (a 58) (a 59) (a 60) (a 61) (a 62) (a 63) (a 64) (a 65) (a 66) (a 67) (a 68) (a 69) (a 70) (N 0) (N 1) (N 2) (M 0) (M 1) (N 3) (N 4) (N 5) (M 2) (M 3) (M 4) (M 5) (M 6) (M 7) (M 8) (N 6) (N 7) (M 9) (N 8) (M 10) (N 9) (N 10) (N 11) (M 11) (xs (nI i + nI 1).toNatClampNeg) w e2) (cwV 1 hts gL_law_X7_bestHeavy rfl rfl rfl (by decide +kernel) ⟨Nat.le_of_ble_eq_true rfl, Nat.le_of_ble_eq_true rfl⟩) hE hP hD hA hS [12] (by decide) rfl 7 0 rfl rfl rfl rfl wb_f rfl rfl hl.1 (Nat.le_of_ble_eq_true rfl) dL_law_828 ⟨Nat.le_of_ble_eq_true rfl, Nat.le_of_ble_eq_true rfl⟩ (fun H locs hP hD hS => ?_)
  refine lv_icmp_eq (tgt := 1169) hx hb dL_law_831 (by decide) (fun _ => ?_) (fun c9 => absurd e3 c9)
  exact kk _ _ _ _ _ H locs hP hD hS hR1
set_option maxHeartbeats 4000000 in
set_option maxRecDepth 100000 in
theorem lc_found (C0 : lw_At p s m meth c b L xs) (hE : bs_E dC dI cI cZ cS cG s) (hP : va_P (dC, dI) vwCl (wb cI cZ cS cG a g X Y G M N).flatten H) (hD : va_D (fun q : Nat => s.heap.size ≤ q) (wb cI cZ cS cG a g X Y G M N).flatten) (hS : va_S (fun q : Nat => s.heap.size ≤ q) s.heap H locs) (hR : RR X Y G M N) (hL : L ≤ 3072) (hi : i + 5 < L) (hl : lv_has ls 4 [(3, .int (nI i)), (2, .ref (a 58)), (1, .ref (a 0)), (0, .ref b)]) (kk : lw_K p l e s m below meth c b dC dI cI cZ cS cG a g ls Q) : W p l e room_1 s m #[Value.ref b] below meth c H locs 600000 7302250 Q (F0 m 836 ls []) := by
  obtain ⟨hx, hb, hr, hml, hown, hts0, hX, hbl, hlocks, hgv⟩ := C0
  have hts : ∀ w ∈ wsL_law, w.before #[Value.ref b] s = true := fun w hw => hts0 w (wsL_law_in w hw)
  have hA : ∀ q : Nat, s.heap.size ≤ q → (fun q : Nat => s.heap.size ≤ q) q := fun _ h => h
  have hbA : ¬ (fun q : Nat => s.heap.size ≤ q) b := Nat.not_le.mpr hbl
  obtain ⟨z, w, e1, e2, e3, hR1⟩ := rs_found hR (xs (nI i + nI 1).toNatClampNeg) (xs (nI i + nI 2).toNatClampNeg) (xs (nI i + nI 3).toNatClampNeg) (xs (nI i + nI 4).toNatClampNeg)
  refine lv_aload_n hx hb dL_law_836 rfl (lv_at hl 2 rfl) ?_
  refine lv_aload_n hx hb dL_law_837 rfl (lv_at hl 3 rfl) ?_
  refine lv_iload_n hx hb dL_law_838 rfl (lv_at hl 0 rfl) ?_
  refine lv_iconst (v := nI 1) hx hb dL_law_839 (by decide) ?_
  refine lv_iadd hx hb dL_law_840 ?_
  refine va_sld hx hb hX hbl hbA hS (lw_in hL hi (Nat.le_of_ble_eq_true rfl)) dL_law_841 ?_
  refine lv_aload_n hx hb dL_law_842 rfl (lv_at hl 3 rfl) ?_
  refine lv_iload_n hx hb dL_law_843 rfl (lv_at hl 0 rfl) ?_
  refine lv_iconst (v := nI 2) hx hb dL_law_844 (by decide) ?_
  refine lv_iadd hx hb dL_law_845 ?_
  refine va_sld hx hb hX hbl hbA hS (lw_in hL hi (Nat.le_of_ble_eq_true rfl)) dL_law_846 ?_
  refine lv_aload_n hx hb dL_law_847 rfl (lv_at hl 3 rfl) ?_
  refine lv_iload_n hx hb dL_law_848 rfl (lv_at hl 0 rfl) ?_
  refine lv_iconst (v := nI 3) hx hb dL_law_849 (by decide) ?_
  refine lv_iadd hx hb dL_law_850 ?_
  refine va_sld hx hb hX hbl hbA hS (lw_in hL hi (Nat.le_of_ble_eq_true rfl)) dL_law_851 ?_
  refine lv_aload_n hx hb dL_law_852 rfl (lv_at hl 3 rfl) ?_
  refine lv_iload_n hx hb dL_law_853 rfl (lv_at hl 0 rfl) ?_
  refine lv_iconst (v := nI 4) hx hb dL_law_854 (by decide) ?_
  refine lv_iadd hx hb dL_law_855 ?_
  refine va_sld hx hb hX hbl hbA hS (lw_in hL hi (Nat.le_of_ble_eq_true rfl)) dL_law_856 ?_
  refine lw_cB (As := [.int (xs (nI i + nI 1).toNatClampNeg), .int (xs (nI i + nI 2).toNatClampNeg), .int (xs (nI i + nI 3).toNatClampNeg), .int (xs (nI i + nI 4).toNatClampNeg)]) (cb := [wb0 cI cS cG a g X Y, wb3 cI cS cG a g X Y, wb10 cI cS cG a g X Y, wb1 cI cS cG a g X Y, wb13 cI g G]) (cb' := [wb0 cI cS cG a g (upd (upd (upd (upd (upd (upd X 1 (z.2.1)) 37 (z.2.2.2.2.1)) 38 (z.2.2.2.2.2.1)) 39 (z.2.2.2.2.2.2.1)) 40 (z.2.2.2.2.2.2.2.1)) 41 (z.2.2.2.2.2.2.2.2)) (bs_up2 (bs_up2 Y 40 (z.2.2.1)) 41 (z.2.2.2.1)), wb3 cI cS cG a g (upd (upd (upd (upd (upd (upd X 1 (z.2.1)) 37 (z.2.2.2.2.1)) 38 (z.2.2.2.2.2.1)) 39 (z.2.2.2.2.2.2.1)) 40 (z.2.2.2.2.2.2.2.1)) 41 (z.2.2.2.2.2.2.2.2)) (bs_up2 (bs_up2 Y 40 (z.2.2.1)) 41 (z.2.2.2.1)), wb10 cI cS cG a g (upd (upd (upd (upd (upd (upd X 1 (z.2.1)) 37 (z.2.2.2.2.1)) 38 (z.2.2.2.2.2.1)) 39 (z.2.2.2.2.2.2.1)) 40 (z.2.2.2.2.2.2.2.1)) 41 (z.2.2.2.2.2.2.2.2)) (bs_up2 (bs_up2 Y 40 (z.2.2.1)) 41 (z.2.2.2.1)), wb1 cI cS cG a g (upd (upd (upd (upd (upd (upd X 1 (z.2.1)) 37 (z.2.2.2.2.1)) 38 (z.2.2.2.2.2.1)) 39 (z.2.2.2.2.2.2.1)) 40 (z.2.2.2.2.2.2.2.1)) 41 (z.2.2.2.2.2.2.2.2)) (bs_up2 (bs_up2 Y 40 (z.2.2.1)) 41 (z.2.2.2.1)), wb13 cI g G]) (bl1 := wb cI cZ cS cG a g (upd (upd (upd (upd (upd (upd X 1 (z.2.1)) 37 (z.2.2.2.2.1)) 38 (z.2.2.2.2.2.1)) 39 (z.2.2.2.2.2.2.1)) 40 (z.2.2.2.2.2.2.2.1)) 41 (z.2.2.2.2.2.2.2.2)) (bs_up2 (bs_up2 Y 40 (z.2.2.1)) 41 (z.2.2.2.1)) G M N) ⟨hx, hb, hml, hown, hts⟩ (k_X6_found l dC dI cI cZ cS cG (a 0) (a 1) (a 5) (a 7) (a 15) (a 23) (a 31) (a 48) (a 53) (a 56) (a 8) (a 9) (a 10) (a 11) (a 12) (a 13) (a 14) (a 54) (a 55) (a 2) g (a 3) (a 4) (X 0) (X 1) (X 5) (X 6) (X 7) (X 8) (X 9) (X 10) (Y 1) (Y 2) (Y 3) (Y 4) (Y 5) (Y 6) (Y 7) (Y 40) (Y 41) (X 37) (X 38) (X 39) (X 40) (X 41) G (Y 43) (Y 44) (xs (nI i + nI 1).toNatClampNeg) (xs (nI i + nI 2).toNatClampNeg) (xs (nI i + nI 3).toNatClampNeg) (xs (nI i + nI 4).toNatClampNeg) z e1) (cwV 4 hts gL_law_X6_found rfl rfl rfl (by decide +kernel) ⟨Nat.le_of_ble_eq_true rfl, Nat.le_of_ble_eq_true rfl⟩) hE hP hD hA hS [0, 3, 10, 1, 13] (by decide) rfl 6 0 rfl rfl rfl rfl wb_f rfl rfl hl.1 (Nat.le_of_ble_eq_true rfl) dL_law_857 ⟨Nat.le_of_ble_eq_true rfl, Nat.le_of_ble_eq_true rfl⟩ (fun H locs hP hD hS => ?_)
  refine lv_aload_n hx hb dL_law_860 rfl (lv_at hl 1 rfl) ?_
  refine lv_aload_n hx hb dL_law_861 rfl (lv_at hl 3 rfl) ?_
  refine lv_iload_n hx hb dL_law_862 rfl (lv_at hl 0 rfl) ?_
  refine lv_iconst (v := nI 1) hx hb dL_law_863 (by decide) ?_
  refine lv_iadd hx hb dL_law_864 ?_
  refine va_sld hx hb hX hbl hbA hS (lw_in hL hi (Nat.le_of_ble_eq_true rfl)) dL_law_865 ?_
  refine lv_aload_n hx hb dL_law_866 rfl (lv_at hl 3 rfl) ?_
  refine lv_iload_n hx hb dL_law_867 rfl (lv_at hl 0 rfl) ?_
  refine lv_iconst (v := nI 2) hx hb dL_law_868 (by decide) ?_
  refine lv_iadd hx hb dL_law_869 ?_
  refine va_sld hx hb hX hbl hbA hS (lw_in hL hi (Nat.le_of_ble_eq_true rfl)) dL_law_870 ?_
  refine lv_aload_n hx hb dL_law_871 rfl (lv_at hl 3 rfl) ?_
  refine lv_iload_n hx hb dL_law_872 rfl (lv_at hl 0 rfl) ?_
  refine lv_iconst (v := nI 3) hx hb dL_law_873 (by decide) ?_
  refine lv_iadd hx hb dL_law_874 ?_
  refine va_sld hx hb hX hbl hbA hS (lw_in hL hi (Nat.le_of_ble_eq_true rfl)) dL_law_875 ?_
  refine lv_aload_n hx hb dL_law_876 rfl (lv_at hl 3 rfl) ?_
  refine lv_iload_n hx hb dL_law_877 rfl (lv_at hl 0 rfl) ?_
  refine lv_iconst (v := nI 4) hx hb dL_law_878 (by decide) ?_
  refine lv_iadd hx hb dL_law_879 ?_
  refine va_sld hx hb hX hbl hbA hS (lw_in hL hi (Nat.le_of_ble_eq_true rfl)) dL_law_880 ?_
  refine lw_cB (As := [.int (xs (nI i + nI 1).toNatClampNeg), .int (xs (nI i + nI 2).toNatClampNeg), .int (xs (nI i + nI 3).toNatClampNeg), .int (xs (nI i + nI 4).toNatClampNeg)]) (cb := [wb12 cI cZ a M N]) (cb' := [wb12 cI cZ a (upd M 0 (w.2)) N]) (bl1 := wb cI cZ cS cG a g (upd (upd (upd (upd (upd (upd X 1 (z.2.1)) 37 (z.2.2.2.2.1)) 38 (z.2.2.2.2.2.1)) 39 (z.2.2.2.2.2.2.1)) 40 (z.2.2.2.2.2.2.2.1)) 41 (z.2.2.2.2.2.2.2.2)) (bs_up2 (bs_up2 Y 40 (z.2.2.1)) 41 (z.2.2.2.1)) G (upd M 0 (w.2)) N) ⟨hx, hb, hml, hown, hts⟩ (k_X7_found l dC dI cI cZ cS cG (a 58) (a 59) (a 60) (a 61) (a 62) (a 63) (a 64) (a 65) (a 66) (a 67) (a 68) (a 69) (a 70) (N 0) (N 1) (N 2) (M 0) (M 1) (N 3) (N 4) (N 5) (M 2) (M 3) (M 4) (M 5) (M 6) (M 7) (M 8) (N 6) (N 7) (M 9) (N 8) (M 10) (N 9) (N 10) (N 11) (M 11) (xs (nI i + nI 1).toNatClampNeg) (xs (nI i + nI 2).toNatClampNeg) (xs (nI i + nI 3).toNatClampNeg) (xs (nI i + nI 4).toNatClampNeg) w e2) (cwV 4 hts gL_law_X7_found rfl rfl rfl (by decide +kernel) ⟨Nat.le_of_ble_eq_true rfl, Nat.le_of_ble_eq_true rfl⟩) hE hP hD hA hS [12] (by decide) rfl 7 0 rfl rfl rfl rfl wb_f rfl rfl hl.1 (Nat.le_of_ble_eq_true rfl) dL_law_881 ⟨Nat.le_of_ble_eq_true rfl, Nat.le_of_ble_eq_true rfl⟩ (fun H locs hP hD hS => ?_)
  refine lv_icmp_eq (tgt := 1169) hx hb dL_law_884 (by decide) (fun _ => ?_) (fun c9 => absurd e3 c9)
  exact kk _ _ _ _ _ H locs hP hD hS hR1
set_option maxHeartbeats 4000000 in
set_option maxRecDepth 100000 in
theorem lc_keepsFound (C0 : lw_At p s m meth c b L xs) (hE : bs_E dC dI cI cZ cS cG s) (hP : va_P (dC, dI) vwCl (wb cI cZ cS cG a g X Y G M N).flatten H) (hD : va_D (fun q : Nat => s.heap.size ≤ q) (wb cI cZ cS cG a g X Y G M N).flatten) (hS : va_S (fun q : Nat => s.heap.size ≤ q) s.heap H locs) (hR : RR X Y G M N) (hL : L ≤ 3072) (hi : i + 5 < L) (hl : lv_has ls 4 [(3, .int (nI i)), (2, .ref (a 58)), (1, .ref (a 0)), (0, .ref b)]) (kk : lw_K p l e s m below meth c b dC dI cI cZ cS cG a g ls Q) : W p l e room_1 s m #[Value.ref b] below meth c H locs 600000 7302250 Q (F0 m 889 ls []) := by
  obtain ⟨hx, hb, hr, hml, hown, hts0, hX, hbl, hlocks, hgv⟩ := C0
  have hts : ∀ w ∈ wsL_law, w.before #[Value.ref b] s = true := fun w hw => hts0 w (wsL_law_in w hw)
  have hA : ∀ q : Nat, s.heap.size ≤ q → (fun q : Nat => s.heap.size ≤ q) q := fun _ h => h
  have hbA : ¬ (fun q : Nat => s.heap.size ≤ q) b := Nat.not_le.mpr hbl
  obtain ⟨z, w, e1, e2, e3, hR1⟩ := rs_keepsFound hR (xs (nI i + nI 1).toNatClampNeg) (xs (nI i + nI 2).toNatClampNeg) (xs (nI i + nI 3).toNatClampNeg)
  refine lv_aload_n hx hb dL_law_889 rfl (lv_at hl 2 rfl) ?_
  refine lv_aload_n hx hb dL_law_890 rfl (lv_at hl 3 rfl) ?_
  refine lv_iload_n hx hb dL_law_891 rfl (lv_at hl 0 rfl) ?_
  refine lv_iconst (v := nI 1) hx hb dL_law_892 (by decide) ?_
  refine lv_iadd hx hb dL_law_893 ?_
  refine va_sld hx hb hX hbl hbA hS (lw_in hL hi (Nat.le_of_ble_eq_true rfl)) dL_law_894 ?_
  refine lv_aload_n hx hb dL_law_895 rfl (lv_at hl 3 rfl) ?_
  refine lv_iload_n hx hb dL_law_896 rfl (lv_at hl 0 rfl) ?_
  refine lv_iconst (v := nI 2) hx hb dL_law_897 (by decide) ?_
  refine lv_iadd hx hb dL_law_898 ?_
  refine va_sld hx hb hX hbl hbA hS (lw_in hL hi (Nat.le_of_ble_eq_true rfl)) dL_law_899 ?_
  refine lv_aload_n hx hb dL_law_900 rfl (lv_at hl 3 rfl) ?_
  refine lv_iload_n hx hb dL_law_901 rfl (lv_at hl 0 rfl) ?_
  refine lv_iconst (v := nI 3) hx hb dL_law_902 (by decide) ?_
  refine lv_iadd hx hb dL_law_903 ?_
  refine va_sld hx hb hX hbl hbA hS (lw_in hL hi (Nat.le_of_ble_eq_true rfl)) dL_law_904 ?_
  refine lw_cB (As := [.int (xs (nI i + nI 1).toNatClampNeg), .int (xs (nI i + nI 2).toNatClampNeg), .int (xs (nI i + nI 3).toNatClampNeg)]) (cb := [wb0 cI cS cG a g X Y, wb3 cI cS cG a g X Y, wb1 cI cS cG a g X Y, wb13 cI g G]) (cb' := [wb0 cI cS cG a g (upd X 1 (z.2)) Y, wb3 cI cS cG a g (upd X 1 (z.2)) Y, wb1 cI cS cG a g (upd X 1 (z.2)) Y, wb13 cI g G]) (bl1 := wb cI cZ cS cG a g (upd X 1 (z.2)) Y G M N) ⟨hx, hb, hml, hown, hts⟩ (k_X6_keepsFound l dC dI cI cZ cS cG (a 0) (a 1) (a 5) (a 7) (a 15) (a 23) (a 31) (a 48) (a 53) (a 56) (a 8) (a 9) (a 10) (a 11) (a 12) (a 13) (a 14) (a 2) g (a 3) (a 4) (X 0) (X 1) (X 5) (X 6) (X 7) (X 8) (X 9) (X 10) (Y 1) (Y 2) (Y 3) (Y 4) (Y 5) (Y 6) (Y 7) G (Y 43) (Y 44) (xs (nI i + nI 1).toNatClampNeg) (xs (nI i + nI 2).toNatClampNeg) (xs (nI i + nI 3).toNatClampNeg) z e1) (cwV 3 hts gL_law_X6_keepsFound rfl rfl rfl (by decide +kernel) ⟨Nat.le_of_ble_eq_true rfl, Nat.le_of_ble_eq_true rfl⟩) hE hP hD hA hS [0, 3, 1, 13] (by decide) rfl 6 0 rfl rfl rfl rfl wb_f rfl rfl hl.1 (Nat.le_of_ble_eq_true rfl) dL_law_905 ⟨Nat.le_of_ble_eq_true rfl, Nat.le_of_ble_eq_true rfl⟩ (fun H locs hP hD hS => ?_)
  refine lv_aload_n hx hb dL_law_908 rfl (lv_at hl 1 rfl) ?_
  refine lv_aload_n hx hb dL_law_909 rfl (lv_at hl 3 rfl) ?_
  refine lv_iload_n hx hb dL_law_910 rfl (lv_at hl 0 rfl) ?_
  refine lv_iconst (v := nI 1) hx hb dL_law_911 (by decide) ?_
  refine lv_iadd hx hb dL_law_912 ?_
  refine va_sld hx hb hX hbl hbA hS (lw_in hL hi (Nat.le_of_ble_eq_true rfl)) dL_law_913 ?_
  refine lv_aload_n hx hb dL_law_914 rfl (lv_at hl 3 rfl) ?_
  refine lv_iload_n hx hb dL_law_915 rfl (lv_at hl 0 rfl) ?_
  refine lv_iconst (v := nI 2) hx hb dL_law_916 (by decide) ?_
  refine lv_iadd hx hb dL_law_917 ?_
  refine va_sld hx hb hX hbl hbA hS (lw_in hL hi (Nat.le_of_ble_eq_true rfl)) dL_law_918 ?_
  refine lv_aload_n hx hb dL_law_919 rfl (lv_at hl 3 rfl) ?_
  refine lv_iload_n hx hb dL_law_920 rfl (lv_at hl 0 rfl) ?_
  refine lv_iconst (v := nI 3) hx hb dL_law_921 (by decide) ?_
  refine lv_iadd hx hb dL_law_922 ?_
  refine va_sld hx hb hX hbl hbA hS (lw_in hL hi (Nat.le_of_ble_eq_true rfl)) dL_law_923 ?_
  refine lw_cB (As := [.int (xs (nI i + nI 1).toNatClampNeg), .int (xs (nI i + nI 2).toNatClampNeg), .int (xs (nI i + nI 3).toNatClampNeg)]) (cb := [wb12 cI cZ a M N]) (cb' := [wb12 cI cZ a (upd M 0 (w.2)) N]) (bl1 := wb cI cZ cS cG a g (upd X 1 (z.2)) Y G (upd M 0 (w.2)) N) ⟨hx, hb, hml, hown, hts⟩ (k_X7_keepsFound l dC dI cI cZ cS cG (a 58) (a 59) (a 60) (a 61) (a 62) (a 63) (a 64) (a 65) (a 66) (a 67) (a 68) (a 69) (a 70) (N 0) (N 1) (N 2) (M 0) (M 1) (N 3) (N 4) (N 5) (M 2) (M 3) (M 4) (M 5) (M 6) (M 7) (M 8) (N 6) (N 7) (M 9) (N 8) (M 10) (N 9) (N 10) (N 11) (M 11) (xs (nI i + nI 1).toNatClampNeg) (xs (nI i + nI 2).toNatClampNeg) (xs (nI i + nI 3).toNatClampNeg) w e2) (cwV 3 hts gL_law_X7_keepsFound rfl rfl rfl (by decide +kernel) ⟨Nat.le_of_ble_eq_true rfl, Nat.le_of_ble_eq_true rfl⟩) hE hP hD hA hS [12] (by decide) rfl 7 0 rfl rfl rfl rfl wb_f rfl rfl hl.1 (Nat.le_of_ble_eq_true rfl) dL_law_924 ⟨Nat.le_of_ble_eq_true rfl, Nat.le_of_ble_eq_true rfl⟩ (fun H locs hP hD hS => ?_)
  refine lv_icmp_eq (tgt := 1169) hx hb dL_law_927 (by decide) (fun _ => ?_) (fun c9 => absurd e3 c9)
  exact kk _ _ _ _ _ H locs hP hD hS hR1
set_option maxHeartbeats 4000000 in
set_option maxRecDepth 100000 in
theorem lc_free (C0 : lw_At p s m meth c b L xs) (hE : bs_E dC dI cI cZ cS cG s) (hP : va_P (dC, dI) vwCl (wb cI cZ cS cG a g X Y G M N).flatten H) (hD : va_D (fun q : Nat => s.heap.size ≤ q) (wb cI cZ cS cG a g X Y G M N).flatten) (hS : va_S (fun q : Nat => s.heap.size ≤ q) s.heap H locs) (hR : RR X Y G M N) (hL : L ≤ 3072) (hi : i + 5 < L) (hl : lv_has ls 4 [(3, .int (nI i)), (2, .ref (a 58)), (1, .ref (a 0)), (0, .ref b)]) (kk : lw_K p l e s m below meth c b dC dI cI cZ cS cG a g ls Q) : W p l e room_1 s m #[Value.ref b] below meth c H locs 600000 7302250 Q (F0 m 932 ls []) := by
  obtain ⟨hx, hb, hr, hml, hown, hts0, hX, hbl, hlocks, hgv⟩ := C0
  have hts : ∀ w ∈ wsL_law, w.before #[Value.ref b] s = true := fun w hw => hts0 w (wsL_law_in w hw)
  have hA : ∀ q : Nat, s.heap.size ≤ q → (fun q : Nat => s.heap.size ≤ q) q := fun _ h => h
  have hbA : ¬ (fun q : Nat => s.heap.size ≤ q) b := Nat.not_le.mpr hbl
  obtain ⟨z, w, e1, e2, e3, hR1⟩ := rs_free hR (xs (nI i + nI 1).toNatClampNeg) (xs (nI i + nI 2).toNatClampNeg) (xs (nI i + nI 3).toNatClampNeg)
  refine lv_aload_n hx hb dL_law_932 rfl (lv_at hl 2 rfl) ?_
  refine lv_aload_n hx hb dL_law_933 rfl (lv_at hl 3 rfl) ?_
  refine lv_iload_n hx hb dL_law_934 rfl (lv_at hl 0 rfl) ?_
  refine lv_iconst (v := nI 1) hx hb dL_law_935 (by decide) ?_
  refine lv_iadd hx hb dL_law_936 ?_
  refine va_sld hx hb hX hbl hbA hS (lw_in hL hi (Nat.le_of_ble_eq_true rfl)) dL_law_937 ?_
  refine lv_aload_n hx hb dL_law_938 rfl (lv_at hl 3 rfl) ?_
  refine lv_iload_n hx hb dL_law_939 rfl (lv_at hl 0 rfl) ?_
  refine lv_iconst (v := nI 2) hx hb dL_law_940 (by decide) ?_
  refine lv_iadd hx hb dL_law_941 ?_
  refine va_sld hx hb hX hbl hbA hS (lw_in hL hi (Nat.le_of_ble_eq_true rfl)) dL_law_942 ?_
  refine lv_aload_n hx hb dL_law_943 rfl (lv_at hl 3 rfl) ?_
  refine lv_iload_n hx hb dL_law_944 rfl (lv_at hl 0 rfl) ?_
  refine lv_iconst (v := nI 3) hx hb dL_law_945 (by decide) ?_
  refine lv_iadd hx hb dL_law_946 ?_
  refine va_sld hx hb hX hbl hbA hS (lw_in hL hi (Nat.le_of_ble_eq_true rfl)) dL_law_947 ?_
  refine lw_cBR (As := [.int (xs (nI i + nI 1).toNatClampNeg), .int (xs (nI i + nI 2).toNatClampNeg), .int (xs (nI i + nI 3).toNatClampNeg)]) (cb := [wb0 cI cS cG a g X Y]) ⟨hx, hb, hml, hown, hts⟩ (k_X6_free l dC dI cI cZ cS cG (a 0) (a 1) (a 5) (a 7) (a 15) (a 23) (a 31) (a 48) (a 53) (a 56) (X 0) (X 1) (xs (nI i + nI 1).toNatClampNeg) (xs (nI i + nI 2).toNatClampNeg) (xs (nI i + nI 3).toNatClampNeg) z e1) (cwV 3 hts gL_law_X6_free rfl rfl rfl (by decide +kernel) ⟨Nat.le_of_ble_eq_true rfl, Nat.le_of_ble_eq_true rfl⟩) hE hP hD hA hS [0] (by decide) rfl 6 0 rfl rfl rfl rfl hl.1 (Nat.le_of_ble_eq_true rfl) dL_law_948 ⟨Nat.le_of_ble_eq_true rfl, Nat.le_of_ble_eq_true rfl⟩ (fun H locs hP hD hS => ?_)
  refine lv_aload_n hx hb dL_law_951 rfl (lv_at hl 1 rfl) ?_
  refine lv_aload_n hx hb dL_law_952 rfl (lv_at hl 3 rfl) ?_
  refine lv_iload_n hx hb dL_law_953 rfl (lv_at hl 0 rfl) ?_
  refine lv_iconst (v := nI 1) hx hb dL_law_954 (by decide) ?_
  refine lv_iadd hx hb dL_law_955 ?_
  refine va_sld hx hb hX hbl hbA hS (lw_in hL hi (Nat.le_of_ble_eq_true rfl)) dL_law_956 ?_
  refine lv_aload_n hx hb dL_law_957 rfl (lv_at hl 3 rfl) ?_
  refine lv_iload_n hx hb dL_law_958 rfl (lv_at hl 0 rfl) ?_
  refine lv_iconst (v := nI 2) hx hb dL_law_959 (by decide) ?_
  refine lv_iadd hx hb dL_law_960 ?_
  refine va_sld hx hb hX hbl hbA hS (lw_in hL hi (Nat.le_of_ble_eq_true rfl)) dL_law_961 ?_
  refine lv_aload_n hx hb dL_law_962 rfl (lv_at hl 3 rfl) ?_
  refine lv_iload_n hx hb dL_law_963 rfl (lv_at hl 0 rfl) ?_
  refine lv_iconst (v := nI 3) hx hb dL_law_964 (by decide) ?_
  refine lv_iadd hx hb dL_law_965 ?_
  refine va_sld hx hb hX hbl hbA hS (lw_in hL hi (Nat.le_of_ble_eq_true rfl)) dL_law_966 ?_
  refine lw_cBR (As := [.int (xs (nI i + nI 1).toNatClampNeg), .int (xs (nI i + nI 2).toNatClampNeg), .int (xs (nI i + nI 3).toNatClampNeg)]) (cb := [wb12 cI cZ a M N]) ⟨hx, hb, hml, hown, hts⟩ (k_X7_free l dC dI cI cZ cS cG (a 58) (a 59) (a 60) (a 61) (a 62) (a 63) (a 64) (a 65) (a 66) (a 67) (a 68) (a 69) (a 70) (N 0) (N 1) (N 2) (M 0) (M 1) (N 3) (N 4) (N 5) (M 2) (M 3) (M 4) (M 5) (M 6) (M 7) (M 8) (N 6) (N 7) (M 9) (N 8) (M 10) (N 9) (N 10) (N 11) (M 11) (xs (nI i + nI 1).toNatClampNeg) (xs (nI i + nI 2).toNatClampNeg) (xs (nI i + nI 3).toNatClampNeg) w e2) (cwV 3 hts gL_law_X7_free rfl rfl rfl (by decide +kernel) ⟨Nat.le_of_ble_eq_true rfl, Nat.le_of_ble_eq_true rfl⟩) hE hP hD hA hS [12] (by decide) rfl 7 0 rfl rfl rfl rfl hl.1 (Nat.le_of_ble_eq_true rfl) dL_law_967 ⟨Nat.le_of_ble_eq_true rfl, Nat.le_of_ble_eq_true rfl⟩ (fun H locs hP hD hS => ?_)
  refine lv_icmp_eq (tgt := 1169) hx hb dL_law_970 (by decide) (fun _ => ?_) (fun c9 => absurd e3 c9)
  exact kk _ _ _ _ _ H locs hP hD hS hR1
set_option maxHeartbeats 4000000 in
set_option maxRecDepth 100000 in
theorem lc_image (C0 : lw_At p s m meth c b L xs) (hE : bs_E dC dI cI cZ cS cG s) (hP : va_P (dC, dI) vwCl (wb cI cZ cS cG a g X Y G M N).flatten H) (hD : va_D (fun q : Nat => s.heap.size ≤ q) (wb cI cZ cS cG a g X Y G M N).flatten) (hS : va_S (fun q : Nat => s.heap.size ≤ q) s.heap H locs) (hR : RR X Y G M N) (hL : L ≤ 3072) (hi : i + 5 < L) (hl : lv_has ls 4 [(3, .int (nI i)), (2, .ref (a 58)), (1, .ref (a 0)), (0, .ref b)]) (kk : lw_K p l e s m below meth c b dC dI cI cZ cS cG a g ls Q) : W p l e room_1 s m #[Value.ref b] below meth c H locs 600000 7302250 Q (F0 m 975 ls []) := by
  obtain ⟨hx, hb, hr, hml, hown, hts0, hX, hbl, hlocks, hgv⟩ := C0
  have hts : ∀ w ∈ wsL_law, w.before #[Value.ref b] s = true := fun w hw => hts0 w (wsL_law_in w hw)
  have hA : ∀ q : Nat, s.heap.size ≤ q → (fun q : Nat => s.heap.size ≤ q) q := fun _ h => h
  have hbA : ¬ (fun q : Nat => s.heap.size ≤ q) b := Nat.not_le.mpr hbl
  obtain ⟨z, w, e1, e2, e3, hR1⟩ := rs_image hR (xs (nI i + nI 1).toNatClampNeg)
  refine lv_aload_n hx hb dL_law_975 rfl (lv_at hl 2 rfl) ?_
  refine lv_aload_n hx hb dL_law_976 rfl (lv_at hl 3 rfl) ?_
  refine lv_iload_n hx hb dL_law_977 rfl (lv_at hl 0 rfl) ?_
  refine lv_iconst (v := nI 1) hx hb dL_law_978 (by decide) ?_
  refine lv_iadd hx hb dL_law_979 ?_
  refine va_sld hx hb hX hbl hbA hS (lw_in hL hi (Nat.le_of_ble_eq_true rfl)) dL_law_980 ?_
  refine lw_cB (As := [.int (xs (nI i + nI 1).toNatClampNeg)]) (cb := [wb0 cI cS cG a g X Y, wb6 cI cS cG a g X Y, wb3 cI cS cG a g X Y, wb7 cI cS cG a g X Y, wb8 cI cS cG a g X Y]) (cb' := [wb0 cI cS cG a g (upd (upd (upd (upd (upd (upd (upd (upd (upd (upd (upd (upd X 23 (z.2.1)) 24 (z.2.2.1)) 25 (z.2.2.2.1)) 26 (z.2.2.2.2.1)) 27 (z.2.2.2.2.2.1)) 28 (z.2.2.2.2.2.2.1)) 29 (z.2.2.2.2.2.2.2.2.2.2.2.2.2.2.1)) 30 (z.2.2.2.2.2.2.2.2.2.2.2.2.2.2.2.1)) 31 (z.2.2.2.2.2.2.2.2.2.2.2.2.2.2.2.2.1)) 32 (z.2.2.2.2.2.2.2.2.2.2.2.2.2.2.2.2.2.1)) 33 (z.2.2.2.2.2.2.2.2.2.2.2.2.2.2.2.2.2.2.1)) 34 (z.2.2.2.2.2.2.2.2.2.2.2.2.2.2.2.2.2.2.2.1)) (bs_up2 (bs_up2 (bs_up2 (bs_up2 (bs_up2 (bs_up2 (bs_up2 (bs_up2 (bs_up2 (bs_up2 (bs_up2 (bs_up2 (bs_up2 (bs_up2 Y 22 (z.2.2.2.2.2.2.2.1)) 23 (z.2.2.2.2.2.2.2.2.1)) 24 (z.2.2.2.2.2.2.2.2.2.1)) 25 (z.2.2.2.2.2.2.2.2.2.2.1)) 26 (z.2.2.2.2.2.2.2.2.2.2.2.1)) 27 (z.2.2.2.2.2.2.2.2.2.2.2.2.1)) 28 (z.2.2.2.2.2.2.2.2.2.2.2.2.2.1)) 29 (z.2.2.2.2.2.2.2.2.2.2.2.2.2.2.2.2.2.2.2.2.1)) 30 (z.2.2.2.2.2.2.2.2.2.2.2.2.2.2.2.2.2.2.2.2.2.1)) 31 (z.2.2.2.2.2.2.2.2.2.2.2.2.2.2.2.2.2.2.2.2.2.2.1)) 32 (z.2.2.2.2.2.2.2.2.2.2.2.2.2.2.2.2.2.2.2.2.2.2.2.1)) 33 (z.2.2.2.2.2.2.2.2.2.2.2.2.2.2.2.2.2.2.2.2.2.2.2.2.1)) 34 (z.2.2.2.2.2.2.2.2.2.2.2.2.2.2.2.2.2.2.2.2.2.2.2.2.2.1)) 35 (z.2.2.2.2.2.2.2.2.2.2.2.2.2.2.2.2.2.2.2.2.2.2.2.2.2.2)), wb6 cI cS cG a g (upd (upd (upd (upd (upd (upd (upd (upd (upd (upd (upd (upd X 23 (z.2.1)) 24 (z.2.2.1)) 25 (z.2.2.2.1)) 26 (z.2.2.2.2.1)) 27 (z.2.2.2.2.2.1)) 28 (z.2.2.2.2.2.2.1)) 29 (z.2.2.2.2.2.2.2.2.2.2.2.2.2.2.1)) 30 (z.2.2.2.2.2.2.2.2.2.2.2.2.2.2.2.1)) 31 (z.2.2.2.2.2.2.2.2.2.2.2.2.2.2.2.2.1)) 32 (z.2.2.2.2.2.2.2.2.2.2.2.2.2.2.2.2.2.1)) 33 (z.2.2.2.2.2.2.2.2.2.2.2.2.2.2.2.2.2.2.1)) 34 (z.2.2.2.2.2.2.2.2.2.2.2.2.2.2.2.2.2.2.2.1)) (bs_up2 (bs_up2 (bs_up2 (bs_up2 (bs_up2 (bs_up2 (bs_up2 (bs_up2 (bs_up2 (bs_up2 (bs_up2 (bs_up2 (bs_up2 (bs_up2 Y 22 (z.2.2.2.2.2.2.2.1)) 23 (z.2.2.2.2.2.2.2.2.1)) 24 (z.2.2.2.2.2.2.2.2.2.1)) 25 (z.2.2.2.2.2.2.2.2.2.2.1)) 26 (z.2.2.2.2.2.2.2.2.2.2.2.1)) 27 (z.2.2.2.2.2.2.2.2.2.2.2.2.1)) 28 (z.2.2.2.2.2.2.2.2.2.2.2.2.2.1)) 29 (z.2.2.2.2.2.2.2.2.2.2.2.2.2.2.2.2.2.2.2.2.1)) 30 (z.2.2.2.2.2.2.2.2.2.2.2.2.2.2.2.2.2.2.2.2.2.1)) 31 (z.2.2.2.2.2.2.2.2.2.2.2.2.2.2.2.2.2.2.2.2.2.2.1)) 32 (z.2.2.2.2.2.2.2.2.2.2.2.2.2.2.2.2.2.2.2.2.2.2.2.1)) 33 (z.2.2.2.2.2.2.2.2.2.2.2.2.2.2.2.2.2.2.2.2.2.2.2.2.1)) 34 (z.2.2.2.2.2.2.2.2.2.2.2.2.2.2.2.2.2.2.2.2.2.2.2.2.2.1)) 35 (z.2.2.2.2.2.2.2.2.2.2.2.2.2.2.2.2.2.2.2.2.2.2.2.2.2.2)), wb3 cI cS cG a g (upd (upd (upd (upd (upd (upd (upd (upd (upd (upd (upd (upd X 23 (z.2.1)) 24 (z.2.2.1)) 25 (z.2.2.2.1)) 26 (z.2.2.2.2.1)) 27 (z.2.2.2.2.2.1)) 28 (z.2.2.2.2.2.2.1)) 29 (z.2.2.2.2.2.2.2.2.2.2.2.2.2.2.1)) 30 (z.2.2.2.2.2.2.2.2.2.2.2.2.2.2.2.1)) 31 (z.2.2.2.2.2.2.2.2.2.2.2.2.2.2.2.2.1)) 32 (z.2.2.2.2.2.2.2.2.2.2.2.2.2.2.2.2.2.1)) 33 (z.2.2.2.2.2.2.2.2.2.2.2.2.2.2.2.2.2.2.1)) 34 (z.2.2.2.2.2.2.2.2.2.2.2.2.2.2.2.2.2.2.2.1)) (bs_up2 (bs_up2 (bs_up2 (bs_up2 (bs_up2 (bs_up2 (bs_up2 (bs_up2 (bs_up2 (bs_up2 (bs_up2 (bs_up2 (bs_up2 (bs_up2 Y 22 (z.2.2.2.2.2.2.2.1)) 23 (z.2.2.2.2.2.2.2.2.1)) 24 (z.2.2.2.2.2.2.2.2.2.1)) 25 (z.2.2.2.2.2.2.2.2.2.2.1)) 26 (z.2.2.2.2.2.2.2.2.2.2.2.1)) 27 (z.2.2.2.2.2.2.2.2.2.2.2.2.1)) 28 (z.2.2.2.2.2.2.2.2.2.2.2.2.2.1)) 29 (z.2.2.2.2.2.2.2.2.2.2.2.2.2.2.2.2.2.2.2.2.1)) 30 (z.2.2.2.2.2.2.2.2.2.2.2.2.2.2.2.2.2.2.2.2.2.1)) 31 (z.2.2.2.2.2.2.2.2.2.2.2.2.2.2.2.2.2.2.2.2.2.2.1)) 32 (z.2.2.2.2.2.2.2.2.2.2.2.2.2.2.2.2.2.2.2.2.2.2.2.1)) 33 (z.2.2.2.2.2.2.2.2.2.2.2.2.2.2.2.2.2.2.2.2.2.2.2.2.1)) 34 (z.2.2.2.2.2.2.2.2.2.2.2.2.2.2.2.2.2.2.2.2.2.2.2.2.2.1)) 35 (z.2.2.2.2.2.2.2.2.2.2.2.2.2.2.2.2.2.2.2.2.2.2.2.2.2.2)), wb7 cI cS cG a g (upd (upd (upd (upd (upd (upd (upd (upd (upd (upd (upd (upd X 23 (z.2.1)) 24 (z.2.2.1)) 25 (z.2.2.2.1)) 26 (z.2.2.2.2.1)) 27 (z.2.2.2.2.2.1)) 28 (z.2.2.2.2.2.2.1)) 29 (z.2.2.2.2.2.2.2.2.2.2.2.2.2.2.1)) 30 (z.2.2.2.2.2.2.2.2.2.2.2.2.2.2.2.1)) 31 (z.2.2.2.2.2.2.2.2.2.2.2.2.2.2.2.2.1)) 32 (z.2.2.2.2.2.2.2.2.2.2.2.2.2.2.2.2.2.1)) 33 (z.2.2.2.2.2.2.2.2.2.2.2.2.2.2.2.2.2.2.1)) 34 (z.2.2.2.2.2.2.2.2.2.2.2.2.2.2.2.2.2.2.2.1)) (bs_up2 (bs_up2 (bs_up2 (bs_up2 (bs_up2 (bs_up2 (bs_up2 (bs_up2 (bs_up2 (bs_up2 (bs_up2 (bs_up2 (bs_up2 (bs_up2 Y 22 (z.2.2.2.2.2.2.2.1)) 23 (z.2.2.2.2.2.2.2.2.1)) 24 (z.2.2.2.2.2.2.2.2.2.1)) 25 (z.2.2.2.2.2.2.2.2.2.2.1)) 26 (z.2.2.2.2.2.2.2.2.2.2.2.1)) 27 (z.2.2.2.2.2.2.2.2.2.2.2.2.1)) 28 (z.2.2.2.2.2.2.2.2.2.2.2.2.2.1)) 29 (z.2.2.2.2.2.2.2.2.2.2.2.2.2.2.2.2.2.2.2.2.1)) 30 (z.2.2.2.2.2.2.2.2.2.2.2.2.2.2.2.2.2.2.2.2.2.1)) 31 (z.2.2.2.2.2.2.2.2.2.2.2.2.2.2.2.2.2.2.2.2.2.2.1)) 32 (z.2.2.2.2.2.2.2.2.2.2.2.2.2.2.2.2.2.2.2.2.2.2.2.1)) 33 (z.2.2.2.2.2.2.2.2.2.2.2.2.2.2.2.2.2.2.2.2.2.2.2.2.1)) 34 (z.2.2.2.2.2.2.2.2.2.2.2.2.2.2.2.2.2.2.2.2.2.2.2.2.2.1)) 35 (z.2.2.2.2.2.2.2.2.2.2.2.2.2.2.2.2.2.2.2.2.2.2.2.2.2.2)), wb8 cI cS cG a g (upd (upd (upd (upd (upd (upd (upd (upd (upd (upd (upd (upd X 23 (z.2.1)) 24 (z.2.2.1)) 25 (z.2.2.2.1)) 26 (z.2.2.2.2.1)) 27 (z.2.2.2.2.2.1)) 28 (z.2.2.2.2.2.2.1)) 29 (z.2.2.2.2.2.2.2.2.2.2.2.2.2.2.1)) 30 (z.2.2.2.2.2.2.2.2.2.2.2.2.2.2.2.1)) 31 (z.2.2.2.2.2.2.2.2.2.2.2.2.2.2.2.2.1)) 32 (z.2.2.2.2.2.2.2.2.2.2.2.2.2.2.2.2.2.1)) 33 (z.2.2.2.2.2.2.2.2.2.2.2.2.2.2.2.2.2.2.1)) 34 (z.2.2.2.2.2.2.2.2.2.2.2.2.2.2.2.2.2.2.2.1)) (bs_up2 (bs_up2 (bs_up2 (bs_up2 (bs_up2 (bs_up2 (bs_up2 (bs_up2 (bs_up2 (bs_up2 (bs_up2 (bs_up2 (bs_up2 (bs_up2 Y 22 (z.2.2.2.2.2.2.2.1)) 23 (z.2.2.2.2.2.2.2.2.1)) 24 (z.2.2.2.2.2.2.2.2.2.1)) 25 (z.2.2.2.2.2.2.2.2.2.2.1)) 26 (z.2.2.2.2.2.2.2.2.2.2.2.1)) 27 (z.2.2.2.2.2.2.2.2.2.2.2.2.1)) 28 (z.2.2.2.2.2.2.2.2.2.2.2.2.2.1)) 29 (z.2.2.2.2.2.2.2.2.2.2.2.2.2.2.2.2.2.2.2.2.1)) 30 (z.2.2.2.2.2.2.2.2.2.2.2.2.2.2.2.2.2.2.2.2.2.1)) 31 (z.2.2.2.2.2.2.2.2.2.2.2.2.2.2.2.2.2.2.2.2.2.2.1)) 32 (z.2.2.2.2.2.2.2.2.2.2.2.2.2.2.2.2.2.2.2.2.2.2.2.1)) 33 (z.2.2.2.2.2.2.2.2.2.2.2.2.2.2.2.2.2.2.2.2.2.2.2.2.1)) 34 (z.2.2.2.2.2.2.2.2.2.2.2.2.2.2.2.2.2.2.2.2.2.2.2.2.2.1)) 35 (z.2.2.2.2.2.2.2.2.2.2.2.2.2.2.2.2.2.2.2.2.2.2.2.2.2.2))]) (bl1 := wb cI cZ cS cG a g (upd (upd (upd (upd (upd (upd (upd (upd (upd (upd (upd (upd X 23 (z.2.1)) 24 (z.2.2.1)) 25 (z.2.2.2.1)) 26 (z.2.2.2.2.1)) 27 (z.2.2.2.2.2.1)) 28 (z.2.2.2.2.2.2.1)) 29 (z.2.2.2.2.2.2.2.2.2.2.2.2.2.2.1)) 30 (z.2.2.2.2.2.2.2.2.2.2.2.2.2.2.2.1)) 31 (z.2.2.2.2.2.2.2.2.2.2.2.2.2.2.2.2.1)) 32 (z.2.2.2.2.2.2.2.2.2.2.2.2.2.2.2.2.2.1)) 33 (z.2.2.2.2.2.2.2.2.2.2.2.2.2.2.2.2.2.2.1)) 34 (z.2.2.2.2.2.2.2.2.2.2.2.2.2.2.2.2.2.2.2.1)) (bs_up2 (bs_up2 (bs_up2 (bs_up2 (bs_up2 (bs_up2 (bs_up2 (bs_up2 (bs_up2 (bs_up2 (bs_up2 (bs_up2 (bs_up2 (bs_up2 Y 22 (z.2.2.2.2.2.2.2.1)) 23 (z.2.2.2.2.2.2.2.2.1)) 24 (z.2.2.2.2.2.2.2.2.2.1)) 25 (z.2.2.2.2.2.2.2.2.2.2.1)) 26 (z.2.2.2.2.2.2.2.2.2.2.2.1)) 27 (z.2.2.2.2.2.2.2.2.2.2.2.2.1)) 28 (z.2.2.2.2.2.2.2.2.2.2.2.2.2.1)) 29 (z.2.2.2.2.2.2.2.2.2.2.2.2.2.2.2.2.2.2.2.2.1)) 30 (z.2.2.2.2.2.2.2.2.2.2.2.2.2.2.2.2.2.2.2.2.2.1)) 31 (z.2.2.2.2.2.2.2.2.2.2.2.2.2.2.2.2.2.2.2.2.2.2.1)) 32 (z.2.2.2.2.2.2.2.2.2.2.2.2.2.2.2.2.2.2.2.2.2.2.2.1)) 33 (z.2.2.2.2.2.2.2.2.2.2.2.2.2.2.2.2.2.2.2.2.2.2.2.2.1)) 34 (z.2.2.2.2.2.2.2.2.2.2.2.2.2.2.2.2.2.2.2.2.2.2.2.2.2.1)) 35 (z.2.2.2.2.2.2.2.2.2.2.2.2.2.2.2.2.2.2.2.2.2.2.2.2.2.2)) G M N) ⟨hx, hb, hml, hown, hts⟩ (k_X6_image l dC dI cI cZ cS cG (a 0) (a 1) (a 5) (a 7) (a 15) (a 23) (a 31) (a 48) (a 53) (a 56) (a 8) (a 9) (a 10) (a 11) (a 12) (a 13) (a 14) (a 32) (a 33) (a 34) (a 35) (a 36) (a 37) (a 38) (a 39) (a 40) (a 41) (a 42) (a 43) (a 44) (a 45) (a 46) (a 47) (X 0) (X 1) (X 5) (X 6) (X 7) (X 8) (X 9) (X 10) (Y 1) (Y 2) (Y 3) (Y 4) (Y 5) (Y 6) (Y 7) (X 23) (X 24) (X 25) (X 26) (X 27) (X 28) (Y 22) (Y 23) (Y 24) (Y 25) (Y 26) (Y 27) (Y 28) (X 29) (X 30) (X 31) (X 32) (X 33) (X 34) (Y 29) (Y 30) (Y 31) (Y 32) (Y 33) (Y 34) (Y 35) (xs (nI i + nI 1).toNatClampNeg) z e1) (cwV 1 hts gL_law_X6_image rfl rfl rfl (by decide +kernel) ⟨Nat.le_of_ble_eq_true rfl, Nat.le_of_ble_eq_true rfl⟩) hE hP hD hA hS [0, 6, 3, 7, 8] (by decide) rfl 6 0 rfl rfl rfl rfl wb_f rfl rfl hl.1 (Nat.le_of_ble_eq_true rfl) dL_law_981 ⟨Nat.le_of_ble_eq_true rfl, Nat.le_of_ble_eq_true rfl⟩ (fun H locs hP hD hS => ?_)
  refine lv_aload_n hx hb dL_law_984 rfl (lv_at hl 1 rfl) ?_
  refine lv_aload_n hx hb dL_law_985 rfl (lv_at hl 3 rfl) ?_
  refine lv_iload_n hx hb dL_law_986 rfl (lv_at hl 0 rfl) ?_
  refine lv_iconst (v := nI 1) hx hb dL_law_987 (by decide) ?_
  refine lv_iadd hx hb dL_law_988 ?_
  refine va_sld hx hb hX hbl hbA hS (lw_in hL hi (Nat.le_of_ble_eq_true rfl)) dL_law_989 ?_
  refine lw_cB (As := [.int (xs (nI i + nI 1).toNatClampNeg)]) (cb := [wb12 cI cZ a M N]) (cb' := [wb12 cI cZ a M (bs_up2 (bs_up2 N 9 (w.2.1)) 10 (w.2.2))]) (bl1 := wb cI cZ cS cG a g (upd (upd (upd (upd (upd (upd (upd (upd (upd (upd (upd (upd X 23 (z.2.1)) 24 (z.2.2.1)) 25 (z.2.2.2.1)) 26 (z.2.2.2.2.1)) 27 (z.2.2.2.2.2.1)) 28 (z.2.2.2.2.2.2.1)) 29 (z.2.2.2.2.2.2.2.2.2.2.2.2.2.2.1)) 30 (z.2.2.2.2.2.2.2.2.2.2.2.2.2.2.2.1)) 31 (z.2.2.2.2.2.2.2.2.2.2.2.2.2.2.2.2.1)) 32 (z.2.2.2.2.2.2.2.2.2.2.2.2.2.2.2.2.2.1)) 33 (z.2.2.2.2.2.2.2.2.2.2.2.2.2.2.2.2.2.2.1)) 34 (z.2.2.2.2.2.2.2.2.2.2.2.2.2.2.2.2.2.2.2.1)) (bs_up2 (bs_up2 (bs_up2 (bs_up2 (bs_up2 (bs_up2 (bs_up2 (bs_up2 (bs_up2 (bs_up2 (bs_up2 (bs_up2 (bs_up2 (bs_up2 Y 22 (z.2.2.2.2.2.2.2.1)) 23 (z.2.2.2.2.2.2.2.2.1)) 24 (z.2.2.2.2.2.2.2.2.2.1)) 25 (z.2.2.2.2.2.2.2.2.2.2.1)) 26 (z.2.2.2.2.2.2.2.2.2.2.2.1)) 27 (z.2.2.2.2.2.2.2.2.2.2.2.2.1)) 28 (z.2.2.2.2.2.2.2.2.2.2.2.2.2.1)) 29 (z.2.2.2.2.2.2.2.2.2.2.2.2.2.2.2.2.2.2.2.2.1)) 30 (z.2.2.2.2.2.2.2.2.2.2.2.2.2.2.2.2.2.2.2.2.2.1)) 31 (z.2.2.2.2.2.2.2.2.2.2.2.2.2.2.2.2.2.2.2.2.2.2.1)) 32 (z.2.2.2.2.2.2.2.2.2.2.2.2.2.2.2.2.2.2.2.2.2.2.2.1)) 33 (z.2.2.2.2.2.2.2.2.2.2.2.2.2.2.2.2.2.2.2.2.2.2.2.2.1)) 34 (z.2.2.2.2.2.2.2.2.2.2.2.2.2.2.2.2.2.2.2.2.2.2.2.2.2.1)) 35 (z.2.2.2.2.2.2.2.2.2.2.2.2.2.2.2.2.2.2.2.2.2.2.2.2.2.2)) G M (bs_up2 (bs_up2 N 9 (w.2.1)) 10 (w.2.2))) ⟨hx, hb, hml, hown, hts⟩ (k_X7_image l dC dI cI cZ cS cG (a 58) (a 59) (a 60) (a 61) (a 62) (a 63) (a 64) (a 65) (a 66) (a 67) (a 68) (a 69) (a 70) (N 0) (N 1) (N 2) (M 0) (M 1) (N 3) (N 4) (N 5) (M 2) (M 3) (M 4) (M 5) (M 6) (M 7) (M 8) (N 6) (N 7) (M 9) (N 8) (M 10) (N 9) (N 10) (N 11) (M 11) (xs (nI i + nI 1).toNatClampNeg) w e2) (cwV 1 hts gL_law_X7_image rfl rfl rfl (by decide +kernel) ⟨Nat.le_of_ble_eq_true rfl, Nat.le_of_ble_eq_true rfl⟩) hE hP hD hA hS [12] (by decide) rfl 7 0 rfl rfl rfl rfl wb_f rfl rfl hl.1 (Nat.le_of_ble_eq_true rfl) dL_law_990 ⟨Nat.le_of_ble_eq_true rfl, Nat.le_of_ble_eq_true rfl⟩ (fun H locs hP hD hS => ?_)
  refine lv_icmp_eq (tgt := 1169) hx hb dL_law_993 (by decide) (fun _ => ?_) (fun c9 => absurd e3 c9)
  exact kk _ _ _ _ _ H locs hP hD hS hR1
set_option maxHeartbeats 4000000 in
set_option maxRecDepth 100000 in
theorem lc_restore (C0 : lw_At p s m meth c b L xs) (hE : bs_E dC dI cI cZ cS cG s) (hP : va_P (dC, dI) vwCl (wb cI cZ cS cG a g X Y G M N).flatten H) (hD : va_D (fun q : Nat => s.heap.size ≤ q) (wb cI cZ cS cG a g X Y G M N).flatten) (hS : va_S (fun q : Nat => s.heap.size ≤ q) s.heap H locs) (hR : RR X Y G M N) (hL : L ≤ 3072) (hi : i + 5 < L) (hl : lv_has ls 4 [(3, .int (nI i)), (2, .ref (a 58)), (1, .ref (a 0)), (0, .ref b)]) (kk : lw_K p l e s m below meth c b dC dI cI cZ cS cG a g ls Q) : W p l e room_1 s m #[Value.ref b] below meth c H locs 600000 7302250 Q (F0 m 998 ls []) := by
  obtain ⟨hx, hb, hr, hml, hown, hts0, hX, hbl, hlocks, hgv⟩ := C0
  have hts : ∀ w ∈ wsL_law, w.before #[Value.ref b] s = true := fun w hw => hts0 w (wsL_law_in w hw)
  have hA : ∀ q : Nat, s.heap.size ≤ q → (fun q : Nat => s.heap.size ≤ q) q := fun _ h => h
  have hbA : ¬ (fun q : Nat => s.heap.size ≤ q) b := Nat.not_le.mpr hbl
  obtain ⟨z, w, e1, e2, e3, hR1⟩ := rs_restore hR (xs (nI i + nI 1).toNatClampNeg)
  refine lv_aload_n hx hb dL_law_998 rfl (lv_at hl 2 rfl) ?_
  refine lv_aload_n hx hb dL_law_999 rfl (lv_at hl 3 rfl) ?_
  refine lv_iload_n hx hb dL_law_1000 rfl (lv_at hl 0 rfl) ?_
  refine lv_iconst (v := nI 1) hx hb dL_law_1001 (by decide) ?_
  refine lv_iadd hx hb dL_law_1002 ?_
  refine va_sld hx hb hX hbl hbA hS (lw_in hL hi (Nat.le_of_ble_eq_true rfl)) dL_law_1003 ?_
  refine lw_cB (As := [.int (xs (nI i + nI 1).toNatClampNeg)]) (cb := [wb0 cI cS cG a g X Y, wb6 cI cS cG a g X Y, wb3 cI cS cG a g X Y, wb7 cI cS cG a g X Y, wb8 cI cS cG a g X Y, wb9 cI cS cG a g X Y]) (cb' := [wb0 cI cS cG a g (upd (upd (upd (upd (upd (upd (upd (upd X 5 (z.2.1)) 6 (z.2.2.1)) 7 (z.2.2.2.1)) 8 (z.2.2.2.2.1)) 9 (z.2.2.2.2.2.1)) 10 (z.2.2.2.2.2.2.1)) 35 (z.2.2.2.2.2.2.2.2.2.2.2.2.2.2.1)) 36 (z.2.2.2.2.2.2.2.2.2.2.2.2.2.2.2)) (bs_up2 (bs_up2 (bs_up2 (bs_up2 (bs_up2 (bs_up2 (bs_up2 Y 1 (z.2.2.2.2.2.2.2.1)) 2 (z.2.2.2.2.2.2.2.2.1)) 3 (z.2.2.2.2.2.2.2.2.2.1)) 4 (z.2.2.2.2.2.2.2.2.2.2.1)) 5 (z.2.2.2.2.2.2.2.2.2.2.2.1)) 6 (z.2.2.2.2.2.2.2.2.2.2.2.2.1)) 7 (z.2.2.2.2.2.2.2.2.2.2.2.2.2.1)), wb6 cI cS cG a g (upd (upd (upd (upd (upd (upd (upd (upd X 5 (z.2.1)) 6 (z.2.2.1)) 7 (z.2.2.2.1)) 8 (z.2.2.2.2.1)) 9 (z.2.2.2.2.2.1)) 10 (z.2.2.2.2.2.2.1)) 35 (z.2.2.2.2.2.2.2.2.2.2.2.2.2.2.1)) 36 (z.2.2.2.2.2.2.2.2.2.2.2.2.2.2.2)) (bs_up2 (bs_up2 (bs_up2 (bs_up2 (bs_up2 (bs_up2 (bs_up2 Y 1 (z.2.2.2.2.2.2.2.1)) 2 (z.2.2.2.2.2.2.2.2.1)) 3 (z.2.2.2.2.2.2.2.2.2.1)) 4 (z.2.2.2.2.2.2.2.2.2.2.1)) 5 (z.2.2.2.2.2.2.2.2.2.2.2.1)) 6 (z.2.2.2.2.2.2.2.2.2.2.2.2.1)) 7 (z.2.2.2.2.2.2.2.2.2.2.2.2.2.1)), wb3 cI cS cG a g (upd (upd (upd (upd (upd (upd (upd (upd X 5 (z.2.1)) 6 (z.2.2.1)) 7 (z.2.2.2.1)) 8 (z.2.2.2.2.1)) 9 (z.2.2.2.2.2.1)) 10 (z.2.2.2.2.2.2.1)) 35 (z.2.2.2.2.2.2.2.2.2.2.2.2.2.2.1)) 36 (z.2.2.2.2.2.2.2.2.2.2.2.2.2.2.2)) (bs_up2 (bs_up2 (bs_up2 (bs_up2 (bs_up2 (bs_up2 (bs_up2 Y 1 (z.2.2.2.2.2.2.2.1)) 2 (z.2.2.2.2.2.2.2.2.1)) 3 (z.2.2.2.2.2.2.2.2.2.1)) 4 (z.2.2.2.2.2.2.2.2.2.2.1)) 5 (z.2.2.2.2.2.2.2.2.2.2.2.1)) 6 (z.2.2.2.2.2.2.2.2.2.2.2.2.1)) 7 (z.2.2.2.2.2.2.2.2.2.2.2.2.2.1)), wb7 cI cS cG a g (upd (upd (upd (upd (upd (upd (upd (upd X 5 (z.2.1)) 6 (z.2.2.1)) 7 (z.2.2.2.1)) 8 (z.2.2.2.2.1)) 9 (z.2.2.2.2.2.1)) 10 (z.2.2.2.2.2.2.1)) 35 (z.2.2.2.2.2.2.2.2.2.2.2.2.2.2.1)) 36 (z.2.2.2.2.2.2.2.2.2.2.2.2.2.2.2)) (bs_up2 (bs_up2 (bs_up2 (bs_up2 (bs_up2 (bs_up2 (bs_up2 Y 1 (z.2.2.2.2.2.2.2.1)) 2 (z.2.2.2.2.2.2.2.2.1)) 3 (z.2.2.2.2.2.2.2.2.2.1)) 4 (z.2.2.2.2.2.2.2.2.2.2.1)) 5 (z.2.2.2.2.2.2.2.2.2.2.2.1)) 6 (z.2.2.2.2.2.2.2.2.2.2.2.2.1)) 7 (z.2.2.2.2.2.2.2.2.2.2.2.2.2.1)), wb8 cI cS cG a g (upd (upd (upd (upd (upd (upd (upd (upd X 5 (z.2.1)) 6 (z.2.2.1)) 7 (z.2.2.2.1)) 8 (z.2.2.2.2.1)) 9 (z.2.2.2.2.2.1)) 10 (z.2.2.2.2.2.2.1)) 35 (z.2.2.2.2.2.2.2.2.2.2.2.2.2.2.1)) 36 (z.2.2.2.2.2.2.2.2.2.2.2.2.2.2.2)) (bs_up2 (bs_up2 (bs_up2 (bs_up2 (bs_up2 (bs_up2 (bs_up2 Y 1 (z.2.2.2.2.2.2.2.1)) 2 (z.2.2.2.2.2.2.2.2.1)) 3 (z.2.2.2.2.2.2.2.2.2.1)) 4 (z.2.2.2.2.2.2.2.2.2.2.1)) 5 (z.2.2.2.2.2.2.2.2.2.2.2.1)) 6 (z.2.2.2.2.2.2.2.2.2.2.2.2.1)) 7 (z.2.2.2.2.2.2.2.2.2.2.2.2.2.1)), wb9 cI cS cG a g (upd (upd (upd (upd (upd (upd (upd (upd X 5 (z.2.1)) 6 (z.2.2.1)) 7 (z.2.2.2.1)) 8 (z.2.2.2.2.1)) 9 (z.2.2.2.2.2.1)) 10 (z.2.2.2.2.2.2.1)) 35 (z.2.2.2.2.2.2.2.2.2.2.2.2.2.2.1)) 36 (z.2.2.2.2.2.2.2.2.2.2.2.2.2.2.2)) (bs_up2 (bs_up2 (bs_up2 (bs_up2 (bs_up2 (bs_up2 (bs_up2 Y 1 (z.2.2.2.2.2.2.2.1)) 2 (z.2.2.2.2.2.2.2.2.1)) 3 (z.2.2.2.2.2.2.2.2.2.1)) 4 (z.2.2.2.2.2.2.2.2.2.2.1)) 5 (z.2.2.2.2.2.2.2.2.2.2.2.1)) 6 (z.2.2.2.2.2.2.2.2.2.2.2.2.1)) 7 (z.2.2.2.2.2.2.2.2.2.2.2.2.2.1))]) (bl1 := wb cI cZ cS cG a g (upd (upd (upd (upd (upd (upd (upd (upd X 5 (z.2.1)) 6 (z.2.2.1)) 7 (z.2.2.2.1)) 8 (z.2.2.2.2.1)) 9 (z.2.2.2.2.2.1)) 10 (z.2.2.2.2.2.2.1)) 35 (z.2.2.2.2.2.2.2.2.2.2.2.2.2.2.1)) 36 (z.2.2.2.2.2.2.2.2.2.2.2.2.2.2.2)) (bs_up2 (bs_up2 (bs_up2 (bs_up2 (bs_up2 (bs_up2 (bs_up2 Y 1 (z.2.2.2.2.2.2.2.1)) 2 (z.2.2.2.2.2.2.2.2.1)) 3 (z.2.2.2.2.2.2.2.2.2.1)) 4 (z.2.2.2.2.2.2.2.2.2.2.1)) 5 (z.2.2.2.2.2.2.2.2.2.2.2.1)) 6 (z.2.2.2.2.2.2.2.2.2.2.2.2.1)) 7 (z.2.2.2.2.2.2.2.2.2.2.2.2.2.1)) G M N) ⟨hx, hb, hml, hown, hts⟩ (k_X6_restore l dC dI cI cZ cS cG (a 0) (a 1) (a 5) (a 7) (a 15) (a 23) (a 31) (a 48) (a 53) (a 56) (a 8) (a 9) (a 10) (a 11) (a 12) (a 13) (a 14) (a 32) (a 33) (a 34) (a 35) (a 36) (a 37) (a 38) (a 39) (a 40) (a 41) (a 42) (a 43) (a 44) (a 45) (a 46) (a 47) (a 49) (a 50) (a 51) (a 52) (X 0) (X 1) (X 5) (X 6) (X 7) (X 8) (X 9) (X 10) (Y 1) (Y 2) (Y 3) (Y 4) (Y 5) (Y 6) (Y 7) (X 23) (X 24) (X 25) (X 26) (X 27) (X 28) (Y 22) (Y 23) (Y 24) (Y 25) (Y 26) (Y 27) (Y 28) (X 29) (X 30) (X 31) (X 32) (X 33) (X 34) (Y 29) (Y 30) (Y 31) (Y 32) (Y 33) (Y 34) (Y 35) (Y 36) (Y 37) (Y 38) (Y 39) (X 35) (X 36) (xs (nI i + nI 1).toNatClampNeg) z e1) (cwV 1 hts gL_law_X6_restore rfl rfl rfl (by decide +kernel) ⟨Nat.le_of_ble_eq_true rfl, Nat.le_of_ble_eq_true rfl⟩) hE hP hD hA hS [0, 6, 3, 7, 8, 9] (by decide) rfl 6 0 rfl rfl rfl rfl wb_f rfl rfl hl.1 (Nat.le_of_ble_eq_true rfl) dL_law_1004 ⟨Nat.le_of_ble_eq_true rfl, Nat.le_of_ble_eq_true rfl⟩ (fun H locs hP hD hS => ?_)
  refine lv_aload_n hx hb dL_law_1007 rfl (lv_at hl 1 rfl) ?_
  refine lv_aload_n hx hb dL_law_1008 rfl (lv_at hl 3 rfl) ?_
  refine lv_iload_n hx hb dL_law_1009 rfl (lv_at hl 0 rfl) ?_
  refine lv_iconst (v := nI 1) hx hb dL_law_1010 (by decide) ?_
  refine lv_iadd hx hb dL_law_1011 ?_
  refine va_sld hx hb hX hbl hbA hS (lw_in hL hi (Nat.le_of_ble_eq_true rfl)) dL_law_1012 ?_
  refine lw_cB (As := [.int (xs (nI i + nI 1).toNatClampNeg)]) (cb := [wb12 cI cZ a M N]) (cb' := [wb12 cI cZ a (upd M 9 (w.2.2)) (bs_up2 N 3 (w.2.1))]) (bl1 := wb cI cZ cS cG a g (upd (upd (upd (upd (upd (upd (upd (upd X 5 (z.2.1)) 6 (z.2.2.1)) 7 (z.2.2.2.1)) 8 (z.2.2.2.2.1)) 9 (z.2.2.2.2.2.1)) 10 (z.2.2.2.2.2.2.1)) 35 (z.2.2.2.2.2.2.2.2.2.2.2.2.2.2.1)) 36 (z.2.2.2.2.2.2.2.2.2.2.2.2.2.2.2)) (bs_up2 (bs_up2 (bs_up2 (bs_up2 (bs_up2 (bs_up2 (bs_up2 Y 1 (z.2.2.2.2.2.2.2.1)) 2 (z.2.2.2.2.2.2.2.2.1)) 3 (z.2.2.2.2.2.2.2.2.2.1)) 4 (z.2.2.2.2.2.2.2.2.2.2.1)) 5 (z.2.2.2.2.2.2.2.2.2.2.2.1)) 6 (z.2.2.2.2.2.2.2.2.2.2.2.2.1)) 7 (z.2.2.2.2.2.2.2.2.2.2.2.2.2.1)) G (upd M 9 (w.2.2)) (bs_up2 N 3 (w.2.1))) ⟨hx, hb, hml, hown, hts⟩ (k_X7_restore l dC dI cI cZ cS cG (a 58) (a 59) (a 60) (a 61) (a 62) (a 63) (a 64) (a 65) (a 66) (a 67) (a 68) (a 69) (a 70) (N 0) (N 1) (N 2) (M 0) (M 1) (N 3) (N 4) (N 5) (M 2) (M 3) (M 4) (M 5) (M 6) (M 7) (M 8) (N 6) (N 7) (M 9) (N 8) (M 10) (N 9) (N 10) (N 11) (M 11) (xs (nI i + nI 1).toNatClampNeg) w e2) (cwV 1 hts gL_law_X7_restore rfl rfl rfl (by decide +kernel) ⟨Nat.le_of_ble_eq_true rfl, Nat.le_of_ble_eq_true rfl⟩) hE hP hD hA hS [12] (by decide) rfl 7 0 rfl rfl rfl rfl wb_f rfl rfl hl.1 (Nat.le_of_ble_eq_true rfl) dL_law_1013 ⟨Nat.le_of_ble_eq_true rfl, Nat.le_of_ble_eq_true rfl⟩ (fun H locs hP hD hS => ?_)
  refine lv_icmp_eq (tgt := 1169) hx hb dL_law_1016 (by decide) (fun _ => ?_) (fun c9 => absurd e3 c9)
  exact kk _ _ _ _ _ H locs hP hD hS hR1
set_option maxHeartbeats 4000000 in
set_option maxRecDepth 100000 in
theorem lc_kind (C0 : lw_At p s m meth c b L xs) (hE : bs_E dC dI cI cZ cS cG s) (hP : va_P (dC, dI) vwCl (wb cI cZ cS cG a g X Y G M N).flatten H) (hD : va_D (fun q : Nat => s.heap.size ≤ q) (wb cI cZ cS cG a g X Y G M N).flatten) (hS : va_S (fun q : Nat => s.heap.size ≤ q) s.heap H locs) (hR : RR X Y G M N) (hL : L ≤ 3072) (hi : i + 5 < L) (hl : lv_has ls 4 [(3, .int (nI i)), (2, .ref (a 58)), (1, .ref (a 0)), (0, .ref b)]) (kk : lw_K p l e s m below meth c b dC dI cI cZ cS cG a g ls Q) : W p l e room_1 s m #[Value.ref b] below meth c H locs 600000 7302250 Q (F0 m 1021 ls []) := by
  obtain ⟨hx, hb, hr, hml, hown, hts0, hX, hbl, hlocks, hgv⟩ := C0
  have hts : ∀ w ∈ wsL_law, w.before #[Value.ref b] s = true := fun w hw => hts0 w (wsL_law_in w hw)
  have hA : ∀ q : Nat, s.heap.size ≤ q → (fun q : Nat => s.heap.size ≤ q) q := fun _ h => h
  have hbA : ¬ (fun q : Nat => s.heap.size ≤ q) b := Nat.not_le.mpr hbl
  obtain ⟨z, w, e1, e2, e3, hR1⟩ := rs_kind hR (xs (nI i + nI 1).toNatClampNeg)
  refine lv_aload_n hx hb dL_law_1021 rfl (lv_at hl 2 rfl) ?_
  refine lv_aload_n hx hb dL_law_1022 rfl (lv_at hl 3 rfl) ?_
  refine lv_iload_n hx hb dL_law_1023 rfl (lv_at hl 0 rfl) ?_
  refine lv_iconst (v := nI 1) hx hb dL_law_1024 (by decide) ?_
  refine lv_iadd hx hb dL_law_1025 ?_
  refine va_sld hx hb hX hbl hbA hS (lw_in hL hi (Nat.le_of_ble_eq_true rfl)) dL_law_1026 ?_
  refine lw_cBR (As := [.int (xs (nI i + nI 1).toNatClampNeg)]) (cb := [wb0 cI cS cG a g X Y, wb3 cI cS cG a g X Y]) ⟨hx, hb, hml, hown, hts⟩ (k_X6_kind l dC dI cI cZ cS cG (a 0) (a 1) (a 5) (a 7) (a 15) (a 23) (a 31) (a 48) (a 53) (a 56) (a 8) (a 9) (a 10) (a 11) (a 12) (a 13) (a 14) (X 0) (X 1) (X 5) (X 6) (X 7) (X 8) (X 9) (X 10) (Y 1) (Y 2) (Y 3) (Y 4) (Y 5) (Y 6) (Y 7) (xs (nI i + nI 1).toNatClampNeg) z e1) (cwV 1 hts gL_law_X6_kind rfl rfl rfl (by decide +kernel) ⟨Nat.le_of_ble_eq_true rfl, Nat.le_of_ble_eq_true rfl⟩) hE hP hD hA hS [0, 3] (by decide) rfl 6 0 rfl rfl rfl rfl hl.1 (Nat.le_of_ble_eq_true rfl) dL_law_1027 ⟨Nat.le_of_ble_eq_true rfl, Nat.le_of_ble_eq_true rfl⟩ (fun H locs hP hD hS => ?_)
  refine lv_aload_n hx hb dL_law_1030 rfl (lv_at hl 1 rfl) ?_
  refine lv_aload_n hx hb dL_law_1031 rfl (lv_at hl 3 rfl) ?_
  refine lv_iload_n hx hb dL_law_1032 rfl (lv_at hl 0 rfl) ?_
  refine lv_iconst (v := nI 1) hx hb dL_law_1033 (by decide) ?_
  refine lv_iadd hx hb dL_law_1034 ?_
  refine va_sld hx hb hX hbl hbA hS (lw_in hL hi (Nat.le_of_ble_eq_true rfl)) dL_law_1035 ?_
  refine lw_cBR (As := [.int (xs (nI i + nI 1).toNatClampNeg)]) (cb := [wb12 cI cZ a M N]) ⟨hx, hb, hml, hown, hts⟩ (k_X7_kind l dC dI cI cZ cS cG (a 58) (a 59) (a 60) (a 61) (a 62) (a 63) (a 64) (a 65) (a 66) (a 67) (a 68) (a 69) (a 70) (N 0) (N 1) (N 2) (M 0) (M 1) (N 3) (N 4) (N 5) (M 2) (M 3) (M 4) (M 5) (M 6) (M 7) (M 8) (N 6) (N 7) (M 9) (N 8) (M 10) (N 9) (N 10) (N 11) (M 11) (xs (nI i + nI 1).toNatClampNeg) w e2) (cwV 1 hts gL_law_X7_kind rfl rfl rfl (by decide +kernel) ⟨Nat.le_of_ble_eq_true rfl, Nat.le_of_ble_eq_true rfl⟩) hE hP hD hA hS [12] (by decide) rfl 7 0 rfl rfl rfl rfl hl.1 (Nat.le_of_ble_eq_true rfl) dL_law_1036 ⟨Nat.le_of_ble_eq_true rfl, Nat.le_of_ble_eq_true rfl⟩ (fun H locs hP hD hS => ?_)
  refine lv_icmp_eq (tgt := 1169) hx hb dL_law_1039 (by decide) (fun _ => ?_) (fun c9 => absurd e3 c9)
  exact kk _ _ _ _ _ H locs hP hD hS hR1
set_option maxHeartbeats 4000000 in
set_option maxRecDepth 100000 in
theorem lc_as (C0 : lw_At p s m meth c b L xs) (hE : bs_E dC dI cI cZ cS cG s) (hP : va_P (dC, dI) vwCl (wb cI cZ cS cG a g X Y G M N).flatten H) (hD : va_D (fun q : Nat => s.heap.size ≤ q) (wb cI cZ cS cG a g X Y G M N).flatten) (hS : va_S (fun q : Nat => s.heap.size ≤ q) s.heap H locs) (hR : RR X Y G M N) (hL : L ≤ 3072) (hi : i + 5 < L) (hl : lv_has ls 4 [(3, .int (nI i)), (2, .ref (a 58)), (1, .ref (a 0)), (0, .ref b)]) (kk : lw_K p l e s m below meth c b dC dI cI cZ cS cG a g ls Q) : W p l e room_1 s m #[Value.ref b] below meth c H locs 600000 7302250 Q (F0 m 1044 ls []) := by
  obtain ⟨hx, hb, hr, hml, hown, hts0, hX, hbl, hlocks, hgv⟩ := C0
  have hts : ∀ w ∈ wsL_law, w.before #[Value.ref b] s = true := fun w hw => hts0 w (wsL_law_in w hw)
  have hA : ∀ q : Nat, s.heap.size ≤ q → (fun q : Nat => s.heap.size ≤ q) q := fun _ h => h
  have hbA : ¬ (fun q : Nat => s.heap.size ≤ q) b := Nat.not_le.mpr hbl
  obtain ⟨z, w, e1, e2, e3, hR1⟩ := rs_as hR (xs (nI i + nI 1).toNatClampNeg) (xs (nI i + nI 2).toNatClampNeg)
  refine lv_aload_n hx hb dL_law_1044 rfl (lv_at hl 2 rfl) ?_
  refine lv_aload_n hx hb dL_law_1045 rfl (lv_at hl 3 rfl) ?_
  refine lv_iload_n hx hb dL_law_1046 rfl (lv_at hl 0 rfl) ?_
  refine lv_iconst (v := nI 1) hx hb dL_law_1047 (by decide) ?_
  refine lv_iadd hx hb dL_law_1048 ?_
  refine va_sld hx hb hX hbl hbA hS (lw_in hL hi (Nat.le_of_ble_eq_true rfl)) dL_law_1049 ?_
  refine lv_aload_n hx hb dL_law_1050 rfl (lv_at hl 3 rfl) ?_
  refine lv_iload_n hx hb dL_law_1051 rfl (lv_at hl 0 rfl) ?_
  refine lv_iconst (v := nI 2) hx hb dL_law_1052 (by decide) ?_
  refine lv_iadd hx hb dL_law_1053 ?_
  refine va_sld hx hb hX hbl hbA hS (lw_in hL hi (Nat.le_of_ble_eq_true rfl)) dL_law_1054 ?_
  refine lw_cB (As := [.int (xs (nI i + nI 1).toNatClampNeg), .int (xs (nI i + nI 2).toNatClampNeg)]) (cb := [wb0 cI cS cG a g X Y, wb3 cI cS cG a g X Y]) (cb' := [wb0 cI cS cG a g (upd X 1 (z.2)) Y, wb3 cI cS cG a g (upd X 1 (z.2)) Y]) (bl1 := wb cI cZ cS cG a g (upd X 1 (z.2)) Y G M N) ⟨hx, hb, hml, hown, hts⟩ (k_X6_as l dC dI cI cZ cS cG (a 0) (a 1) (a 5) (a 7) (a 15) (a 23) (a 31) (a 48) (a 53) (a 56) (a 8) (a 9) (a 10) (a 11) (a 12) (a 13) (a 14) (X 0) (X 1) (X 5) (X 6) (X 7) (X 8) (X 9) (X 10) (Y 1) (Y 2) (Y 3) (Y 4) (Y 5) (Y 6) (Y 7) (xs (nI i + nI 1).toNatClampNeg) (xs (nI i + nI 2).toNatClampNeg) z e1) (cwV 2 hts gL_law_X6_as rfl rfl rfl (by decide +kernel) ⟨Nat.le_of_ble_eq_true rfl, Nat.le_of_ble_eq_true rfl⟩) hE hP hD hA hS [0, 3] (by decide) rfl 6 0 rfl rfl rfl rfl wb_f rfl rfl hl.1 (Nat.le_of_ble_eq_true rfl) dL_law_1055 ⟨Nat.le_of_ble_eq_true rfl, Nat.le_of_ble_eq_true rfl⟩ (fun H locs hP hD hS => ?_)
  refine lv_aload_n hx hb dL_law_1058 rfl (lv_at hl 1 rfl) ?_
  refine lv_aload_n hx hb dL_law_1059 rfl (lv_at hl 3 rfl) ?_
  refine lv_iload_n hx hb dL_law_1060 rfl (lv_at hl 0 rfl) ?_
  refine lv_iconst (v := nI 1) hx hb dL_law_1061 (by decide) ?_
  refine lv_iadd hx hb dL_law_1062 ?_
  refine va_sld hx hb hX hbl hbA hS (lw_in hL hi (Nat.le_of_ble_eq_true rfl)) dL_law_1063 ?_
  refine lv_aload_n hx hb dL_law_1064 rfl (lv_at hl 3 rfl) ?_
  refine lv_iload_n hx hb dL_law_1065 rfl (lv_at hl 0 rfl) ?_
  refine lv_iconst (v := nI 2) hx hb dL_law_1066 (by decide) ?_
  refine lv_iadd hx hb dL_law_1067 ?_
  refine va_sld hx hb hX hbl hbA hS (lw_in hL hi (Nat.le_of_ble_eq_true rfl)) dL_law_1068 ?_
  refine lw_cB (As := [.int (xs (nI i + nI 1).toNatClampNeg), .int (xs (nI i + nI 2).toNatClampNeg)]) (cb := [wb12 cI cZ a M N]) (cb' := [wb12 cI cZ a (upd M 0 (w.2)) N]) (bl1 := wb cI cZ cS cG a g (upd X 1 (z.2)) Y G (upd M 0 (w.2)) N) ⟨hx, hb, hml, hown, hts⟩ (k_X7_as l dC dI cI cZ cS cG (a 58) (a 59) (a 60) (a 61) (a 62) (a 63) (a 64) (a 65) (a 66) (a 67) (a 68) (a 69) (a 70) (N 0) (N 1) (N 2) (M 0) (M 1) (N 3) (N 4) (N 5) (M 2) (M 3) (M 4) (M 5) (M 6) (M 7) (M 8) (N 6) (N 7) (M 9) (N 8) (M 10) (N 9) (N 10) (N 11) (M 11) (xs (nI i + nI 1).toNatClampNeg) (xs (nI i + nI 2).toNatClampNeg) w e2) (cwV 2 hts gL_law_X7_as rfl rfl rfl (by decide +kernel) ⟨Nat.le_of_ble_eq_true rfl, Nat.le_of_ble_eq_true rfl⟩) hE hP hD hA hS [12] (by decide) rfl 7 0 rfl rfl rfl rfl wb_f rfl rfl hl.1 (Nat.le_of_ble_eq_true rfl) dL_law_1069 ⟨Nat.le_of_ble_eq_true rfl, Nat.le_of_ble_eq_true rfl⟩ (fun H locs hP hD hS => ?_)
  refine lv_icmp_eq (tgt := 1169) hx hb dL_law_1072 (by decide) (fun _ => ?_) (fun c9 => absurd e3 c9)
  exact kk _ _ _ _ _ H locs hP hD hS hR1
set_option maxHeartbeats 4000000 in
set_option maxRecDepth 100000 in
theorem lc_ask (C0 : lw_At p s m meth c b L xs) (hE : bs_E dC dI cI cZ cS cG s) (hP : va_P (dC, dI) vwCl (wb cI cZ cS cG a g X Y G M N).flatten H) (hD : va_D (fun q : Nat => s.heap.size ≤ q) (wb cI cZ cS cG a g X Y G M N).flatten) (hS : va_S (fun q : Nat => s.heap.size ≤ q) s.heap H locs) (hR : RR X Y G M N) (hL : L ≤ 3072) (hi : i + 5 < L) (hl : lv_has ls 4 [(3, .int (nI i)), (2, .ref (a 58)), (1, .ref (a 0)), (0, .ref b)]) (kk : lw_K p l e s m below meth c b dC dI cI cZ cS cG a g ls Q) : W p l e room_1 s m #[Value.ref b] below meth c H locs 600000 7302250 Q (F0 m 1077 ls []) := by
  obtain ⟨hx, hb, hr, hml, hown, hts0, hX, hbl, hlocks, hgv⟩ := C0
  have hts : ∀ w ∈ wsL_law, w.before #[Value.ref b] s = true := fun w hw => hts0 w (wsL_law_in w hw)
  have hA : ∀ q : Nat, s.heap.size ≤ q → (fun q : Nat => s.heap.size ≤ q) q := fun _ h => h
  have hbA : ¬ (fun q : Nat => s.heap.size ≤ q) b := Nat.not_le.mpr hbl
  obtain ⟨z, w, e1, e2, e3, hR1⟩ := rs_ask hR (xs (nI i + nI 1).toNatClampNeg) (xs (nI i + nI 2).toNatClampNeg)
  refine lv_aload_n hx hb dL_law_1077 rfl (lv_at hl 2 rfl) ?_
  refine lv_aload_n hx hb dL_law_1078 rfl (lv_at hl 3 rfl) ?_
  refine lv_iload_n hx hb dL_law_1079 rfl (lv_at hl 0 rfl) ?_
  refine lv_iconst (v := nI 1) hx hb dL_law_1080 (by decide) ?_
  refine lv_iadd hx hb dL_law_1081 ?_
  refine va_sld hx hb hX hbl hbA hS (lw_in hL hi (Nat.le_of_ble_eq_true rfl)) dL_law_1082 ?_
  refine lv_aload_n hx hb dL_law_1083 rfl (lv_at hl 3 rfl) ?_
  refine lv_iload_n hx hb dL_law_1084 rfl (lv_at hl 0 rfl) ?_
  refine lv_iconst (v := nI 2) hx hb dL_law_1085 (by decide) ?_
  refine lv_iadd hx hb dL_law_1086 ?_
  refine va_sld hx hb hX hbl hbA hS (lw_in hL hi (Nat.le_of_ble_eq_true rfl)) dL_law_1087 ?_
  refine lw_cB (As := [.int (xs (nI i + nI 1).toNatClampNeg), .int (xs (nI i + nI 2).toNatClampNeg)]) (cb := [wb0 cI cS cG a g X Y, wb3 cI cS cG a g X Y, wb11 cI cS cG a g X Y]) (cb' := [wb0 cI cS cG a g (upd (upd (upd (upd (upd X 42 (z.2.2.1)) 43 (z.2.2.2.1)) 44 (z.2.2.2.2.1)) 45 (z.2.2.2.2.2.1)) 46 (z.2.2.2.2.2.2)) (bs_up2 Y 42 (z.2.1)), wb3 cI cS cG a g (upd (upd (upd (upd (upd X 42 (z.2.2.1)) 43 (z.2.2.2.1)) 44 (z.2.2.2.2.1)) 45 (z.2.2.2.2.2.1)) 46 (z.2.2.2.2.2.2)) (bs_up2 Y 42 (z.2.1)), wb11 cI cS cG a g (upd (upd (upd (upd (upd X 42 (z.2.2.1)) 43 (z.2.2.2.1)) 44 (z.2.2.2.2.1)) 45 (z.2.2.2.2.2.1)) 46 (z.2.2.2.2.2.2)) (bs_up2 Y 42 (z.2.1))]) (bl1 := wb cI cZ cS cG a g (upd (upd (upd (upd (upd X 42 (z.2.2.1)) 43 (z.2.2.2.1)) 44 (z.2.2.2.2.1)) 45 (z.2.2.2.2.2.1)) 46 (z.2.2.2.2.2.2)) (bs_up2 Y 42 (z.2.1)) G M N) ⟨hx, hb, hml, hown, hts⟩ (k_X6_ask l dC dI cI cZ cS cG (a 0) (a 1) (a 5) (a 7) (a 15) (a 23) (a 31) (a 48) (a 53) (a 56) (a 8) (a 9) (a 10) (a 11) (a 12) (a 13) (a 14) (a 57) (X 0) (X 1) (X 5) (X 6) (X 7) (X 8) (X 9) (X 10) (Y 1) (Y 2) (Y 3) (Y 4) (Y 5) (Y 6) (Y 7) (Y 42) (X 42) (X 43) (X 44) (X 45) (X 46) (xs (nI i + nI 1).toNatClampNeg) (xs (nI i + nI 2).toNatClampNeg) z e1) (cwV 2 hts gL_law_X6_ask rfl rfl rfl (by decide +kernel) ⟨Nat.le_of_ble_eq_true rfl, Nat.le_of_ble_eq_true rfl⟩) hE hP hD hA hS [0, 3, 11] (by decide) rfl 6 0 rfl rfl rfl rfl wb_f rfl rfl hl.1 (Nat.le_of_ble_eq_true rfl) dL_law_1088 ⟨Nat.le_of_ble_eq_true rfl, Nat.le_of_ble_eq_true rfl⟩ (fun H locs hP hD hS => ?_)
  refine lv_aload_n hx hb dL_law_1091 rfl (lv_at hl 1 rfl) ?_
  refine lv_aload_n hx hb dL_law_1092 rfl (lv_at hl 3 rfl) ?_
  refine lv_iload_n hx hb dL_law_1093 rfl (lv_at hl 0 rfl) ?_
  refine lv_iconst (v := nI 1) hx hb dL_law_1094 (by decide) ?_
  refine lv_iadd hx hb dL_law_1095 ?_
  refine va_sld hx hb hX hbl hbA hS (lw_in hL hi (Nat.le_of_ble_eq_true rfl)) dL_law_1096 ?_
  refine lv_aload_n hx hb dL_law_1097 rfl (lv_at hl 3 rfl) ?_
  refine lv_iload_n hx hb dL_law_1098 rfl (lv_at hl 0 rfl) ?_
  refine lv_iconst (v := nI 2) hx hb dL_law_1099 (by decide) ?_
  refine lv_iadd hx hb dL_law_1100 ?_
  refine va_sld hx hb hX hbl hbA hS (lw_in hL hi (Nat.le_of_ble_eq_true rfl)) dL_law_1101 ?_
  refine lw_cB (As := [.int (xs (nI i + nI 1).toNatClampNeg), .int (xs (nI i + nI 2).toNatClampNeg)]) (cb := [wb12 cI cZ a M N]) (cb' := [wb12 cI cZ a (upd M 11 (w.2.2)) (bs_up2 N 11 (w.2.1))]) (bl1 := wb cI cZ cS cG a g (upd (upd (upd (upd (upd X 42 (z.2.2.1)) 43 (z.2.2.2.1)) 44 (z.2.2.2.2.1)) 45 (z.2.2.2.2.2.1)) 46 (z.2.2.2.2.2.2)) (bs_up2 Y 42 (z.2.1)) G (upd M 11 (w.2.2)) (bs_up2 N 11 (w.2.1))) ⟨hx, hb, hml, hown, hts⟩ (k_X7_ask l dC dI cI cZ cS cG (a 58) (a 59) (a 60) (a 61) (a 62) (a 63) (a 64) (a 65) (a 66) (a 67) (a 68) (a 69) (a 70) (N 0) (N 1) (N 2) (M 0) (M 1) (N 3) (N 4) (N 5) (M 2) (M 3) (M 4) (M 5) (M 6) (M 7) (M 8) (N 6) (N 7) (M 9) (N 8) (M 10) (N 9) (N 10) (N 11) (M 11) (xs (nI i + nI 1).toNatClampNeg) (xs (nI i + nI 2).toNatClampNeg) w e2) (cwV 2 hts gL_law_X7_ask rfl rfl rfl (by decide +kernel) ⟨Nat.le_of_ble_eq_true rfl, Nat.le_of_ble_eq_true rfl⟩) hE hP hD hA hS [12] (by decide) rfl 7 0 rfl rfl rfl rfl wb_f rfl rfl hl.1 (Nat.le_of_ble_eq_true rfl) dL_law_1102 ⟨Nat.le_of_ble_eq_true rfl, Nat.le_of_ble_eq_true rfl⟩ (fun H locs hP hD hS => ?_)
  refine lv_icmp_eq (tgt := 1169) hx hb dL_law_1105 (by decide) (fun _ => ?_) (fun c9 => absurd e3 c9)
  exact kk _ _ _ _ _ H locs hP hD hS hR1
set_option maxHeartbeats 4000000 in
set_option maxRecDepth 100000 in
theorem lc_trace (C0 : lw_At p s m meth c b L xs) (hE : bs_E dC dI cI cZ cS cG s) (hP : va_P (dC, dI) vwCl (wb cI cZ cS cG a g X Y G M N).flatten H) (hD : va_D (fun q : Nat => s.heap.size ≤ q) (wb cI cZ cS cG a g X Y G M N).flatten) (hS : va_S (fun q : Nat => s.heap.size ≤ q) s.heap H locs) (hR : RR X Y G M N) (hL : L ≤ 3072) (hi : i + 5 < L) (hl : lv_has ls 4 [(3, .int (nI i)), (2, .ref (a 58)), (1, .ref (a 0)), (0, .ref b)]) (kk : lw_K p l e s m below meth c b dC dI cI cZ cS cG a g ls Q) : W p l e room_1 s m #[Value.ref b] below meth c H locs 600000 7302250 Q (F0 m 1110 ls []) := by
  obtain ⟨hx, hb, hr, hml, hown, hts0, hX, hbl, hlocks, hgv⟩ := C0
  have hts : ∀ w ∈ wsL_law, w.before #[Value.ref b] s = true := fun w hw => hts0 w (wsL_law_in w hw)
  have hA : ∀ q : Nat, s.heap.size ≤ q → (fun q : Nat => s.heap.size ≤ q) q := fun _ h => h
  have hbA : ¬ (fun q : Nat => s.heap.size ≤ q) b := Nat.not_le.mpr hbl
  obtain ⟨z, w, e1, e2, e3, hR1⟩ := rs_trace hR (xs (nI i + nI 1).toNatClampNeg)
  refine lv_aload_n hx hb dL_law_1110 rfl (lv_at hl 2 rfl) ?_
  refine lv_aload_n hx hb dL_law_1111 rfl (lv_at hl 3 rfl) ?_
  refine lv_iload_n hx hb dL_law_1112 rfl (lv_at hl 0 rfl) ?_
  refine lv_iconst (v := nI 1) hx hb dL_law_1113 (by decide) ?_
  refine lv_iadd hx hb dL_law_1114 ?_
  refine va_sld hx hb hX hbl hbA hS (lw_in hL hi (Nat.le_of_ble_eq_true rfl)) dL_law_1115 ?_
  refine lw_cBR (As := [.int (xs (nI i + nI 1).toNatClampNeg)]) (cb := [wb0 cI cS cG a g X Y, wb11 cI cS cG a g X Y]) ⟨hx, hb, hml, hown, hts⟩ (k_X6_trace l dC dI cI cZ cS cG (a 0) (a 1) (a 5) (a 7) (a 15) (a 23) (a 31) (a 48) (a 53) (a 56) (a 57) (X 0) (X 1) (Y 42) (X 42) (X 43) (X 44) (X 45) (X 46) (xs (nI i + nI 1).toNatClampNeg) z e1) (cwV 1 hts gL_law_X6_trace rfl rfl rfl (by decide +kernel) ⟨Nat.le_of_ble_eq_true rfl, Nat.le_of_ble_eq_true rfl⟩) hE hP hD hA hS [0, 11] (by decide) rfl 6 0 rfl rfl rfl rfl hl.1 (Nat.le_of_ble_eq_true rfl) dL_law_1116 ⟨Nat.le_of_ble_eq_true rfl, Nat.le_of_ble_eq_true rfl⟩ (fun H locs hP hD hS => ?_)
  refine lv_aload_n hx hb dL_law_1119 rfl (lv_at hl 1 rfl) ?_
  refine lv_aload_n hx hb dL_law_1120 rfl (lv_at hl 3 rfl) ?_
  refine lv_iload_n hx hb dL_law_1121 rfl (lv_at hl 0 rfl) ?_
  refine lv_iconst (v := nI 1) hx hb dL_law_1122 (by decide) ?_
  refine lv_iadd hx hb dL_law_1123 ?_
  refine va_sld hx hb hX hbl hbA hS (lw_in hL hi (Nat.le_of_ble_eq_true rfl)) dL_law_1124 ?_
  refine lw_cBR (As := [.int (xs (nI i + nI 1).toNatClampNeg)]) (cb := [wb12 cI cZ a M N]) ⟨hx, hb, hml, hown, hts⟩ (k_X7_trace l dC dI cI cZ cS cG (a 58) (a 59) (a 60) (a 61) (a 62) (a 63) (a 64) (a 65) (a 66) (a 67) (a 68) (a 69) (a 70) (N 0) (N 1) (N 2) (M 0) (M 1) (N 3) (N 4) (N 5) (M 2) (M 3) (M 4) (M 5) (M 6) (M 7) (M 8) (N 6) (N 7) (M 9) (N 8) (M 10) (N 9) (N 10) (N 11) (M 11) (xs (nI i + nI 1).toNatClampNeg) w e2) (cwV 1 hts gL_law_X7_trace rfl rfl rfl (by decide +kernel) ⟨Nat.le_of_ble_eq_true rfl, Nat.le_of_ble_eq_true rfl⟩) hE hP hD hA hS [12] (by decide) rfl 7 0 rfl rfl rfl rfl hl.1 (Nat.le_of_ble_eq_true rfl) dL_law_1125 ⟨Nat.le_of_ble_eq_true rfl, Nat.le_of_ble_eq_true rfl⟩ (fun H locs hP hD hS => ?_)
  refine lv_icmp_eq (tgt := 1169) hx hb dL_law_1128 (by decide) (fun _ => ?_) (fun c9 => absurd e3 c9)
  exact kk _ _ _ _ _ H locs hP hD hS hR1
set_option maxHeartbeats 4000000 in
set_option maxRecDepth 100000 in
theorem lc_count (C0 : lw_At p s m meth c b L xs) (hE : bs_E dC dI cI cZ cS cG s) (hP : va_P (dC, dI) vwCl (wb cI cZ cS cG a g X Y G M N).flatten H) (hD : va_D (fun q : Nat => s.heap.size ≤ q) (wb cI cZ cS cG a g X Y G M N).flatten) (hS : va_S (fun q : Nat => s.heap.size ≤ q) s.heap H locs) (hR : RR X Y G M N) (hL : L ≤ 3072) (hi : i + 5 < L) (hl : lv_has ls 4 [(3, .int (nI i)), (2, .ref (a 58)), (1, .ref (a 0)), (0, .ref b)]) (kk : lw_K p l e s m below meth c b dC dI cI cZ cS cG a g ls Q) : W p l e room_1 s m #[Value.ref b] below meth c H locs 600000 7302250 Q (F0 m 1133 ls []) := by
  obtain ⟨hx, hb, hr, hml, hown, hts0, hX, hbl, hlocks, hgv⟩ := C0
  have hts : ∀ w ∈ wsL_law, w.before #[Value.ref b] s = true := fun w hw => hts0 w (wsL_law_in w hw)
  have hA : ∀ q : Nat, s.heap.size ≤ q → (fun q : Nat => s.heap.size ≤ q) q := fun _ h => h
  have hbA : ¬ (fun q : Nat => s.heap.size ≤ q) b := Nat.not_le.mpr hbl
  obtain ⟨z, w, e1, e2, e3, hR1⟩ := rs_count hR (xs (nI i + nI 1).toNatClampNeg)
  refine lv_aload_n hx hb dL_law_1133 rfl (lv_at hl 2 rfl) ?_
  refine lv_aload_n hx hb dL_law_1134 rfl (lv_at hl 3 rfl) ?_
  refine lv_iload_n hx hb dL_law_1135 rfl (lv_at hl 0 rfl) ?_
  refine lv_iconst (v := nI 1) hx hb dL_law_1136 (by decide) ?_
  refine lv_iadd hx hb dL_law_1137 ?_
  refine va_sld hx hb hX hbl hbA hS (lw_in hL hi (Nat.le_of_ble_eq_true rfl)) dL_law_1138 ?_
  refine lw_cBR (As := [.int (xs (nI i + nI 1).toNatClampNeg)]) (cb := [wb0 cI cS cG a g X Y, wb2 cI cS cG a g X Y, wb3 cI cS cG a g X Y, wb9 cI cS cG a g X Y, wb1 cI cS cG a g X Y, wb13 cI g G]) ⟨hx, hb, hml, hown, hts⟩ (k_X6_count l dC dI cI cZ cS cG (a 0) (a 1) (a 5) (a 7) (a 15) (a 23) (a 31) (a 48) (a 53) (a 56) (a 6) (a 8) (a 9) (a 10) (a 11) (a 12) (a 13) (a 14) (a 49) (a 50) (a 51) (a 52) (a 2) g (a 3) (a 4) (X 0) (X 1) (Y 0) (X 2) (X 3) (X 4) (X 5) (X 6) (X 7) (X 8) (X 9) (X 10) (Y 1) (Y 2) (Y 3) (Y 4) (Y 5) (Y 6) (Y 7) (Y 36) (Y 37) (Y 38) (Y 39) (X 35) (X 36) G (Y 43) (Y 44) (xs (nI i + nI 1).toNatClampNeg) z e1) (cwV 1 hts gL_law_X6_count rfl rfl rfl (by decide +kernel) ⟨Nat.le_of_ble_eq_true rfl, Nat.le_of_ble_eq_true rfl⟩) hE hP hD hA hS [0, 2, 3, 9, 1, 13] (by decide) rfl 6 0 rfl rfl rfl rfl hl.1 (Nat.le_of_ble_eq_true rfl) dL_law_1139 ⟨Nat.le_of_ble_eq_true rfl, Nat.le_of_ble_eq_true rfl⟩ (fun H locs hP hD hS => ?_)
  refine lv_aload_n hx hb dL_law_1142 rfl (lv_at hl 1 rfl) ?_
  refine lv_aload_n hx hb dL_law_1143 rfl (lv_at hl 3 rfl) ?_
  refine lv_iload_n hx hb dL_law_1144 rfl (lv_at hl 0 rfl) ?_
  refine lv_iconst (v := nI 1) hx hb dL_law_1145 (by decide) ?_
  refine lv_iadd hx hb dL_law_1146 ?_
  refine va_sld hx hb hX hbl hbA hS (lw_in hL hi (Nat.le_of_ble_eq_true rfl)) dL_law_1147 ?_
  refine lw_cBR (As := [.int (xs (nI i + nI 1).toNatClampNeg)]) (cb := [wb12 cI cZ a M N]) ⟨hx, hb, hml, hown, hts⟩ (k_X7_count l dC dI cI cZ cS cG (a 58) (a 59) (a 60) (a 61) (a 62) (a 63) (a 64) (a 65) (a 66) (a 67) (a 68) (a 69) (a 70) (N 0) (N 1) (N 2) (M 0) (M 1) (N 3) (N 4) (N 5) (M 2) (M 3) (M 4) (M 5) (M 6) (M 7) (M 8) (N 6) (N 7) (M 9) (N 8) (M 10) (N 9) (N 10) (N 11) (M 11) (xs (nI i + nI 1).toNatClampNeg) w e2) (cwV 1 hts gL_law_X7_count rfl rfl rfl (by decide +kernel) ⟨Nat.le_of_ble_eq_true rfl, Nat.le_of_ble_eq_true rfl⟩) hE hP hD hA hS [12] (by decide) rfl 7 0 rfl rfl rfl rfl hl.1 (Nat.le_of_ble_eq_true rfl) dL_law_1148 ⟨Nat.le_of_ble_eq_true rfl, Nat.le_of_ble_eq_true rfl⟩ (fun H locs hP hD hS => ?_)
  refine lv_icmp_eq (tgt := 1169) hx hb dL_law_1151 (by decide) (fun _ => ?_) (fun c9 => absurd e3 c9)
  exact kk _ _ _ _ _ H locs hP hD hS hR1
set_option maxHeartbeats 4000000 in
set_option maxRecDepth 100000 in
theorem lc_status (C0 : lw_At p s m meth c b L xs) (hE : bs_E dC dI cI cZ cS cG s) (hP : va_P (dC, dI) vwCl (wb cI cZ cS cG a g X Y G M N).flatten H) (hD : va_D (fun q : Nat => s.heap.size ≤ q) (wb cI cZ cS cG a g X Y G M N).flatten) (hS : va_S (fun q : Nat => s.heap.size ≤ q) s.heap H locs) (hR : RR X Y G M N) (hL : L ≤ 3072) (hi : i + 5 < L) (hl : lv_has ls 4 [(3, .int (nI i)), (2, .ref (a 58)), (1, .ref (a 0)), (0, .ref b)]) (kk : lw_K p l e s m below meth c b dC dI cI cZ cS cG a g ls Q) : W p l e room_1 s m #[Value.ref b] below meth c H locs 600000 7302250 Q (F0 m 1156 ls []) := by
  obtain ⟨hx, hb, hr, hml, hown, hts0, hX, hbl, hlocks, hgv⟩ := C0
  have hts : ∀ w ∈ wsL_law, w.before #[Value.ref b] s = true := fun w hw => hts0 w (wsL_law_in w hw)
  have hA : ∀ q : Nat, s.heap.size ≤ q → (fun q : Nat => s.heap.size ≤ q) q := fun _ h => h
  have hbA : ¬ (fun q : Nat => s.heap.size ≤ q) b := Nat.not_le.mpr hbl
  obtain ⟨z, w, e1, e2, e3, hR1⟩ := rs_status hR
  refine lv_aload_n hx hb dL_law_1156 rfl (lv_at hl 2 rfl) ?_
  refine lw_cBR (As := []) (cb := [wb0 cI cS cG a g X Y]) ⟨hx, hb, hml, hown, hts⟩ (k_X6_status l dC dI cI cZ cS cG (a 0) (a 1) (a 5) (a 7) (a 15) (a 23) (a 31) (a 48) (a 53) (a 56) (X 0) (X 1) z e1) (cwV 0 hts gL_law_X6_status rfl rfl rfl (by decide +kernel) ⟨Nat.le_of_ble_eq_true rfl, Nat.le_of_ble_eq_true rfl⟩) hE hP hD hA hS [0] (by decide) rfl 6 0 rfl rfl rfl rfl hl.1 (Nat.le_of_ble_eq_true rfl) dL_law_1157 ⟨Nat.le_of_ble_eq_true rfl, Nat.le_of_ble_eq_true rfl⟩ (fun H locs hP hD hS => ?_)
  refine lv_aload_n hx hb dL_law_1160 rfl (lv_at hl 1 rfl) ?_
  refine lw_cBR (As := []) (cb := [wb12 cI cZ a M N]) ⟨hx, hb, hml, hown, hts⟩ (k_X7_status l dC dI cI cZ cS cG (a 58) (a 59) (a 60) (a 61) (a 62) (a 63) (a 64) (a 65) (a 66) (a 67) (a 68) (a 69) (a 70) (N 0) (N 1) (N 2) (M 0) (M 1) (N 3) (N 4) (N 5) (M 2) (M 3) (M 4) (M 5) (M 6) (M 7) (M 8) (N 6) (N 7) (M 9) (N 8) (M 10) (N 9) (N 10) (N 11) (M 11) w e2) (cwV 0 hts gL_law_X7_status rfl rfl rfl (by decide +kernel) ⟨Nat.le_of_ble_eq_true rfl, Nat.le_of_ble_eq_true rfl⟩) hE hP hD hA hS [12] (by decide) rfl 7 0 rfl rfl rfl rfl hl.1 (Nat.le_of_ble_eq_true rfl) dL_law_1161 ⟨Nat.le_of_ble_eq_true rfl, Nat.le_of_ble_eq_true rfl⟩ (fun H locs hP hD hS => ?_)
  refine lv_icmp_eq (tgt := 1169) hx hb dL_law_1164 (by decide) (fun _ => ?_) (fun c9 => absurd e3 c9)
  exact kk _ _ _ _ _ H locs hP hD hS hR1
end LC
