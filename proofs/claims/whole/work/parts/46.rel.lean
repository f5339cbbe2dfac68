/-! the two objects together: their cells, the relation, one row a method -/
def wb0 (cI cS cG : ClassId) (a g : Nat → Nat) (X : Nat → Int32) (Y : Nat → Nat → Int32) : va_W := [(a 0, .inr (6, [.ref (a 1), .ref (a 5), .ref (a 7), .ref (a 15), .ref (a 23), .ref (a 31), .ref (a 48), .ref (a 53), .ref (a 56), .int (X 0), .int (X 1)]))]
def wb1 (cI cS cG : ClassId) (a g : Nat → Nat) (X : Nat → Int32) (Y : Nat → Nat → Int32) : va_W := [(a 1, .inr (3, [.ref (a 2), .ref (a 3), .ref (a 4)])), (a 2, .inl (cG, 8, .inr (.inr (.inr (.inr (fun j : Nat => if j < 8 then some (g j) else none)))))), (a 3, .inl (cI, 8, .inl (Y 43))), (a 4, .inl (cI, 8, .inl (Y 44)))]
def wb2 (cI cS cG : ClassId) (a g : Nat → Nat) (X : Nat → Int32) (Y : Nat → Nat → Int32) : va_W := [(a 5, .inr (5, [.ref (a 6), .int (X 2), .int (X 3), .int (X 4)])), (a 6, .inl (cI, 120, .inl (Y 0)))]
def wb3 (cI cS cG : ClassId) (a g : Nat → Nat) (X : Nat → Int32) (Y : Nat → Nat → Int32) : va_W := [(a 7, .inr (4, [.int (X 5), .int (X 6), .int (X 7), .int (X 8), .int (X 9), .int (X 10), .ref (a 8), .ref (a 9), .ref (a 10), .ref (a 11), .ref (a 12), .ref (a 13), .ref (a 14)])), (a 8, .inl (cI, 4, .inl (Y 1))), (a 9, .inl (cI, 8, .inl (Y 2))), (a 10, .inl (cI, 8, .inl (Y 3))), (a 11, .inl (cI, 8, .inl (Y 4))), (a 12, .inl (cI, 8, .inl (Y 5))), (a 13, .inl (cI, 8, .inl (Y 6))), (a 14, .inl (cI, 8, .inl (Y 7)))]
def wb4 (cI cS cG : ClassId) (a g : Nat → Nat) (X : Nat → Int32) (Y : Nat → Nat → Int32) : va_W := [(a 15, .inr (4, [.int (X 11), .int (X 12), .int (X 13), .int (X 14), .int (X 15), .int (X 16), .ref (a 16), .ref (a 17), .ref (a 18), .ref (a 19), .ref (a 20), .ref (a 21), .ref (a 22)])), (a 16, .inl (cI, 4, .inl (Y 8))), (a 17, .inl (cI, 8, .inl (Y 9))), (a 18, .inl (cI, 8, .inl (Y 10))), (a 19, .inl (cI, 8, .inl (Y 11))), (a 20, .inl (cI, 8, .inl (Y 12))), (a 21, .inl (cI, 8, .inl (Y 13))), (a 22, .inl (cI, 8, .inl (Y 14)))]
def wb5 (cI cS cG : ClassId) (a g : Nat → Nat) (X : Nat → Int32) (Y : Nat → Nat → Int32) : va_W := [(a 23, .inr (4, [.int (X 17), .int (X 18), .int (X 19), .int (X 20), .int (X 21), .int (X 22), .ref (a 24), .ref (a 25), .ref (a 26), .ref (a 27), .ref (a 28), .ref (a 29), .ref (a 30)])), (a 24, .inl (cI, 4, .inl (Y 15))), (a 25, .inl (cI, 8, .inl (Y 16))), (a 26, .inl (cI, 8, .inl (Y 17))), (a 27, .inl (cI, 8, .inl (Y 18))), (a 28, .inl (cI, 8, .inl (Y 19))), (a 29, .inl (cI, 8, .inl (Y 20))), (a 30, .inl (cI, 8, .inl (Y 21)))]
def wb6 (cI cS cG : ClassId) (a g : Nat → Nat) (X : Nat → Int32) (Y : Nat → Nat → Int32) : va_W := [(a 31, .inl (cS, 2, .inr (.inr (.inr (.inr (fun j : Nat => if j = 0 then some (a 32) else some (a 40)))))))]
def wb7 (cI cS cG : ClassId) (a g : Nat → Nat) (X : Nat → Int32) (Y : Nat → Nat → Int32) : va_W := [(a 32, .inr (4, [.int (X 23), .int (X 24), .int (X 25), .int (X 26), .int (X 27), .int (X 28), .ref (a 33), .ref (a 34), .ref (a 35), .ref (a 36), .ref (a 37), .ref (a 38), .ref (a 39)])), (a 33, .inl (cI, 4, .inl (Y 22))), (a 34, .inl (cI, 8, .inl (Y 23))), (a 35, .inl (cI, 8, .inl (Y 24))), (a 36, .inl (cI, 8, .inl (Y 25))), (a 37, .inl (cI, 8, .inl (Y 26))), (a 38, .inl (cI, 8, .inl (Y 27))), (a 39, .inl (cI, 8, .inl (Y 28)))]
def wb8 (cI cS cG : ClassId) (a g : Nat → Nat) (X : Nat → Int32) (Y : Nat → Nat → Int32) : va_W := [(a 40, .inr (4, [.int (X 29), .int (X 30), .int (X 31), .int (X 32), .int (X 33), .int (X 34), .ref (a 41), .ref (a 42), .ref (a 43), .ref (a 44), .ref (a 45), .ref (a 46), .ref (a 47)])), (a 41, .inl (cI, 4, .inl (Y 29))), (a 42, .inl (cI, 8, .inl (Y 30))), (a 43, .inl (cI, 8, .inl (Y 31))), (a 44, .inl (cI, 8, .inl (Y 32))), (a 45, .inl (cI, 8, .inl (Y 33))), (a 46, .inl (cI, 8, .inl (Y 34))), (a 47, .inl (cI, 8, .inl (Y 35)))]
def wb9 (cI cS cG : ClassId) (a g : Nat → Nat) (X : Nat → Int32) (Y : Nat → Nat → Int32) : va_W := [(a 48, .inr (0, [.ref (a 49), .ref (a 50), .ref (a 51), .ref (a 52), .int (X 35), .int (X 36)])), (a 49, .inl (cI, 24, .inl (Y 36))), (a 50, .inl (cI, 24, .inl (Y 37))), (a 51, .inl (cI, 24, .inl (Y 38))), (a 52, .inl (cI, 24, .inl (Y 39)))]
def wb10 (cI cS cG : ClassId) (a g : Nat → Nat) (X : Nat → Int32) (Y : Nat → Nat → Int32) : va_W := [(a 53, .inr (2, [.ref (a 54), .ref (a 55), .int (X 37), .int (X 38), .int (X 39), .int (X 40), .int (X 41)])), (a 54, .inl (cI, 8, .inl (Y 40))), (a 55, .inl (cI, 8, .inl (Y 41)))]
def wb11 (cI cS cG : ClassId) (a g : Nat → Nat) (X : Nat → Int32) (Y : Nat → Nat → Int32) : va_W := [(a 56, .inr (1, [.ref (a 57), .int (X 42), .int (X 43), .int (X 44), .int (X 45), .int (X 46)])), (a 57, .inl (cI, 16, .inl (Y 42)))]
def wb12 (cI cZ : ClassId) (a : Nat → Nat) (M : Nat → Int32) (N : Nat → Nat → Int32) : va_W := [(a 58, .inr (7, [.ref (a 59), .ref (a 60), .ref (a 61), .int (M 0), .int (M 1), .ref (a 62), .ref (a 63), .ref (a 64), .int (M 2), .int (M 3), .int (M 4), .int (M 5), .int (M 6), .int (M 7), .int (M 8), .ref (a 65), .ref (a 66), .int (M 9), .ref (a 67), .int (M 10), .ref (a 68), .ref (a 69), .ref (a 70), .int (M 11)])), (a 59, .inl (cI, 8, .inl (N 0))), (a 60, .inl (cI, 8, .inl (N 1))), (a 61, .inl (cI, 320, .inl (N 2))), (a 62, .inl (cI, 57, .inl (N 3))), (a 63, .inl (cI, 40, .inl (N 4))), (a 64, .inl (cI, 120, .inl (N 5))), (a 65, .inl (cI, 57, .inl (N 6))), (a 66, .inl (cI, 1368, .inl (N 7))), (a 67, .inl (cI, 57, .inl (N 8))), (a 68, .inl (cZ, 2, .inl (N 9))), (a 69, .inl (cI, 114, .inl (N 10))), (a 70, .inl (cI, 16, .inl (N 11)))]
def wb13 (cI : ClassId) (g : Nat → Nat) (G : Nat → Nat → Int32) : va_W := bs_rw cI g G
def wb (cI cZ cS cG : ClassId) (a g : Nat → Nat) (X : Nat → Int32) (Y G : Nat → Nat → Int32) (M : Nat → Int32) (N : Nat → Nat → Int32) : List va_W := [wb0 cI cS cG a g X Y, wb1 cI cS cG a g X Y, wb2 cI cS cG a g X Y, wb3 cI cS cG a g X Y, wb4 cI cS cG a g X Y, wb5 cI cS cG a g X Y, wb6 cI cS cG a g X Y, wb7 cI cS cG a g X Y, wb8 cI cS cG a g X Y, wb9 cI cS cG a g X Y, wb10 cI cS cG a g X Y, wb11 cI cS cG a g X Y, wb12 cI cZ a M N, wb13 cI g G]
theorem wb_f {cI cZ cS cG : ClassId} {a g : Nat → Nat} {X : Nat → Int32} {Y G : Nat → Nat → Int32} {M : Nat → Int32} {N : Nat → Nat → Int32} {X1 : Nat → Int32} {Y1 G1 : Nat → Nat → Int32} {M1 : Nat → Int32} {N1 : Nat → Nat → Int32} : (wb cI cZ cS cG a g X1 Y1 G1 M1 N1).map (List.map Prod.fst) = (wb cI cZ cS cG a g X Y G M N).map (List.map Prod.fst) := rfl
def RR (X : Nat → Int32) (Y G : Nat → Nat → Int32) (M : Nat → Int32) (N : Nat → Nat → Int32) : Prop := ∃ (A : Nat → Nat) (o n m : Nat), R_N A (X 5) (X 6) (X 7) (X 8) (X 9) (X 10) (Y 1) (Y 2) (Y 3) (Y 4) (Y 5) (Y 6) (Y 7) (M 1) (N 3) ∧ R_A A o n (Y 36) (Y 37) (Y 38) (Y 39) (X 35) (X 36) (N 7) (M 9) ∧ R_I 0 (M 1) (X 23) (X 24) (X 25) (X 26) (X 27) (X 28) (Y 22) (Y 23) (Y 24) (Y 25) (Y 26) (Y 27) (Y 28) (N 9) (N 10) ∧ R_I 1 (M 1) (X 29) (X 30) (X 31) (X 32) (X 33) (X 34) (Y 29) (Y 30) (Y 31) (Y 32) (Y 33) (Y 34) (Y 35) (N 9) (N 10) ∧ R_rows (Y 43) (Y 44) G (N 0) (N 1) (N 2) ∧ R_T (Y 0) (X 2) (N 5) (M 2) ∧ m ≤ 16 ∧ X 42 = nI m ∧ M 11 = nI m ∧ ak_tr m (Y 42) (N 11) ∧ X 1 = M 0 ∧ X 0 = M 3 ∧ (X 11 = 0 ∨ X 11 = 1) ∧ (X 17 = 0 ∨ X 17 = 1)
section RS
variable {X : Nat → Int32} {Y G : Nat → Nat → Int32} {M : Nat → Int32} {N : Nat → Nat → Int32}
theorem rs_row (h : RR X Y G M N) (p1 : Int32) (p2 : Int32) (p3 : Int32) : ∃ (z : Int32 × Int32 × (Nat → Nat → Int32) × (Nat → Int32) × (Nat → Int32)) (w : Int32 × (Nat → Int32) × (Nat → Int32) × (Nat → Int32) × Int32), f_X6_row (X 1) G (Y 43) (Y 44) p1 p2 p3 = some z ∧ f_X7_row (N 0) (N 1) (N 2) (M 0) p1 p2 p3 = some w ∧ z.1 = w.1 ∧ RR (upd X 1 (z.2.1)) (bs_up2 (bs_up2 Y 43 (z.2.2.2.1)) 44 (z.2.2.2.2)) (z.2.2.1) (upd M 0 (w.2.2.2.2)) (bs_up2 (bs_up2 (bs_up2 N 0 (w.2.1)) 1 (w.2.2.1)) 2 (w.2.2.2.1)) := by
  obtain ⟨A, o, n, m, hN, hA, h0, h1, hR, hT, hm, h42, h11, htr, hs, hf, hd, ht⟩ := h
  rw [hs]
  obtain ⟨z, w, e1, e2, e3, e4, e5⟩ := e_row hR (M 0) p1 p2 p3
  exact ⟨z, w, e1, e2, e3, A, o, n, m, hN, hA, h0, h1, e5, hT, hm, h42, h11, htr, e4, hf, hd, ht⟩
theorem rs_set (h : RR X Y G M N) (p1 : Int32) (p2 : Int32) (p3 : Int32) : ∃ (z : Int32 × Int32 × (Nat → Nat → Int32)) (w : Int32 × (Nat → Int32) × Int32), f_X6_set (X 1) G (Y 43) (Y 44) p1 p2 p3 = some z ∧ f_X7_set (N 0) (N 1) (N 2) (M 0) p1 p2 p3 = some w ∧ z.1 = w.1 ∧ RR (upd X 1 (z.2.1)) Y (z.2.2) (upd M 0 (w.2.2)) (bs_up2 N 2 (w.2.1)) := by
  obtain ⟨A, o, n, m, hN, hA, h0, h1, hR, hT, hm, h42, h11, htr, hs, hf, hd, ht⟩ := h
  rw [hs]
  obtain ⟨z, w, e1, e2, e3, e4, e5⟩ := e_set hR (M 0) p1 p2 p3
  exact ⟨z, w, e1, e2, e3, A, o, n, m, hN, hA, h0, h1, e5, hT, hm, h42, h11, htr, e4, hf, hd, ht⟩
theorem rs_copy (h : RR X Y G M N) (p1 : Int32) (p2 : Int32) (p3 : Int32) (p4 : Int32) (p5 : Int32) : ∃ (z : Int32 × Int32 × (Nat → Nat → Int32)) (w : Int32 × (Nat → Int32) × Int32 × (Nat → Int32)), f_X6_copy (X 1) G (Y 43) (Y 44) p1 p2 p3 p4 p5 = some z ∧ f_X7_copy (N 0) (N 1) (N 2) (M 0) (N 4) p1 p2 p3 p4 p5 = some w ∧ z.1 = w.1 ∧ RR (upd X 1 (z.2.1)) Y (z.2.2) (upd M 0 (w.2.2.1)) (bs_up2 (bs_up2 N 2 (w.2.1)) 4 (w.2.2.2)) := by
  obtain ⟨A, o, n, m, hN, hA, h0, h1, hR, hT, hm, h42, h11, htr, hs, hf, hd, ht⟩ := h
  rw [hs]
  obtain ⟨z, w, e1, e2, e3, e4, e5⟩ := e_copy hR (N 4) (M 0) p1 p2 p3 p4 p5
  exact ⟨z, w, e1, e2, e3, A, o, n, m, hN, hA, h0, h1, e5, hT, hm, h42, h11, htr, e4, hf, hd, ht⟩
theorem rs_drop (h : RR X Y G M N) (p1 : Int32) : ∃ (z : Int32 × Int32 × (Nat → Int32)) (w : Int32 × (Nat → Int32) × Int32), f_X6_drop (X 1) (Y 44) p1 = some z ∧ f_X7_drop (N 1) (M 0) p1 = some w ∧ z.1 = w.1 ∧ RR (upd X 1 (z.2.1)) (bs_up2 Y 44 (z.2.2)) G (upd M 0 (w.2.2)) (bs_up2 N 1 (w.2.1)) := by
  obtain ⟨A, o, n, m, hN, hA, h0, h1, hR, hT, hm, h42, h11, htr, hs, hf, hd, ht⟩ := h
  rw [hs]
  obtain ⟨z, w, e1, e2, e3, e4, e5⟩ := e_drop hR (M 0) p1
  exact ⟨z, w, e1, e2, e3, A, o, n, m, hN, hA, h0, h1, e5, hT, hm, h42, h11, htr, e4, hf, hd, ht⟩
theorem rs_feed (h : RR X Y G M N) (p1 : Int32) : ∃ (z : Int32 × (Nat → Int32) × Int32) (w : Int32 × (Nat → Int32) × Int32), f_X6_feed (Y 0) (X 2) p1 = some z ∧ f_X7_feed (N 5) (M 2) p1 = some w ∧ z.1 = w.1 ∧ RR (upd X 2 (z.2.2)) (bs_up2 Y 0 (z.2.1)) G (upd M 2 (w.2.2)) (bs_up2 N 5 (w.2.1)) := by
  obtain ⟨A, o, n, m, hN, hA, h0, h1, hR, hT, hm, h42, h11, htr, hs, hf, hd, ht⟩ := h
  obtain ⟨z, w, e1, e2, e3, e4⟩ := tq_feed hT p1
  exact ⟨z, w, e1, e2, e3, A, o, n, m, hN, hA, h0, h1, hR, e4, hm, h42, h11, htr, hs, hf, hd, ht⟩
theorem rs_scales (h : RR X Y G M N) : ∃ (z : Int32 × Int32 × Int32 × Int32 × Int32 × Int32 × Int32 × Int32 × Int32 × Int32 × Int32 × (Nat → Int32) × (Nat → Int32) × (Nat → Int32) × (Nat → Int32) × (Nat → Int32) × (Nat → Int32) × (Nat → Int32) × Int32 × Int32 × Int32 × Int32 × Int32 × Int32 × (Nat → Int32) × (Nat → Int32) × (Nat → Int32) × (Nat → Int32) × (Nat → Int32) × (Nat → Int32) × (Nat → Int32) × Int32 × Int32) (w : Int32 × Int32 × (Nat → Int32) × Int32 × Int32 × Int32 × Int32 × Int32 × Int32 × Int32 × (Nat → Int32) × Int32), f_X6_scales (X 0) (Y 0) (X 2) (X 3) (X 4) (X 5) (X 6) (X 7) (X 8) (X 9) (X 10) (Y 1) (Y 2) (Y 3) (Y 4) (Y 5) (Y 6) (Y 7) (X 11) (X 12) (X 13) (X 14) (X 15) (X 16) (Y 8) (Y 9) (Y 10) (Y 11) (Y 12) (Y 13) (Y 14) (X 35) (X 36) = some z ∧ f_X7_scales (M 1) (N 3) (N 5) (M 2) (M 3) (M 4) (M 5) (M 6) (M 7) (M 8) (N 6) (M 9) = some w ∧ z.1 = w.1 ∧ RR (upd (upd (upd (upd (upd (upd (upd (upd (upd (upd (upd (upd (upd (upd (upd (upd (upd (upd X 0 (z.2.1)) 2 (z.2.2.1)) 3 (z.2.2.2.1)) 4 (z.2.2.2.2.1)) 5 (z.2.2.2.2.2.1)) 6 (z.2.2.2.2.2.2.1)) 7 (z.2.2.2.2.2.2.2.1)) 8 (z.2.2.2.2.2.2.2.2.1)) 9 (z.2.2.2.2.2.2.2.2.2.1)) 10 (z.2.2.2.2.2.2.2.2.2.2.1)) 11 (z.2.2.2.2.2.2.2.2.2.2.2.2.2.2.2.2.2.2.1)) 12 (z.2.2.2.2.2.2.2.2.2.2.2.2.2.2.2.2.2.2.2.1)) 13 (z.2.2.2.2.2.2.2.2.2.2.2.2.2.2.2.2.2.2.2.2.1)) 14 (z.2.2.2.2.2.2.2.2.2.2.2.2.2.2.2.2.2.2.2.2.2.1)) 15 (z.2.2.2.2.2.2.2.2.2.2.2.2.2.2.2.2.2.2.2.2.2.2.1)) 16 (z.2.2.2.2.2.2.2.2.2.2.2.2.2.2.2.2.2.2.2.2.2.2.2.1)) 35 (z.2.2.2.2.2.2.2.2.2.2.2.2.2.2.2.2.2.2.2.2.2.2.2.2.2.2.2.2.2.2.2.1)) 36 (z.2.2.2.2.2.2.2.2.2.2.2.2.2.2.2.2.2.2.2.2.2.2.2.2.2.2.2.2.2.2.2.2)) (bs_up2 (bs_up2 (bs_up2 (bs_up2 (bs_up2 (bs_up2 (bs_up2 (bs_up2 (bs_up2 (bs_up2 (bs_up2 (bs_up2 (bs_up2 (bs_up2 Y 1 (z.2.2.2.2.2.2.2.2.2.2.2.1)) 2 (z.2.2.2.2.2.2.2.2.2.2.2.2.1)) 3 (z.2.2.2.2.2.2.2.2.2.2.2.2.2.1)) 4 (z.2.2.2.2.2.2.2.2.2.2.2.2.2.2.1)) 5 (z.2.2.2.2.2.2.2.2.2.2.2.2.2.2.2.1)) 6 (z.2.2.2.2.2.2.2.2.2.2.2.2.2.2.2.2.1)) 7 (z.2.2.2.2.2.2.2.2.2.2.2.2.2.2.2.2.2.1)) 8 (z.2.2.2.2.2.2.2.2.2.2.2.2.2.2.2.2.2.2.2.2.2.2.2.2.1)) 9 (z.2.2.2.2.2.2.2.2.2.2.2.2.2.2.2.2.2.2.2.2.2.2.2.2.2.1)) 10 (z.2.2.2.2.2.2.2.2.2.2.2.2.2.2.2.2.2.2.2.2.2.2.2.2.2.2.1)) 11 (z.2.2.2.2.2.2.2.2.2.2.2.2.2.2.2.2.2.2.2.2.2.2.2.2.2.2.2.1)) 12 (z.2.2.2.2.2.2.2.2.2.2.2.2.2.2.2.2.2.2.2.2.2.2.2.2.2.2.2.2.1)) 13 (z.2.2.2.2.2.2.2.2.2.2.2.2.2.2.2.2.2.2.2.2.2.2.2.2.2.2.2.2.2.1)) 14 (z.2.2.2.2.2.2.2.2.2.2.2.2.2.2.2.2.2.2.2.2.2.2.2.2.2.2.2.2.2.2.1)) G (upd (upd (upd (upd (upd (upd (upd (upd (upd M 1 (w.2.1)) 2 (w.2.2.2.1)) 3 (w.2.2.2.2.1)) 4 (w.2.2.2.2.2.1)) 5 (w.2.2.2.2.2.2.1)) 6 (w.2.2.2.2.2.2.2.1)) 7 (w.2.2.2.2.2.2.2.2.1)) 8 (w.2.2.2.2.2.2.2.2.2.1)) 9 (w.2.2.2.2.2.2.2.2.2.2.2)) (bs_up2 (bs_up2 N 3 (w.2.2.1)) 6 (w.2.2.2.2.2.2.2.2.2.2.1)) := by
  obtain ⟨A, o, n, m, hN, hA, h0, h1, hR, hT, hm, h42, h11, htr, hs, hf, hd, ht⟩ := h
  rw [hf]
  obtain ⟨z, w, B, o', n', e1, e2, e3, e4, e5, e6, e7, e8, e9⟩ := tq_scales hN hA hT (M 3) (X 3) (X 4) (X 11) (X 12) (X 13) (X 14) (X 15) (X 16) (Y 8) (Y 9) (Y 10) (Y 11) (Y 12) (Y 13) (Y 14) (M 4) (M 5) (M 6) (M 7) (M 8) (N 6)
  have h0' : R_I 0 w.2.1 (X 23) (X 24) (X 25) (X 26) (X 27) (X 28) (Y 22) (Y 23) (Y 24) (Y 25) (Y 26) (Y 27) (Y 28) (N 9) (N 10) := by
    rcases e9 with e | e <;> rw [e]
    · exact h0
    · exact h0.told
  have h1' : R_I 1 w.2.1 (X 29) (X 30) (X 31) (X 32) (X 33) (X 34) (Y 29) (Y 30) (Y 31) (Y 32) (Y 33) (Y 34) (Y 35) (N 9) (N 10) := by
    rcases e9 with e | e <;> rw [e]
    · exact h1
    · exact h1.told
  exact ⟨z, w, e1, e2, e3, B, o', n', m, e6, e8, h0', h1', hR, e5, hm, h42, h11, htr, hs, e4, Or.inr e7, ht⟩
theorem rs_fault (h : RR X Y G M N) : ∃ (z : Int32) (w : Int32), f_X6_fault (X 0) = some z ∧ f_X7_fault (M 3) = some w ∧ z = w ∧ RR X Y G M N := by
  obtain ⟨A, o, n, m, hN, hA, h0, h1, hR, hT, hm, h42, h11, htr, hs, hf, hd, ht⟩ := h
  exact ⟨_, _, rfl, rfl, hf, A, o, n, m, hN, hA, h0, h1, hR, hT, hm, h42, h11, htr, hs, hf, hd, ht⟩
theorem rs_lay (h : RR X Y G M N) (p1 : Int32) (p2 : Int32) : ∃ (z : Int32 × Int32 × (Nat → Int32) × (Nat → Int32) × (Nat → Int32) × (Nat → Int32) × Int32 × Int32) (w : Int32 × (Nat → Int32) × (Nat → Int32) × Int32), f_X6_lay (X 6) (X 7) (X 9) (X 10) (Y 1) (Y 2) (Y 5) (Y 6) (Y 7) (Y 36) (Y 37) (Y 38) (Y 39) (X 35) (X 36) p1 p2 = some z ∧ f_X7_lay (N 3) (N 7) (M 9) p1 p2 = some w ∧ z.1 = w.1 ∧ RR (upd (upd (upd X 10 (z.2.1)) 35 (z.2.2.2.2.2.2.1)) 36 (z.2.2.2.2.2.2.2)) (bs_up2 (bs_up2 (bs_up2 (bs_up2 Y 36 (z.2.2.1)) 37 (z.2.2.2.1)) 38 (z.2.2.2.2.1)) 39 (z.2.2.2.2.2.1)) G (upd M 9 (w.2.2.2)) (bs_up2 (bs_up2 N 3 (w.2.1)) 7 (w.2.2.1)) := by
  obtain ⟨A, o, n, m, hN, hA, h0, h1, hR, hT, hm, h42, h11, htr, hs, hf, hd, ht⟩ := h
  obtain ⟨z, w, B, o', n', e1, e2, e3, e4, e5⟩ := tq_lay hN hA p1 p2
  exact ⟨z, w, e1, e2, e3, B, o', n', m, e4, e5, h0, h1, hR, hT, hm, h42, h11, htr, hs, hf, hd, ht⟩
theorem rs_settle (h : RR X Y G M N) (p1 : Int32) (p2 : Int32) : ∃ (z : Int32 × Int32 × (Nat → Int32) × (Nat → Int32) × (Nat → Int32) × (Nat → Int32) × (Nat → Int32) × (Nat → Int32) × Int32 × Int32) (w : Int32 × (Nat → Int32) × (Nat → Int32) × Int32), f_X6_settle (X 6) (X 9) (X 10) (Y 1) (Y 2) (Y 7) (Y 36) (Y 37) (Y 38) (Y 39) (X 35) (X 36) p1 p2 = some z ∧ f_X7_settle (N 3) (N 7) (M 9) p1 p2 = some w ∧ z.1 = w.1 ∧ RR (upd (upd (upd X 10 (z.2.1)) 35 (z.2.2.2.2.2.2.2.2.1)) 36 (z.2.2.2.2.2.2.2.2.2)) (bs_up2 (bs_up2 (bs_up2 (bs_up2 (bs_up2 (bs_up2 Y 1 (z.2.2.1)) 7 (z.2.2.2.1)) 36 (z.2.2.2.2.1)) 37 (z.2.2.2.2.2.1)) 38 (z.2.2.2.2.2.2.1)) 39 (z.2.2.2.2.2.2.2.1)) G (upd M 9 (w.2.2.2)) (bs_up2 (bs_up2 N 3 (w.2.1)) 7 (w.2.2.1)) := by
  obtain ⟨A, o, n, m, hN, hA, h0, h1, hR, hT, hm, h42, h11, htr, hs, hf, hd, ht⟩ := h
  obtain ⟨z, w, B, o', n', e1, e2, e3, e4, e5⟩ := tq_settle hN hA p1 p2
  exact ⟨z, w, e1, e2, e3, B, o', n', m, e4, e5, h0, h1, hR, hT, hm, h42, h11, htr, hs, hf, hd, ht⟩
theorem rs_wax (h : RR X Y G M N) (p1 : Int32) : ∃ (z : Int32 × Int32 × (Nat → Int32) × (Nat → Int32) × (Nat → Int32) × (Nat → Int32) × Int32 × Int32) (w : Int32 × (Nat → Int32) × (Nat → Int32) × Int32), f_X6_wax (X 5) (X 6) (X 10) (Y 1) (Y 2) (Y 36) (Y 37) (Y 38) (Y 39) (X 35) (X 36) p1 = some z ∧ f_X7_wax (M 1) (N 3) (N 7) (M 9) p1 = some w ∧ z.1 = w.1 ∧ RR (upd (upd (upd X 6 (z.2.1)) 35 (z.2.2.2.2.2.2.1)) 36 (z.2.2.2.2.2.2.2)) (bs_up2 (bs_up2 (bs_up2 (bs_up2 Y 36 (z.2.2.1)) 37 (z.2.2.2.1)) 38 (z.2.2.2.2.1)) 39 (z.2.2.2.2.2.1)) G (upd M 9 (w.2.2.2)) (bs_up2 (bs_up2 N 3 (w.2.1)) 7 (w.2.2.1)) := by
  obtain ⟨A, o, n, m, hN, hA, h0, h1, hR, hT, hm, h42, h11, htr, hs, hf, hd, ht⟩ := h
  obtain ⟨z, w, B, o', n', e1, e2, e3, e4, e5⟩ := tq_wax hN hA p1
  exact ⟨z, w, e1, e2, e3, B, o', n', m, e4, e5, h0, h1, hR, hT, hm, h42, h11, htr, hs, hf, hd, ht⟩
theorem rs_undo (h : RR X Y G M N) : ∃ (z : Int32 × Int32 × Int32 × (Nat → Int32) × (Nat → Int32) × Int32) (w : Int32 × (Nat → Int32) × Int32), f_X6_undo (X 6) (X 10) (Y 1) (Y 2) (Y 7) (Y 36) (Y 37) (Y 38) (Y 39) (X 35) (X 36) = some z ∧ f_X7_undo (N 3) (N 7) (M 9) = some w ∧ z.1 = w.1 ∧ RR (upd (upd (upd X 6 (z.2.1)) 10 (z.2.2.1)) 36 (z.2.2.2.2.2)) (bs_up2 (bs_up2 Y 1 (z.2.2.2.1)) 7 (z.2.2.2.2.1)) G (upd M 9 (w.2.2)) (bs_up2 N 3 (w.2.1)) := by
  obtain ⟨A, o, n, m, hN, hA, h0, h1, hR, hT, hm, h42, h11, htr, hs, hf, hd, ht⟩ := h
  obtain ⟨z, w, B, o', n', e1, e2, e3, e4, e5⟩ := tq_undo hN hA 
  exact ⟨z, w, e1, e2, e3, B, o', n', m, e4, e5, h0, h1, hR, hT, hm, h42, h11, htr, hs, hf, hd, ht⟩
theorem rs_promise (h : RR X Y G M N) (p1 : Int32) (p2 : Int32) : ∃ (z : Int32) (w : Int32), f_X6_promise (X 9) (X 10) (Y 1) (Y 2) (Y 3) (Y 4) (Y 5) (Y 6) (Y 7) p1 p2 = some z ∧ f_X7_promise (N 3) p1 p2 = some w ∧ z = w ∧ RR X Y G M N := by
  obtain ⟨A, o, n, m, hN, hA, h0, h1, hR, hT, hm, h42, h11, htr, hs, hf, hd, ht⟩ := h
  obtain ⟨r, e1, e2⟩ := tq_promise hN p1 p2
  exact ⟨r, r, e1, e2, rfl, A, o, n, m, hN, hA, h0, h1, hR, hT, hm, h42, h11, htr, hs, hf, hd, ht⟩
theorem rs_keeps (h : RR X Y G M N) (p1 : Int32) : ∃ (z : Int32) (w : Int32), f_X6_keeps (X 8) (Y 1) p1 = some z ∧ f_X7_keeps (N 3) p1 = some w ∧ z = w ∧ RR X Y G M N := by
  obtain ⟨A, o, n, m, hN, hA, h0, h1, hR, hT, hm, h42, h11, htr, hs, hf, hd, ht⟩ := h
  obtain ⟨r, e1, e2⟩ := tq_keeps hN p1
  exact ⟨r, r, e1, e2, rfl, A, o, n, m, hN, hA, h0, h1, hR, hT, hm, h42, h11, htr, hs, hf, hd, ht⟩
theorem rs_reads (h : RR X Y G M N) (p1 : Int32) : ∃ (z : Int32) (w : Int32), f_X6_reads (X 5) (X 6) (X 7) (X 9) (Y 1) (Y 2) (Y 5) (Y 6) (Y 7) p1 = some z ∧ f_X7_reads (M 1) (N 3) p1 = some w ∧ z = w ∧ RR X Y G M N := by
  obtain ⟨A, o, n, m, hN, hA, h0, h1, hR, hT, hm, h42, h11, htr, hs, hf, hd, ht⟩ := h
  obtain ⟨r, e1, e2⟩ := tq_reads hN p1
  exact ⟨r, r, e1, e2, rfl, A, o, n, m, hN, hA, h0, h1, hR, hT, hm, h42, h11, htr, hs, hf, hd, ht⟩
theorem rs_clash (h : RR X Y G M N) (p1 : Int32) : ∃ (z : Int32) (w : Int32), f_X6_clash (X 5) (X 9) (Y 2) (Y 3) (Y 4) (Y 7) p1 = some z ∧ f_X7_clash (M 1) (N 3) p1 = some w ∧ z = w ∧ RR X Y G M N := by
  obtain ⟨A, o, n, m, hN, hA, h0, h1, hR, hT, hm, h42, h11, htr, hs, hf, hd, ht⟩ := h
  obtain ⟨r, e1, e2⟩ := tq_clash hN p1
  exact ⟨r, r, e1, e2, rfl, A, o, n, m, hN, hA, h0, h1, hR, hT, hm, h42, h11, htr, hs, hf, hd, ht⟩
theorem rs_bags (h : RR X Y G M N) (p1 : Int32) (p2 : Int32) : ∃ (z : Int32 × (Nat → Int32) × (Nat → Int32) × Int32 × Int32 × Int32 × Int32 × Int32) (w : Int32), f_X6_bags (X 5) (X 6) (X 7) (X 9) (Y 1) (Y 2) (Y 3) (Y 4) (Y 5) (Y 6) (Y 7) (Y 40) (Y 41) (X 37) (X 38) (X 39) (X 40) (X 41) p1 p2 = some z ∧ f_X7_bags (M 1) (N 3) p1 p2 = some w ∧ z.1 = w ∧ RR (upd (upd (upd (upd (upd X 37 (z.2.2.2.1)) 38 (z.2.2.2.2.1)) 39 (z.2.2.2.2.2.1)) 40 (z.2.2.2.2.2.2.1)) 41 (z.2.2.2.2.2.2.2)) (bs_up2 (bs_up2 Y 40 (z.2.1)) 41 (z.2.2.1)) G M N := by
  obtain ⟨A, o, n, m, hN, hA, h0, h1, hR, hT, hm, h42, h11, htr, hs, hf, hd, ht⟩ := h
  obtain ⟨z, r, e1, e2, e3⟩ := tq_bags hN (Y 40) (Y 41) (X 37) (X 38) (X 39) (X 40) (X 41) p1 p2
  exact ⟨z, r, e1, e3, e2, A, o, n, m, hN, hA, h0, h1, hR, hT, hm, h42, h11, htr, hs, hf, hd, ht⟩
theorem rs_heaviest (h : RR X Y G M N) (p1 : Int32) (p2 : Int32) : ∃ (z : Int32 × (Nat → Int32) × (Nat → Int32) × Int32 × Int32 × Int32 × Int32 × Int32) (w : Int32), f_X6_heaviest (X 5) (X 6) (X 7) (X 9) (Y 1) (Y 2) (Y 3) (Y 4) (Y 5) (Y 6) (Y 7) (Y 40) (Y 41) (X 37) (X 38) (X 39) (X 40) (X 41) p1 p2 = some z ∧ f_X7_heaviest (M 1) (N 3) p1 p2 = some w ∧ z.1 = w ∧ RR (upd (upd (upd (upd (upd X 37 (z.2.2.2.1)) 38 (z.2.2.2.2.1)) 39 (z.2.2.2.2.2.1)) 40 (z.2.2.2.2.2.2.1)) 41 (z.2.2.2.2.2.2.2)) (bs_up2 (bs_up2 Y 40 (z.2.1)) 41 (z.2.2.1)) G M N := by
  obtain ⟨A, o, n, m, hN, hA, h0, h1, hR, hT, hm, h42, h11, htr, hs, hf, hd, ht⟩ := h
  obtain ⟨z, r, e1, e2, e3⟩ := tq_heaviest hN (Y 40) (Y 41) (X 37) (X 38) (X 39) (X 40) (X 41) p1 p2
  exact ⟨z, r, e1, e3, e2, A, o, n, m, hN, hA, h0, h1, hR, hT, hm, h42, h11, htr, hs, hf, hd, ht⟩
theorem rs_worded (h : RR X Y G M N) (p1 : Int32) (p2 : Int32) : ∃ (z : Int32) (w : Int32), f_X6_worded (X 9) (Y 1) (Y 2) (Y 5) (Y 6) (Y 7) p1 p2 = some z ∧ f_X7_worded (N 3) p1 p2 = some w ∧ z = w ∧ RR X Y G M N := by
  obtain ⟨A, o, n, m, hN, hA, h0, h1, hR, hT, hm, h42, h11, htr, hs, hf, hd, ht⟩ := h
  obtain ⟨r, e1, e2⟩ := tq_worded hN p1 p2
  exact ⟨r, r, e1, e2, rfl, A, o, n, m, hN, hA, h0, h1, hR, hT, hm, h42, h11, htr, hs, hf, hd, ht⟩
theorem rs_price (h : RR X Y G M N) (p1 : Int32) (p2 : Int32) : ∃ (z : Int32) (w : Int32), f_X6_price (X 9) (Y 1) (Y 2) (Y 5) (Y 6) (Y 7) p1 p2 = some z ∧ f_X7_price (N 3) p1 p2 = some w ∧ z = w ∧ RR X Y G M N := by
  obtain ⟨A, o, n, m, hN, hA, h0, h1, hR, hT, hm, h42, h11, htr, hs, hf, hd, ht⟩ := h
  obtain ⟨r, e1, e2⟩ := tq_price hN p1 p2
  exact ⟨r, r, e1, e2, rfl, A, o, n, m, hN, hA, h0, h1, hR, hT, hm, h42, h11, htr, hs, hf, hd, ht⟩
theorem rs_prices (h : RR X Y G M N) (p1 : Int32) (p2 : Int32) : ∃ (z : Int32) (w : Int32), f_X6_prices (X 8) (X 9) (Y 1) (Y 2) (Y 5) (Y 6) (Y 7) p1 p2 = some z ∧ f_X7_prices (N 3) p1 p2 = some w ∧ z = w ∧ RR X Y G M N := by
  obtain ⟨A, o, n, m, hN, hA, h0, h1, hR, hT, hm, h42, h11, htr, hs, hf, hd, ht⟩ := h
  obtain ⟨r, e1, e2⟩ := tq_prices hN p1 p2
  exact ⟨r, r, e1, e2, rfl, A, o, n, m, hN, hA, h0, h1, hR, hT, hm, h42, h11, htr, hs, hf, hd, ht⟩
theorem rs_settles (h : RR X Y G M N) (p1 : Int32) (p2 : Int32) (p3 : Int32) : ∃ (z : Int32 × Int32 × Int32 × Int32 × Int32 × Int32 × Int32 × (Nat → Int32) × (Nat → Int32) × (Nat → Int32) × (Nat → Int32) × (Nat → Int32) × (Nat → Int32) × (Nat → Int32)) (w : Int32 × (Nat → Int32) × (Nat → Int32) × Int32), f_X6_settles (X 5) (X 6) (X 7) (X 8) (X 9) (X 10) (Y 1) (Y 2) (Y 3) (Y 4) (Y 5) (Y 6) (Y 7) (X 17) (X 18) (X 19) (X 20) (X 21) (X 22) (Y 15) (Y 16) (Y 17) (Y 18) (Y 19) (Y 20) (Y 21) p1 p2 p3 = some z ∧ f_X7_settles (N 3) (N 8) (M 10) p1 p2 p3 = some w ∧ z.1 = w.1 ∧ RR (upd (upd (upd (upd (upd (upd X 17 (z.2.1)) 18 (z.2.2.1)) 19 (z.2.2.2.1)) 20 (z.2.2.2.2.1)) 21 (z.2.2.2.2.2.1)) 22 (z.2.2.2.2.2.2.1)) (bs_up2 (bs_up2 (bs_up2 (bs_up2 (bs_up2 (bs_up2 (bs_up2 Y 15 (z.2.2.2.2.2.2.2.1)) 16 (z.2.2.2.2.2.2.2.2.1)) 17 (z.2.2.2.2.2.2.2.2.2.1)) 18 (z.2.2.2.2.2.2.2.2.2.2.1)) 19 (z.2.2.2.2.2.2.2.2.2.2.2.1)) 20 (z.2.2.2.2.2.2.2.2.2.2.2.2.1)) 21 (z.2.2.2.2.2.2.2.2.2.2.2.2.2)) G (upd M 10 (w.2.2.2)) (bs_up2 (bs_up2 N 3 (w.2.1)) 8 (w.2.2.1)) := by
  obtain ⟨A, o, n, m, hN, hA, h0, h1, hR, hT, hm, h42, h11, htr, hs, hf, hd, ht⟩ := h
  obtain ⟨z, w, e1, e2, e3, e4, e5⟩ := tq_settles hN (N 8) (M 10) (X 17) (X 18) (X 19) (X 20) (X 21) (X 22) (Y 15) (Y 16) (Y 17) (Y 18) (Y 19) (Y 20) (Y 21) ht p1 p2 p3
  exact ⟨z, w, e1, e2, e3, A, o, n, m, e5, hA, h0, h1, hR, hT, hm, h42, h11, htr, hs, hf, hd, e4⟩
theorem rs_bestHeavy (h : RR X Y G M N) (p1 : Int32) : ∃ (z : Int32 × Int32 × Int32 × Int32 × Int32 × Int32 × Int32 × (Nat → Int32) × (Nat → Int32) × (Nat → Int32) × (Nat → Int32) × (Nat → Int32) × (Nat → Int32) × (Nat → Int32)) (w : Int32 × (Nat → Int32) × (Nat → Int32) × Int32), f_X6_bestHeavy (X 5) (X 6) (X 7) (X 8) (X 9) (X 10) (Y 1) (Y 2) (Y 3) (Y 4) (Y 5) (Y 6) (Y 7) (X 17) (X 18) (X 19) (X 20) (X 21) (X 22) (Y 15) (Y 16) (Y 17) (Y 18) (Y 19) (Y 20) (Y 21) p1 = some z ∧ f_X7_bestHeavy (N 3) (N 8) (M 10) p1 = some w ∧ z.1 = w.1 ∧ RR (upd (upd (upd (upd (upd (upd X 17 (z.2.1)) 18 (z.2.2.1)) 19 (z.2.2.2.1)) 20 (z.2.2.2.2.1)) 21 (z.2.2.2.2.2.1)) 22 (z.2.2.2.2.2.2.1)) (bs_up2 (bs_up2 (bs_up2 (bs_up2 (bs_up2 (bs_up2 (bs_up2 Y 15 (z.2.2.2.2.2.2.2.1)) 16 (z.2.2.2.2.2.2.2.2.1)) 17 (z.2.2.2.2.2.2.2.2.2.1)) 18 (z.2.2.2.2.2.2.2.2.2.2.1)) 19 (z.2.2.2.2.2.2.2.2.2.2.2.1)) 20 (z.2.2.2.2.2.2.2.2.2.2.2.2.1)) 21 (z.2.2.2.2.2.2.2.2.2.2.2.2.2)) G (upd M 10 (w.2.2.2)) (bs_up2 (bs_up2 N 3 (w.2.1)) 8 (w.2.2.1)) := by
  obtain ⟨A, o, n, m, hN, hA, h0, h1, hR, hT, hm, h42, h11, htr, hs, hf, hd, ht⟩ := h
  obtain ⟨z, w, e1, e2, e3, e4, e5⟩ := tq_bestHeavy hN (N 8) (M 10) (X 17) (X 18) (X 19) (X 20) (X 21) (X 22) (Y 15) (Y 16) (Y 17) (Y 18) (Y 19) (Y 20) (Y 21) ht p1
  exact ⟨z, w, e1, e2, e3, A, o, n, m, e5, hA, h0, h1, hR, hT, hm, h42, h11, htr, hs, hf, hd, e4⟩
theorem rs_found (h : RR X Y G M N) (p1 : Int32) (p2 : Int32) (p3 : Int32) (p4 : Int32) : ∃ (z : Int32 × Int32 × (Nat → Int32) × (Nat → Int32) × Int32 × Int32 × Int32 × Int32 × Int32) (w : Int32 × Int32), f_X6_found (X 1) (X 5) (X 6) (X 7) (X 9) (Y 1) (Y 2) (Y 3) (Y 4) (Y 5) (Y 6) (Y 7) (Y 40) (Y 41) (X 37) (X 38) (X 39) (X 40) (X 41) G (Y 44) p1 p2 p3 p4 = some z ∧ f_X7_found (N 1) (N 2) (M 0) (M 1) (N 3) p1 p2 p3 p4 = some w ∧ z.1 = w.1 ∧ RR (upd (upd (upd (upd (upd (upd X 1 (z.2.1)) 37 (z.2.2.2.2.1)) 38 (z.2.2.2.2.2.1)) 39 (z.2.2.2.2.2.2.1)) 40 (z.2.2.2.2.2.2.2.1)) 41 (z.2.2.2.2.2.2.2.2)) (bs_up2 (bs_up2 Y 40 (z.2.2.1)) 41 (z.2.2.2.1)) G (upd M 0 (w.2)) N := by
  obtain ⟨A, o, n, m, hN, hA, h0, h1, hR, hT, hm, h42, h11, htr, hs, hf, hd, ht⟩ := h
  rw [hs]
  obtain ⟨z, w, e1, e2, e3, e4⟩ := tq_found hN hR (M 0) (Y 40) (Y 41) (X 37) (X 38) (X 39) (X 40) (X 41) p1 p2 p3 p4
  exact ⟨z, w, e1, e2, e3, A, o, n, m, hN, hA, h0, h1, hR, hT, hm, h42, h11, htr, e4, hf, hd, ht⟩
theorem rs_keepsFound (h : RR X Y G M N) (p1 : Int32) (p2 : Int32) (p3 : Int32) : ∃ (z : Int32 × Int32) (w : Int32 × Int32), f_X6_keepsFound (X 1) (X 8) (X 9) (Y 2) (Y 5) (Y 6) (Y 7) G (Y 44) p1 p2 p3 = some z ∧ f_X7_keepsFound (N 1) (N 2) (M 0) (N 3) p1 p2 p3 = some w ∧ z.1 = w.1 ∧ RR (upd X 1 (z.2)) Y G (upd M 0 (w.2)) N := by
  obtain ⟨A, o, n, m, hN, hA, h0, h1, hR, hT, hm, h42, h11, htr, hs, hf, hd, ht⟩ := h
  rw [hs]
  obtain ⟨z, e1, e2⟩ := tq_keepsFound hN hR (M 0) p1 p2 p3
  exact ⟨z, z, e1, e2, rfl, A, o, n, m, hN, hA, h0, h1, hR, hT, hm, h42, h11, htr, rfl, hf, hd, ht⟩
theorem rs_free (h : RR X Y G M N) (p1 : Int32) (p2 : Int32) (p3 : Int32) : ∃ (z : Int32) (w : Int32), f_X6_free p1 p2 p3 = some z ∧ f_X7_free p1 p2 p3 = some w ∧ z = w ∧ RR X Y G M N := by
  obtain ⟨A, o, n, m, hN, hA, h0, h1, hR, hT, hm, h42, h11, htr, hs, hf, hd, ht⟩ := h
  obtain ⟨r, e1, e2⟩ := tq_free p1 p2 p3
  exact ⟨r, r, e1, e2, rfl, A, o, n, m, hN, hA, h0, h1, hR, hT, hm, h42, h11, htr, hs, hf, hd, ht⟩
theorem rs_image (h : RR X Y G M N) (p1 : Int32) : ∃ (z : Int32 × Int32 × Int32 × Int32 × Int32 × Int32 × Int32 × (Nat → Int32) × (Nat → Int32) × (Nat → Int32) × (Nat → Int32) × (Nat → Int32) × (Nat → Int32) × (Nat → Int32) × Int32 × Int32 × Int32 × Int32 × Int32 × Int32 × (Nat → Int32) × (Nat → Int32) × (Nat → Int32) × (Nat → Int32) × (Nat → Int32) × (Nat → Int32) × (Nat → Int32)) (w : Int32 × (Nat → Int32) × (Nat → Int32)), f_X6_image (X 5) (X 6) (X 7) (X 8) (X 9) (X 10) (Y 1) (Y 2) (Y 3) (Y 4) (Y 5) (Y 6) (Y 7) (X 23) (X 24) (X 25) (X 26) (X 27) (X 28) (Y 22) (Y 23) (Y 24) (Y 25) (Y 26) (Y 27) (Y 28) (X 29) (X 30) (X 31) (X 32) (X 33) (X 34) (Y 29) (Y 30) (Y 31) (Y 32) (Y 33) (Y 34) (Y 35) p1 = some z ∧ f_X7_image (M 1) (N 3) (N 9) (N 10) p1 = some w ∧ z.1 = w.1 ∧ RR (upd (upd (upd (upd (upd (upd (upd (upd (upd (upd (upd (upd X 23 (z.2.1)) 24 (z.2.2.1)) 25 (z.2.2.2.1)) 26 (z.2.2.2.2.1)) 27 (z.2.2.2.2.2.1)) 28 (z.2.2.2.2.2.2.1)) 29 (z.2.2.2.2.2.2.2.2.2.2.2.2.2.2.1)) 30 (z.2.2.2.2.2.2.2.2.2.2.2.2.2.2.2.1)) 31 (z.2.2.2.2.2.2.2.2.2.2.2.2.2.2.2.2.1)) 32 (z.2.2.2.2.2.2.2.2.2.2.2.2.2.2.2.2.2.1)) 33 (z.2.2.2.2.2.2.2.2.2.2.2.2.2.2.2.2.2.2.1)) 34 (z.2.2.2.2.2.2.2.2.2.2.2.2.2.2.2.2.2.2.2.1)) (bs_up2 (bs_up2 (bs_up2 (bs_up2 (bs_up2 (bs_up2 (bs_up2 (bs_up2 (bs_up2 (bs_up2 (bs_up2 (bs_up2 (bs_up2 (bs_up2 Y 22 (z.2.2.2.2.2.2.2.1)) 23 (z.2.2.2.2.2.2.2.2.1)) 24 (z.2.2.2.2.2.2.2.2.2.1)) 25 (z.2.2.2.2.2.2.2.2.2.2.1)) 26 (z.2.2.2.2.2.2.2.2.2.2.2.1)) 27 (z.2.2.2.2.2.2.2.2.2.2.2.2.1)) 28 (z.2.2.2.2.2.2.2.2.2.2.2.2.2.1)) 29 (z.2.2.2.2.2.2.2.2.2.2.2.2.2.2.2.2.2.2.2.2.1)) 30 (z.2.2.2.2.2.2.2.2.2.2.2.2.2.2.2.2.2.2.2.2.2.1)) 31 (z.2.2.2.2.2.2.2.2.2.2.2.2.2.2.2.2.2.2.2.2.2.2.1)) 32 (z.2.2.2.2.2.2.2.2.2.2.2.2.2.2.2.2.2.2.2.2.2.2.2.1)) 33 (z.2.2.2.2.2.2.2.2.2.2.2.2.2.2.2.2.2.2.2.2.2.2.2.2.1)) 34 (z.2.2.2.2.2.2.2.2.2.2.2.2.2.2.2.2.2.2.2.2.2.2.2.2.2.1)) 35 (z.2.2.2.2.2.2.2.2.2.2.2.2.2.2.2.2.2.2.2.2.2.2.2.2.2.2)) G M (bs_up2 (bs_up2 N 9 (w.2.1)) 10 (w.2.2)) := by
  obtain ⟨A, o, n, m, hN, hA, h0, h1, hR, hT, hm, h42, h11, htr, hs, hf, hd, ht⟩ := h
  obtain ⟨z, w, e1, e2, e3, e4, e5⟩ := tq_image hN h0 h1 p1
  exact ⟨z, w, e1, e2, e3, A, o, n, m, hN, hA, e4, e5, hR, hT, hm, h42, h11, htr, hs, hf, hd, ht⟩
theorem rs_restore (h : RR X Y G M N) (p1 : Int32) : ∃ (z : Int32 × Int32 × Int32 × Int32 × Int32 × Int32 × Int32 × (Nat → Int32) × (Nat → Int32) × (Nat → Int32) × (Nat → Int32) × (Nat → Int32) × (Nat → Int32) × (Nat → Int32) × Int32 × Int32) (w : Int32 × (Nat → Int32) × Int32), f_X6_restore (X 5) (X 6) (X 7) (X 8) (X 9) (X 10) (Y 1) (Y 2) (Y 3) (Y 4) (Y 5) (Y 6) (Y 7) (X 23) (X 24) (X 25) (X 26) (X 27) (X 28) (Y 22) (Y 23) (Y 24) (Y 25) (Y 26) (Y 27) (Y 28) (X 29) (X 30) (X 31) (X 32) (X 33) (X 34) (Y 29) (Y 30) (Y 31) (Y 32) (Y 33) (Y 34) (Y 35) (X 35) (X 36) p1 = some z ∧ f_X7_restore (N 3) (M 9) (N 9) (N 10) p1 = some w ∧ z.1 = w.1 ∧ RR (upd (upd (upd (upd (upd (upd (upd (upd X 5 (z.2.1)) 6 (z.2.2.1)) 7 (z.2.2.2.1)) 8 (z.2.2.2.2.1)) 9 (z.2.2.2.2.2.1)) 10 (z.2.2.2.2.2.2.1)) 35 (z.2.2.2.2.2.2.2.2.2.2.2.2.2.2.1)) 36 (z.2.2.2.2.2.2.2.2.2.2.2.2.2.2.2)) (bs_up2 (bs_up2 (bs_up2 (bs_up2 (bs_up2 (bs_up2 (bs_up2 Y 1 (z.2.2.2.2.2.2.2.1)) 2 (z.2.2.2.2.2.2.2.2.1)) 3 (z.2.2.2.2.2.2.2.2.2.1)) 4 (z.2.2.2.2.2.2.2.2.2.2.1)) 5 (z.2.2.2.2.2.2.2.2.2.2.2.1)) 6 (z.2.2.2.2.2.2.2.2.2.2.2.2.1)) 7 (z.2.2.2.2.2.2.2.2.2.2.2.2.2.1)) G (upd M 9 (w.2.2)) (bs_up2 N 3 (w.2.1)) := by
  obtain ⟨A, o, n, m, hN, hA, h0, h1, hR, hT, hm, h42, h11, htr, hs, hf, hd, ht⟩ := h
  obtain ⟨z, w, B, o', n', e1, e2, e3, e4, e5⟩ := tq_restore hN hA h0 h1 p1
  exact ⟨z, w, e1, e2, e3, B, o', n', m, e4, e5, h0, h1, hR, hT, hm, h42, h11, htr, hs, hf, hd, ht⟩
theorem rs_kind (h : RR X Y G M N) (p1 : Int32) : ∃ (z : Int32) (w : Int32), f_X6_kind (X 9) (Y 6) p1 = some z ∧ f_X7_kind (N 3) p1 = some w ∧ z = w ∧ RR X Y G M N := by
  obtain ⟨A, o, n, m, hN, hA, h0, h1, hR, hT, hm, h42, h11, htr, hs, hf, hd, ht⟩ := h
  obtain ⟨r, e1, e2⟩ := tq_kind hN p1
  exact ⟨r, r, e1, e2, rfl, A, o, n, m, hN, hA, h0, h1, hR, hT, hm, h42, h11, htr, hs, hf, hd, ht⟩
theorem rs_as (h : RR X Y G M N) (p1 : Int32) (p2 : Int32) : ∃ (z : Int32 × Int32) (w : Int32 × Int32), f_X6_as (X 1) (X 9) (Y 6) p1 p2 = some z ∧ f_X7_as (M 0) (N 3) p1 p2 = some w ∧ z.1 = w.1 ∧ RR (upd X 1 (z.2)) Y G (upd M 0 (w.2)) N := by
  obtain ⟨A, o, n, m, hN, hA, h0, h1, hR, hT, hm, h42, h11, htr, hs, hf, hd, ht⟩ := h
  rw [hs]
  obtain ⟨z, e1, e2⟩ := tq_as hN (M 0) p1 p2
  exact ⟨z, z, e1, e2, rfl, A, o, n, m, hN, hA, h0, h1, hR, hT, hm, h42, h11, htr, rfl, hf, hd, ht⟩
theorem rs_ask (h : RR X Y G M N) (p1 : Int32) (p2 : Int32) : ∃ (z : Int32 × (Nat → Int32) × Int32 × Int32 × Int32 × Int32 × Int32) (w : Int32 × (Nat → Int32) × Int32), f_X6_ask (X 9) (Y 1) (Y 2) (Y 5) (Y 6) (Y 7) (Y 42) (X 42) (X 43) (X 44) (X 45) (X 46) p1 p2 = some z ∧ f_X7_ask (N 3) (N 11) (M 11) p1 p2 = some w ∧ z.1 = w.1 ∧ RR (upd (upd (upd (upd (upd X 42 (z.2.2.1)) 43 (z.2.2.2.1)) 44 (z.2.2.2.2.1)) 45 (z.2.2.2.2.2.1)) 46 (z.2.2.2.2.2.2)) (bs_up2 Y 42 (z.2.1)) G (upd M 11 (w.2.2)) (bs_up2 N 11 (w.2.1)) := by
  obtain ⟨A, o, n, m, hN, hA, h0, h1, hR, hT, hm, h42, h11, htr, hs, hf, hd, ht⟩ := h
  rw [h42, h11]
  obtain ⟨z, w, m', e1, e2, e3, e4, e5, e6, e7⟩ := tq_ask hN (Y 42) (N 11) hm htr (X 43) (X 44) (X 45) (X 46) p1 p2
  exact ⟨z, w, e1, e2, e3, A, o, n, m', hN, hA, h0, h1, hR, hT, e4, e5, e6, e7, hs, hf, hd, ht⟩
theorem rs_trace (h : RR X Y G M N) (p1 : Int32) : ∃ (z : Int32) (w : Int32), f_X6_trace (Y 42) (X 42) p1 = some z ∧ f_X7_trace (N 11) (M 11) p1 = some w ∧ z = w ∧ RR X Y G M N := by
  obtain ⟨A, o, n, m, hN, hA, h0, h1, hR, hT, hm, h42, h11, htr, hs, hf, hd, ht⟩ := h
  rw [h42, h11]
  obtain ⟨r, e1, e2⟩ := tq_trace (Y 42) (N 11) hm htr p1
  exact ⟨r, r, e1, e2, rfl, A, o, n, m, hN, hA, h0, h1, hR, hT, hm, h42, h11, htr, hs, hf, hd, ht⟩
theorem rs_count (h : RR X Y G M N) (p1 : Int32) : ∃ (z : Int32) (w : Int32), f_X6_count (X 2) (X 5) (X 6) (X 7) (X 8) (X 9) (X 10) (Y 1) (Y 2) (Y 5) (Y 6) (Y 7) (X 36) (Y 44) p1 = some z ∧ f_X7_count (N 1) (M 1) (N 3) (M 2) (M 9) p1 = some w ∧ z = w ∧ RR X Y G M N := by
  obtain ⟨A, o, n, m, hN, hA, h0, h1, hR, hT, hm, h42, h11, htr, hs, hf, hd, ht⟩ := h
  have hb : X 2 = M 2 := by
    obtain ⟨b, t, b1, b2, b3, b4⟩ := hT
    rw [b2, b3]
  have hk : X 36 = M 9 := hA.2.2.2.1.trans hA.2.2.2.2.1.symm
  rw [hb, hk]
  obtain ⟨r, e1, e2⟩ := tq_count hN hR (M 2) (M 9) p1
  exact ⟨r, r, e1, e2, rfl, A, o, n, m, hN, hA, h0, h1, hR, hT, hm, h42, h11, htr, hs, hf, hd, ht⟩
theorem rs_status (h : RR X Y G M N) : ∃ (z : Int32) (w : Int32), f_X6_status (X 1) = some z ∧ f_X7_status (M 0) = some w ∧ z = w ∧ RR X Y G M N := by
  obtain ⟨A, o, n, m, hN, hA, h0, h1, hR, hT, hm, h42, h11, htr, hs, hf, hd, ht⟩ := h
  exact ⟨_, _, rfl, rfl, hs, A, o, n, m, hN, hA, h0, h1, hR, hT, hm, h42, h11, htr, hs, hf, hd, ht⟩
end RS
