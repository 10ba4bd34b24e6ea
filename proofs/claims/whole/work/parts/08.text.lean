/-! THE PROGRAM TEXTS: what each method does to the abstract heap, by program out of its bytecode; a text answers nothing where an index, a cell or a divisor is not right, or a loop would not end. -/
def sln (a : Int) : Int := (kLen.getD (a - 10).toNat 0 : Nat)
def sch (a i : Int) : Int := ((kByt.getD (a - 10).toNat []).getD i.toNat 0).toInt
def cS {α : Type} (a : Int) (A : Option α) : Option α := if 10 ≤ a ∧ a < 17 then A else none
def cT {α : Type} (a i : Int) (A : Option α) : Option α := if 10 ≤ a ∧ a < 17 ∧ 0 ≤ w32 i ∧ w32 i < sln a then A else none
theorem cS_un {α : Type} {a : Int} {A : Option α} {o : α} (h : cS a A = some o) : (10 ≤ a ∧ a < 17) ∧ A = some o := by
  unfold cS at h
  split at h
  · rename_i q; exact ⟨q, h⟩
  · cases h
theorem cT_un {α : Type} {a i : Int} {A : Option α} {o : α} (h : cT a i A = some o) : (10 ≤ a ∧ a < 17 ∧ 0 ≤ w32 i ∧ w32 i < sln a) ∧ A = some o := by
  unfold cT at h
  split at h
  · rename_i q; exact ⟨q, h⟩
  · cases h
def Cc_at  (h : Hp) (a0 a1 : Int) : Option (Int × Hp) :=
  if w32 a1 < 0 then some (0, h) else cN a0 (if w32 a1 < w32 ((SH a0).2 : Int) then cX 100 a0 a1 (some ((rd h a0 (w32 a1)), h)) else some (0, h))
def Cy_hardOf  (h : Hp) (a0 a1 : Int) : Option (Int × Hp) :=
  cC 0 a0 (cl (Cc_at h (a0 + 2) ((3 * a1) + 2)) (fun r2 h3 => some (r2, h3)))
def St_boreOf  (h : Hp) (a0 a1 : Int) : Option (Int × Hp) :=
  cC 7 a0 (cl (Cc_at h (a0 + 3) a1) (fun r2 h3 => some (r2, h3)))
def St_owes  (h : Hp) (a0 a1 a2 : Int) : Option (Int × Hp) :=
  if w32 a1 < 0 then some (0, h) else if w32 a1 < 6 then if w32 a2 < 0 then some (0, h) else if w32 a2 < 6 then cC 7 a0 (cl (Cc_at h (a0 + 1) ((a1 * 6) + a2)) (fun r2 h3 => some (r2, h3))) else some (0, h) else some (0, h)
def St_debtOf_b4_body  (k4 : Hp × Int × Int × Int × Int → Option (Int × Hp)) (h : Hp) (x0 x1 x2 x3 : Int) : Option (Int × Hp) :=
  cC 7 x0 (if w32 x3 < w32 (h x0 4) then cl (St_owes h x0 x1 x3) (fun r2 h3 => bd (x2 + r2) (fun v5 => k4 (h3, x0, x1, v5, (x3 + 1)))) else some (x2, h))
def St_debtOf_b4  (h : Hp) (x0 x1 x2 x3 : Int) : Option (Int × Hp) := itr (fun k s => St_debtOf_b4_body  k s.1 s.2.1 s.2.2.1 s.2.2.2.1 s.2.2.2.2) FU (h, x0, x1, x2, x3)
def St_debtOf  (h : Hp) (a0 a1 : Int) : Option (Int × Hp) :=
  St_debtOf_b4 h a0 a1 0 0
def St_lonelyOf  (h : Hp) (a0 a1 : Int) : Option (Int × Hp) :=
  cC 7 a0 (cl (Cc_at h (a0 + 2) a1) (fun r2 h3 => some (r2, h3)))
def Cc_sideOf  (h : Hp) (a0 a1 a2 : Int) : Option (Int × Hp) :=
  if w32 a2 = 0 then cC 9 a0 (cC 7 110 (cl (St_lonelyOf h 110 a1) (fun r3 h4 => some (r3, h4)))) else if w32 a2 = 1 then cC 9 a0 (cC 7 110 (cl (St_boreOf h 110 a1) (fun r9 h10 => some (r9, h10)))) else if w32 a2 = 2 then cC 9 a0 (cC 0 (h a0 1) (cl (Cy_hardOf h (h a0 1) a1) (fun r15 h16 => some (r15, h16)))) else cC 9 a0 (cC 7 110 (cl (St_debtOf h 110 a1) (fun r21 h22 => some (r21, h22))))
def Cc_foremost_b4_body  (k4 : Hp × Int × Int × Int × Int → Option (Int × Hp)) (h : Hp) (x0 x1 x2 x3 : Int) : Option (Int × Hp) :=
  cC 9 x0 (cC 7 110 (if w32 x3 < w32 (h 110 4) then cl (Cc_sideOf h x0 x3 x1) (fun r3 h4 => cl (Cc_sideOf h4 x0 x2 x1) (fun r6 h7 => if w32 r6 < w32 r3 then k4 (h7, x0, x1, x3, (x3 + 1)) else k4 (h7, x0, x1, x2, (x3 + 1)))) else some (x2, h)))
def Cc_foremost_b4  (h : Hp) (x0 x1 x2 x3 : Int) : Option (Int × Hp) := itr (fun k s => Cc_foremost_b4_body  k s.1 s.2.1 s.2.2.1 s.2.2.2.1 s.2.2.2.2) FU (h, x0, x1, x2, x3)
def Cc_foremost  (h : Hp) (a0 a1 : Int) : Option (Int × Hp) :=
  Cc_foremost_b4 h a0 a1 0 1
def Cc_freePeople_b4_body  (k4 : Hp × Int × Int × Int → Option (Int × Hp)) (h : Hp) (x0 x1 x2 : Int) : Option (Int × Hp) :=
  cC 9 x0 (cC 7 110 (if w32 x2 < w32 (h 110 4) then cl (St_debtOf h 110 x2) (fun r3 h4 => if w32 r3 = 0 then bd (ior x1 (ishl 1 x2)) (fun v6 => k4 (h4, x0, v6, (x2 + 1))) else k4 (h4, x0, x1, (x2 + 1))) else some (x1, h)))
def Cc_freePeople_b4  (h : Hp) (x0 x1 x2 : Int) : Option (Int × Hp) := itr (fun k s => Cc_freePeople_b4_body  k s.1 s.2.1 s.2.2.1 s.2.2.2) FU (h, x0, x1, x2)
def Cc_freePeople  (h : Hp) (a0 : Int) : Option (Int × Hp) :=
  Cc_freePeople_b4 h a0 0 0
def Cc_isTold  (h : Hp) (a0 : Int) : Option (Int × Hp) :=
  cC 9 a0 (cC 0 (h a0 1) (if 0 < w32 (h (h a0 1) 4) then some (1, h) else some (0, h)))
def Cc_apartAt_b23  (h : Hp) (y0 : Int) : Option (Int × Hp) :=
  if y0 < 0 then none else some (y0, h)
def Cc_apartAt  (h : Hp) (a0 a1 : Int) : Option (Int × Hp) :=
  if w32 a1 < 0 then Cc_apartAt_b23 h (-1) else cC 9 a0 (cN 52 (if w32 a1 < w32 ((SH 52).2 : Int) then cX 112 52 a1 (Cc_apartAt_b23 h (PT 52 (w32 a1))) else Cc_apartAt_b23 h (-1)))
def Cc_put  (h : Hp) (a0 a1 a2 : Int) : Option (Int × Hp) :=
  if w32 a1 < 0 then some (0, h) else cN a0 (if w32 a1 < w32 ((SH a0).2 : Int) then cY 100 a0 a1 (pu (up h a0 (w32 a1) a2) (fun h3 => some (0, h3))) else some (0, h))
def St_copy_b75_body  (k75 : Hp × Int × Int × Int → Option (Int × Hp)) (h : Hp) (x0 x1 x2 : Int) : Option (Int × Hp) :=
  if w32 x2 < 6 then cC 7 x0 (cC 7 x1 (cl (Cc_at h (x1 + 2) x2) (fun r19 h20 => cl (Cc_put h20 (x0 + 2) x2 r19) (fun r22 h23 => cl (Cc_at h23 (x1 + 3) x2) (fun r25 h26 => cl (Cc_put h26 (x0 + 3) x2 r25) (fun r28 h29 => k75 (h29, x0, x1, (x2 + 1)))))))) else some (0, h)
def St_copy_b75  (h : Hp) (x0 x1 x2 : Int) : Option (Int × Hp) := itr (fun k s => St_copy_b75_body  k s.1 s.2.1 s.2.2.1 s.2.2.2) FU (h, x0, x1, x2)
def St_copy_b42_body  (k42 : Hp × Int × Int × Int → Option (Int × Hp)) (h : Hp) (x0 x1 x2 : Int) : Option (Int × Hp) :=
  cC 7 x0 (cN (x0 + 1) (if w32 x2 < w32 ((SH (x0 + 1)).2 : Int) then cC 7 x1 (cl (Cc_at h (x1 + 1) x2) (fun r11 h12 => cl (Cc_put h12 (x0 + 1) x2 r11) (fun r14 h15 => k42 (h15, x0, x1, (x2 + 1))))) else St_copy_b75 h x0 x1 0))
def St_copy_b42  (h : Hp) (x0 x1 x2 : Int) : Option (Int × Hp) := itr (fun k s => St_copy_b42_body  k s.1 s.2.1 s.2.2.1 s.2.2.2) FU (h, x0, x1, x2)
def St_copy  (h : Hp) (a0 a1 : Int) : Option (Int × Hp) :=
  cC 7 a1 (cC 7 a0 (pu (up h a0 4 (h a1 4)) (fun h3 => pu (up h3 a0 5 (h3 a1 5)) (fun h4 => pu (up h4 a0 6 (h4 a1 6)) (fun h5 => pu (up h5 a0 7 (h5 a1 7)) (fun h6 => pu (up h6 a0 8 (h6 a1 8)) (fun h7 => St_copy_b42 h7 a0 a1 0)))))))
def Cc_copyApart  (h : Hp) (a0 : Int) : Option (Int × Hp) :=
  cC 9 a0 (cl (Cc_apartAt h a0 0) (fun r2 h3 => cC 7 r2 (cl (St_copy h3 r2 110) (fun r6 h7 => some (r2, h7)))))
def St_isFree  (h : Hp) (a0 a1 a2 : Int) : Option (Int × Hp) :=
  if w32 a1 = w32 a2 then some (0, h) else cC 7 a0 (cl (Cc_at h (a0 + 4) a1) (fun r2 h3 => if w32 r2 = 9 then some (1, h3) else some (0, h3)))
def St_seatTwo_b25_body (k10 : Hp × Int × Int × Int × Int × Int × Int → Option (Int × Hp)) (k25 : Hp × Int × Int × Int × Int × Int × Int × Int → Option (Int × Hp)) (h : Hp) (x0 x1 x2 x3 x4 x5 x6 : Int) : Option (Int × Hp) :=
  cC 7 x0 (if w32 x6 < w32 (h x0 4) then cl (St_owes h x0 x5 x6) (fun r4 h5 => if w32 x2 < w32 r4 then cl (St_isFree h5 x0 x5 x1) (fun r7 h8 => if w32 r7 = 0 then k25 (h8, x0, x1, x2, x3, x4, x5, (x6 + 1)) else cl (St_isFree h8 x0 x6 x1) (fun r10 h11 => if w32 r10 = 0 then k25 (h11, x0, x1, x2, x3, x4, x5, (x6 + 1)) else cl (St_owes h11 x0 x5 x6) (fun r13 h14 => k25 (h14, x0, x1, r13, x5, x6, x5, (x6 + 1))))) else k25 (h5, x0, x1, x2, x3, x4, x5, (x6 + 1))) else k10 (h, x0, x1, x2, x3, x4, (x5 + 1)))
def St_seatTwo_b25 (k10 : Hp × Int × Int × Int × Int × Int × Int → Option (Int × Hp)) (h : Hp) (x0 x1 x2 x3 x4 x5 x6 : Int) : Option (Int × Hp) := itr (fun k s => St_seatTwo_b25_body k10 k s.1 s.2.1 s.2.2.1 s.2.2.2.1 s.2.2.2.2.1 s.2.2.2.2.2.1 s.2.2.2.2.2.2.1 s.2.2.2.2.2.2.2) FU (h, x0, x1, x2, x3, x4, x5, x6)
def St_seatTwo_b10_body  (k10 : Hp × Int × Int × Int × Int × Int × Int → Option (Int × Hp)) (h : Hp) (x0 x1 x2 x3 x4 x5 : Int) : Option (Int × Hp) :=
  cC 7 x0 (if w32 x5 < w32 (h x0 4) then bd (x5 + 1) (fun v2 => St_seatTwo_b25 k10 h x0 x1 x2 x3 x4 x5 v2) else if 0 < w32 x2 then cl (Cc_put h (x0 + 4) x3 x4) (fun r16 h17 => cl (Cc_put h17 (x0 + 4) x4 x3) (fun r19 h20 => some (0, h20))) else some (0, h))
def St_seatTwo_b10  (h : Hp) (x0 x1 x2 x3 x4 x5 : Int) : Option (Int × Hp) := itr (fun k s => St_seatTwo_b10_body  k s.1 s.2.1 s.2.2.1 s.2.2.2.1 s.2.2.2.2.1 s.2.2.2.2.2.1 s.2.2.2.2.2.2) FU (h, x0, x1, x2, x3, x4, x5)
def St_seatTwo  (h : Hp) (a0 a1 : Int) : Option (Int × Hp) :=
  St_seatTwo_b10 h a0 a1 0 0 0 0
def St_book_b26_body  (k26 : Hp × Int × Int × Int → Option (Int × Hp)) (h : Hp) (x0 x1 x2 : Int) : Option (Int × Hp) :=
  if w32 x2 < 3 then cC 7 x0 (cl (St_seatTwo h x0 x1) (fun r6 h7 => k26 (h7, x0, x1, (x2 + 1)))) else some (0, h)
def St_book_b26  (h : Hp) (x0 x1 x2 : Int) : Option (Int × Hp) := itr (fun k s => St_book_b26_body  k s.1 s.2.1 s.2.2.1 s.2.2.2) FU (h, x0, x1, x2)
def St_book_b2_body  (k2 : Hp × Int × Int × Int → Option (Int × Hp)) (h : Hp) (x0 x1 x2 : Int) : Option (Int × Hp) :=
  if w32 x2 < 6 then cC 7 x0 (cl (Cc_put h (x0 + 4) x2 9) (fun r2 h3 => k2 (h3, x0, x1, (x2 + 1)))) else St_book_b26 h x0 x1 0
def St_book_b2  (h : Hp) (x0 x1 x2 : Int) : Option (Int × Hp) := itr (fun k s => St_book_b2_body  k s.1 s.2.1 s.2.2.1 s.2.2.2) FU (h, x0, x1, x2)
def St_book  (h : Hp) (a0 a1 : Int) : Option (Int × Hp) :=
  St_book_b2 h a0 a1 0
def St_owe  (h : Hp) (a0 a1 a2 a3 : Int) : Option (Int × Hp) :=
  cC 7 a0 (cl (St_owes h a0 a1 a2) (fun r2 h3 => bd (if w32 (r2 + a3) < 99 then (r2 + a3) else 99) (fun v5 => cl (Cc_put h3 (a0 + 1) ((a1 * 6) + a2) v5) (fun r6 h7 => cl (Cc_put h7 (a0 + 1) ((a2 * 6) + a1) v5) (fun r9 h10 => some (0, h10))))))
def St_brood_b59_body  (k59 : Hp × Int × Int × Int → Option (Int × Hp)) (h : Hp) (x0 x1 x2 : Int) : Option (Int × Hp) :=
  cC 7 x0 (if w32 x2 < w32 (h x0 4) then if w32 x2 = w32 x1 then k59 (h, x0, x1, (x2 + 1)) else cl (St_owe h x0 x1 x2 1) (fun r17 h18 => k59 (h18, x0, x1, (x2 + 1))) else some (0, h))
def St_brood_b59  (h : Hp) (x0 x1 x2 : Int) : Option (Int × Hp) := itr (fun k s => St_brood_b59_body  k s.1 s.2.1 s.2.2.1 s.2.2.2) FU (h, x0, x1, x2)
def St_brood  (h : Hp) (a0 a1 : Int) : Option (Int × Hp) :=
  cC 7 a0 (cl (St_lonelyOf h a0 a1) (fun r2 h3 => if w32 r2 < 9 then cl (St_lonelyOf h3 a0 a1) (fun r5 h6 => cl (Cc_put h6 (a0 + 2) a1 (r5 + 1)) (fun r8 h9 => some (0, h9))) else cl (Cc_put h3 (a0 + 2) a1 5) (fun r11 h12 => pu (up h12 a0 7 ((h12 a0 7) + 1)) (fun h14 => pu (up h14 a0 10 (ior (h14 a0 10) (ishl 1 a1))) (fun h15 => St_brood_b59 h15 a0 a1 0)))))
def St_cheer  (h : Hp) (a0 a1 a2 : Int) : Option (Int × Hp) :=
  cC 7 a0 (cl (St_lonelyOf h a0 a1) (fun r2 h3 => cl (Cc_put h3 (a0 + 2) a1 (if 0 < w32 (r2 - a2) then (r2 - a2) else 0)) (fun r5 h6 => some (0, h6))))
def St_pass_b86_body  (k86 : Hp × Int × Int → Option (Int × Hp)) (h : Hp) (x0 x2 : Int) : Option (Int × Hp) :=
  cC 7 x0 (if w32 x2 < w32 (h x0 4) then cl (Cc_at h (x0 + 4) x2) (fun r20 h21 => if w32 r20 = 9 then cl (St_brood h21 x0 x2) (fun r23 h24 => k86 (h24, x0, (x2 + 1))) else k86 (h21, x0, (x2 + 1))) else some (0, h))
def St_pass_b86  (h : Hp) (x0 x2 : Int) : Option (Int × Hp) := itr (fun k s => St_pass_b86_body  k s.1 s.2.1 s.2.2) FU (h, x0, x2)
def St_pass_b27_body  (k27 : Hp × Int × Int → Option (Int × Hp)) (h : Hp) (x0 x2 : Int) : Option (Int × Hp) :=
  cC 7 x0 (if w32 x2 < w32 (h x0 4) then cl (Cc_at h (x0 + 4) x2) (fun r9 h10 => if w32 r9 = 9 then k27 (h10, x0, (x2 + 1)) else pu (up h10 x0 9 ((h10 x0 9) + 1)) (fun h12 => cl (St_cheer h12 x0 x2 1) (fun r13 h14 => if w32 x2 < w32 r9 then cl (St_owe h14 x0 x2 r9 (-1)) (fun r16 h17 => k27 (h17, x0, (x2 + 1))) else k27 (h14, x0, (x2 + 1))))) else St_pass_b86 h x0 0)
def St_pass_b27  (h : Hp) (x0 x2 : Int) : Option (Int × Hp) := itr (fun k s => St_pass_b27_body  k s.1 s.2.1 s.2.2) FU (h, x0, x2)
def St_pass  (h : Hp) (a0 a1 : Int) : Option (Int × Hp) :=
  cC 7 a0 (cl (St_book h a0 a1) (fun r2 h3 => pu (up h3 a0 8 ((h3 a0 8) + 1)) (fun h5 => pu (up h5 a0 9 0) (fun h6 => pu (up h6 a0 10 0) (fun h7 => St_pass_b27 h7 a0 0)))))
def Cc_neverSitting_b30_body (k16 : Hp × Int × Int × Int → Option (Int × Hp)) (k30 : Hp × Int × Int × Int × Int → Option (Int × Hp)) (h : Hp) (x1 x2 x3 x4 : Int) : Option (Int × Hp) :=
  cC 7 x1 (if w32 x4 < w32 (h x1 4) then cl (Cc_at h (x1 + 4) x4) (fun r12 h13 => if w32 r12 = 9 then k30 (h13, x1, x2, x3, (x4 + 1)) else bd (iand x2 (ixor (ishl 1 x4) (-1))) (fun v15 => k30 (h13, x1, v15, x3, (x4 + 1)))) else k16 (h, x1, x2, (x3 + 1)))
def Cc_neverSitting_b30 (k16 : Hp × Int × Int × Int → Option (Int × Hp)) (h : Hp) (x1 x2 x3 x4 : Int) : Option (Int × Hp) := itr (fun k s => Cc_neverSitting_b30_body k16 k s.1 s.2.1 s.2.2.1 s.2.2.2.1 s.2.2.2.2) FU (h, x1, x2, x3, x4)
def Cc_neverSitting_b16_body  (k16 : Hp × Int × Int × Int → Option (Int × Hp)) (h : Hp) (x1 x2 x3 : Int) : Option (Int × Hp) :=
  if w32 x3 < 20 then cC 7 x1 (cl (St_pass h x1 (-1)) (fun r8 h9 => Cc_neverSitting_b30 k16 h9 x1 x2 x3 0)) else some (x2, h)
def Cc_neverSitting_b16  (h : Hp) (x1 x2 x3 : Int) : Option (Int × Hp) := itr (fun k s => Cc_neverSitting_b16_body  k s.1 s.2.1 s.2.2.1 s.2.2.2) FU (h, x1, x2, x3)
def Cc_neverSitting  (h : Hp) (a0 : Int) : Option (Int × Hp) :=
  cC 9 a0 (cl (Cc_copyApart h a0) (fun r2 h3 => cC 7 r2 (bd ((ishl 1 (h3 r2 4)) - 1) (fun v6 => Cc_neverSitting_b16 h3 r2 v6 0))))
def Cc_circleOf_b4_body  (k4 : Hp × Int × Int × Int × Int → Option (Int × Hp)) (h : Hp) (x0 x1 x2 x3 : Int) : Option (Int × Hp) :=
  cC 9 x0 (cC 7 110 (if w32 x3 < w32 (h 110 4) then cl (St_owes h 110 x1 x3) (fun r3 h4 => if 0 < w32 r3 then bd (ior x2 (ishl 1 x3)) (fun v6 => k4 (h4, x0, x1, v6, (x3 + 1))) else k4 (h4, x0, x1, x2, (x3 + 1))) else some (x2, h)))
def Cc_circleOf_b4  (h : Hp) (x0 x1 x2 x3 : Int) : Option (Int × Hp) := itr (fun k s => Cc_circleOf_b4_body  k s.1 s.2.1 s.2.2.1 s.2.2.2.1 s.2.2.2.2) FU (h, x0, x1, x2, x3)
def Cc_circleOf  (h : Hp) (a0 a1 : Int) : Option (Int × Hp) :=
  Cc_circleOf_b4 h a0 a1 0 0
def Cc_holds  (h : Hp) (a0 a1 : Int) : Option (Int × Hp) :=
  if w32 (iand (ishr a0 a1) 1) = 1 then some (1, h) else some (0, h)
def Cc_isParty_b2_body  (k2 : Hp × Int × Int × Int → Option (Int × Hp)) (h : Hp) (x0 x1 x2 : Int) : Option (Int × Hp) :=
  cC 9 x0 (cC 7 110 (if w32 x2 < w32 (h 110 4) then bd (iand x1 (ixor (ishl 1 x2) (-1))) (fun v3 => cl (Cc_holds h x1 x2) (fun r4 h5 => if w32 r4 = 0 then k2 (h5, x0, x1, (x2 + 1)) else cl (Cc_circleOf h5 x0 x2) (fun r7 h8 => if w32 (iand r7 v3) = w32 v3 then k2 (h8, x0, x1, (x2 + 1)) else some (0, h8)))) else some (1, h)))
def Cc_isParty_b2  (h : Hp) (x0 x1 x2 : Int) : Option (Int × Hp) := itr (fun k s => Cc_isParty_b2_body  k s.1 s.2.1 s.2.2.1 s.2.2.2) FU (h, x0, x1, x2)
def Cc_isParty  (h : Hp) (a0 a1 : Int) : Option (Int × Hp) :=
  Cc_isParty_b2 h a0 a1 0
def Ji_bitCount  (h : Hp) (a0 : Int) : Option (Int × Hp) :=
  bd (a0 - (iand (iushr a0 1) 1431655765)) (fun v1 => bd ((iand v1 858993459) + (iand (iushr v1 2) 858993459)) (fun v2 => bd (iand (v2 + (iushr v2 4)) 252645135) (fun v3 => bd (v3 + (iushr v3 8)) (fun v4 => bd (v4 + (iushr v4 16)) (fun v5 => some ((iand v5 63), h))))))
def Cc_party_b4_body  (k4 : Hp × Int × Int × Int → Option (Int × Hp)) (h : Hp) (x0 x1 x2 : Int) : Option (Int × Hp) :=
  cC 9 x0 (cC 7 110 (if w32 x2 < w32 (ishl 1 (h 110 4)) then cl (Cc_isParty h x0 x2) (fun r3 h4 => if w32 r3 = 0 then k4 (h4, x0, x1, (x2 + 1)) else cl (Ji_bitCount h4 x2) (fun r6 h7 => bd (if w32 x1 < w32 r6 then r6 else x1) (fun v9 => k4 (h7, x0, v9, (x2 + 1))))) else some (x1, h)))
def Cc_party_b4  (h : Hp) (x0 x1 x2 : Int) : Option (Int × Hp) := itr (fun k s => Cc_party_b4_body  k s.1 s.2.1 s.2.2.1 s.2.2.2) FU (h, x0, x1, x2)
def Cc_party  (h : Hp) (a0 : Int) : Option (Int × Hp) :=
  Cc_party_b4 h a0 0 0
def St_debtWithin_b17_body (k4 : Hp × Int × Int × Int × Int → Option (Int × Hp)) (k17 : Hp × Int × Int × Int × Int × Int → Option (Int × Hp)) (h : Hp) (x0 x1 x2 x3 x4 : Int) : Option (Int × Hp) :=
  cC 7 x0 (if w32 x4 < w32 (h x0 4) then cl (Cc_holds h x1 x3) (fun r4 h5 => if w32 r4 = 0 then k17 (h5, x0, x1, x2, x3, (x4 + 1)) else cl (Cc_holds h5 x1 x4) (fun r7 h8 => if w32 r7 = 0 then k17 (h8, x0, x1, x2, x3, (x4 + 1)) else cl (St_owes h8 x0 x3 x4) (fun r10 h11 => bd (x2 + r10) (fun v13 => k17 (h11, x0, x1, v13, x3, (x4 + 1)))))) else k4 (h, x0, x1, x2, (x3 + 1)))
def St_debtWithin_b17 (k4 : Hp × Int × Int × Int × Int → Option (Int × Hp)) (h : Hp) (x0 x1 x2 x3 x4 : Int) : Option (Int × Hp) := itr (fun k s => St_debtWithin_b17_body k4 k s.1 s.2.1 s.2.2.1 s.2.2.2.1 s.2.2.2.2.1 s.2.2.2.2.2) FU (h, x0, x1, x2, x3, x4)
def St_debtWithin_b4_body  (k4 : Hp × Int × Int × Int × Int → Option (Int × Hp)) (h : Hp) (x0 x1 x2 x3 : Int) : Option (Int × Hp) :=
  cC 7 x0 (if w32 x3 < w32 (h x0 4) then bd (x3 + 1) (fun v2 => St_debtWithin_b17 k4 h x0 x1 x2 x3 v2) else some (x2, h))
def St_debtWithin_b4  (h : Hp) (x0 x1 x2 x3 : Int) : Option (Int × Hp) := itr (fun k s => St_debtWithin_b4_body  k s.1 s.2.1 s.2.2.1 s.2.2.2.1 s.2.2.2.2) FU (h, x0, x1, x2, x3)
def St_debtWithin  (h : Hp) (a0 a1 : Int) : Option (Int × Hp) :=
  St_debtWithin_b4 h a0 a1 0 0
def St_allDebt  (h : Hp) (a0 : Int) : Option (Int × Hp) :=
  cC 7 a0 (cl (St_debtWithin h a0 ((ishl 1 (h a0 4)) - 1)) (fun r2 h3 => some (r2, h3)))
def Cc_all  (h : Hp) (a0 a1 : Int) : Option (Int × Hp) :=
  cC 9 a0 (cl (Cc_isTold h a0) (fun r2 h3 => if w32 r2 = 0 then some ((-1), h3) else if w32 a1 = 0 then cl (Cc_foremost h3 a0 a1) (fun r5 h6 => some (r5, h6)) else if w32 a1 = 1 then cl (Cc_foremost h3 a0 a1) (fun r9 h10 => some (r9, h10)) else if w32 a1 = 2 then cl (Cc_foremost h3 a0 a1) (fun r13 h14 => some (r13, h14)) else if w32 a1 = 3 then cl (Cc_foremost h3 a0 a1) (fun r17 h18 => some (r17, h18)) else if w32 a1 = 4 then cC 0 (h3 a0 1) (cC 7 110 (some ((((ishl 1 (h3 (h3 a0 1) 5)) - 1) - (h3 110 5)), h3))) else if w32 a1 = 5 then cC 7 110 (cl (St_allDebt h3 110) (fun r25 h26 => some (r25, h26))) else if w32 a1 = 6 then cl (Cc_freePeople h3 a0) (fun r29 h30 => some (r29, h30)) else if w32 a1 = 7 then cC 7 110 (some ((h3 110 7), h3)) else if w32 a1 = 8 then cl (Cc_neverSitting h3 a0) (fun r35 h36 => some (r35, h36)) else if w32 a1 = 9 then cl (Cc_party h3 a0) (fun r39 h40 => some (r39, h40)) else some ((-1), h3)))
def Cc_isPerson  (h : Hp) (a0 a1 : Int) : Option (Int × Hp) :=
  if w32 a1 < 0 then some (0, h) else cC 9 a0 (cC 0 (h a0 1) (if w32 a1 < w32 (h (h a0 1) 4) then some (1, h) else some (0, h)))
def Cc_areTwo  (h : Hp) (a0 a1 a2 : Int) : Option (Int × Hp) :=
  cC 9 a0 (cl (Cc_isPerson h a0 a1) (fun r2 h3 => if w32 r2 = 0 then some (0, h3) else cl (Cc_isPerson h3 a0 a2) (fun r5 h6 => if w32 r5 = 0 then some (0, h6) else if w32 a1 = w32 a2 then some (0, h6) else some (1, h6))))
def Cc_appealIn  (h : Hp) (a0 a1 a2 a3 : Int) : Option (Int × Hp) :=
  cC 9 a0 (cl (Cc_areTwo h a0 a2 a3) (fun r2 h3 => if w32 r2 = 0 then some (0, h3) else cC 7 a1 (cl (St_owes h3 a1 a2 a3) (fun r6 h7 => if w32 r6 < 2 then some (0, h7) else if w32 (h7 a1 6) < 2 then some (0, h7) else pu (up h7 a1 6 ((h7 a1 6) - 2)) (fun h9 => cl (St_owes h9 a1 a2 a3) (fun r10 h11 => cD 2 (cl (St_owe h11 a1 a2 a3 (-((w32 r10).tdiv (w32 2)))) (fun r13 h14 => some (1, h14)))))))))
def Ps_keep  (h : Hp) (a0 : Int) : Option (Int × Hp) :=
  cC 4 a0 (if w32 (h a0 2) < 40 then pu (up h a0 2 ((h a0 2) + 1)) (fun h2 => some (0, h2)) else cD 41 (pu (up h a0 1 ((w32 ((h a0 1) + 1)).tmod (w32 41))) (fun h3 => some (0, h3))))
def Ps_last_b36  (h : Hp) (y0 : Int) : Option (Int × Hp) :=
  if y0 < 0 then none else some (y0, h)
def Ps_last  (h : Hp) (a0 : Int) : Option (Int × Hp) :=
  cC 4 a0 (cD 41 (bd ((w32 ((h a0 1) + (h a0 2))).tmod (w32 41)) (fun v2 => if w32 v2 < 0 then Ps_last_b36 h (-1) else cN 56 (if w32 v2 < w32 ((SH 56).2 : Int) then cX 112 56 v2 (Ps_last_b36 h (PT 56 (w32 v2))) else Ps_last_b36 h (-1)))))
def Ps_offer  (h : Hp) (a0 a1 : Int) : Option (Int × Hp) :=
  cC 4 a0 (cl (Ps_last h a0) (fun r2 h3 => cC 7 r2 (cl (St_copy h3 r2 a1) (fun r6 h7 => some (0, h7)))))
def Cc_appeal  (h : Hp) (a0 a1 a2 : Int) : Option (Int × Hp) :=
  cC 9 a0 (cC 4 55 (cl (Ps_offer h 55 110) (fun r3 h4 => cl (Cc_appealIn h4 a0 110 a1 a2) (fun r6 h7 => if w32 r6 = 0 then some ((-1), h7) else cl (Ps_keep h7 55) (fun r9 h10 => cC 7 110 (cl (St_owes h10 110 a1 a2) (fun r13 h14 => some (r13, h14))))))))
def Cc_lawAt_b23  (h : Hp) (y0 : Int) : Option (Int × Hp) :=
  if y0 < 0 then none else some (y0, h)
def Cc_lawAt  (h : Hp) (a0 a1 : Int) : Option (Int × Hp) :=
  if w32 a1 < 0 then Cc_lawAt_b23 h (-1) else cC 9 a0 (cN 50 (if w32 a1 < w32 ((SH 50).2 : Int) then cX 110 50 a1 (Cc_lawAt_b23 h (PT 50 (w32 a1))) else Cc_lawAt_b23 h (-1)))
def Cy_mostWorth  (h : Hp) (a0 : Int) : Option (Int × Hp) :=
  cC 0 a0 (cl (Cc_at h (a0 + 1) 0) (fun r2 h3 => some (r2, h3)))
def Cy_whoOf  (h : Hp) (a0 a1 : Int) : Option (Int × Hp) :=
  cC 0 a0 (cl (Cc_at h (a0 + 3) (3 * a1)) (fun r2 h3 => some (r2, h3)))
def Cy_wrongsBy_b4_body  (k4 : Hp × Int × Int × Int × Int → Option (Int × Hp)) (h : Hp) (x0 x1 x2 x3 : Int) : Option (Int × Hp) :=
  cC 0 x0 (if w32 x3 < w32 (h x0 5) then cl (Cy_whoOf h x0 x3) (fun r2 h3 => if w32 r2 = w32 x1 then bd (ior x2 (ishl 1 x3)) (fun v5 => k4 (h3, x0, x1, v5, (x3 + 1))) else bd (ior x2 0) (fun v6 => k4 (h3, x0, x1, v6, (x3 + 1)))) else some (x2, h))
def Cy_wrongsBy_b4  (h : Hp) (x0 x1 x2 x3 : Int) : Option (Int × Hp) := itr (fun k s => Cy_wrongsBy_b4_body  k s.1 s.2.1 s.2.2.1 s.2.2.2.1 s.2.2.2.2) FU (h, x0, x1, x2, x3)
def Cy_wrongsBy  (h : Hp) (a0 a1 : Int) : Option (Int × Hp) :=
  Cy_wrongsBy_b4 h a0 a1 0 0
def Lw_pop  (h : Hp) (a0 : Int) : Option (Int × Hp) :=
  cC 2 a0 (if 0 < w32 (h a0 3) then if 64 < w32 (h a0 3) then some (0, h) else pu (up h a0 3 ((h a0 3) - 1)) (fun h2 => cX 100 (a0 + 2) (h2 a0 3) (some ((rd h2 (a0 + 2) (w32 (h2 a0 3))), h2))) else some (0, h))
def Lw_joined  (h : Hp) (a0 a1 a3 : Int) : Option (Int × Hp) :=
  if w32 a0 = 38 then some ((land a1 a3), h) else if w32 a0 = 39 then some ((lor a1 a3), h) else if w32 a0 = 40 then some ((lor a1 a3), h) else if w32 a0 = 41 then some ((lor a1 a3), h) else if w32 a0 = 42 then some ((a1 * a3), h) else if w32 a0 = 43 then some ((a1 + a3), h) else if w32 a0 = 44 then some ((lor a1 a3), h) else if w32 a0 = 45 then some ((a1 - a3), h) else if w32 a0 = 46 then some ((lor a1 a3), h) else if w32 a0 = 47 then if w32 (lcm a3 0) = 0 then some (0, h) else cDl a3 (some (((w64 a1).tdiv (w64 a3)), h)) else if w32 a0 = 48 then some ((lor a1 a3), h) else if w32 a0 = 49 then some ((lor a1 a3), h) else if w32 a0 = 50 then some ((lor a1 a3), h) else if w32 a0 = 51 then some ((lor a1 a3), h) else if w32 a0 = 52 then some ((lor a1 a3), h) else if w32 a0 = 53 then some ((lor a1 a3), h) else if w32 a0 = 54 then some ((lor a1 a3), h) else if w32 a0 = 55 then some ((lor a1 a3), h) else if w32 a0 = 56 then some ((lor a1 a3), h) else if w32 a0 = 57 then some ((lor a1 a3), h) else if w32 a0 = 58 then some ((lor a1 a3), h) else if w32 a0 = 59 then some ((lor a1 a3), h) else if w32 a0 = 60 then if w32 (lcm a1 a3) < 0 then some (1, h) else some (0, h) else if w32 a0 = 61 then if w32 (lcm a1 a3) = 0 then some (1, h) else some (0, h) else if w32 a0 = 62 then if 0 < w32 (lcm a1 a3) then some (1, h) else some (0, h) else some ((lor a1 a3), h)
def Lw_push  (h : Hp) (a0 a1 : Int) : Option (Int × Hp) :=
  cC 2 a0 (if w32 (h a0 3) < 0 then some (0, h) else if w32 (h a0 3) < 64 then cY 100 (a0 + 2) (h a0 3) (pu (up h (a0 + 2) (w32 (h a0 3)) a1) (fun h3 => pu (up h3 a0 3 ((h3 a0 3) + 1)) (fun h4 => some (0, h4)))) else some (0, h))
def Lw_weigh  (h : Hp) (a0 a1 a2 : Int) : Option (Int × Hp) :=
  if w32 a1 < 1000 then if w32 a1 < 500 then if w32 a1 = 33 then cC 2 a0 (cl (Lw_pop h a0) (fun r2 h3 => cl (Lw_push h3 a0 (1 - r2)) (fun r5 h6 => some (0, h6)))) else cC 2 a0 (cl (Lw_pop h a0) (fun r9 h10 => cl (Lw_pop h10 a0) (fun r12 h13 => cl (Lw_joined h13 a1 (w32 r12) (w32 r9)) (fun r15 h16 => cl (Lw_push h16 a0 (if w64 (if w64 r15 < 1000000 then r15 else 1000000) < (-1000000) then (-1000000) else (if w64 r15 < 1000000 then r15 else 1000000))) (fun r18 h19 => some (0, h19)))))) else cl (Cc_at h a2 (a1 - 500)) (fun r21 h22 => cC 2 a0 (cl (Lw_push h22 a0 r21) (fun r25 h26 => some (0, h26)))) else cC 2 a0 (cl (Lw_push h a0 (a1 - 1000)) (fun r29 h30 => some (0, h30)))
def Lw_worth_b75 (k9 : Hp × Int × Int × Int × Int → Option (Int × Hp)) (h : Hp) (x0 x1 x2 x3 x4 : Int) : Option (Int × Hp) :=
  if w32 x2 = 0 then cC 2 x0 (cl (Lw_weigh h x0 x4 x1) (fun r14 h15 => k9 (h15, x0, x1, x2, (x3 + 1)))) else k9 (h, x0, x1, x2, (x3 + 1))
def Lw_worth_b9_body  (k9 : Hp × Int × Int × Int × Int → Option (Int × Hp)) (h : Hp) (x0 x1 x2 x3 : Int) : Option (Int × Hp) :=
  cC 2 x0 (if w32 x3 < w32 (h x0 2) then cl (Cc_at h (x0 + 1) x3) (fun r4 h5 => if w32 r4 = 59 then if w32 x2 = 0 then cl (Lw_pop h5 x0) (fun r7 h8 => some (r7, h8)) else k9 (h5, x0, x1, 0, (x3 + 1)) else if w32 x2 = 0 then if w32 r4 = 63 then cl (Lw_pop h5 x0) (fun r10 h11 => if w32 r10 = 0 then k9 (h11, x0, x1, 1, (x3 + 1)) else k9 (h11, x0, x1, 0, (x3 + 1))) else Lw_worth_b75 k9 h5 x0 x1 x2 x3 r4 else Lw_worth_b75 k9 h5 x0 x1 x2 x3 r4) else some (0, h))
def Lw_worth_b9  (h : Hp) (x0 x1 x2 x3 : Int) : Option (Int × Hp) := itr (fun k s => Lw_worth_b9_body  k s.1 s.2.1 s.2.2.1 s.2.2.2.1 s.2.2.2.2) FU (h, x0, x1, x2, x3)
def Lw_worth  (h : Hp) (a0 a1 : Int) : Option (Int × Hp) :=
  cC 2 a0 (pu (up h a0 3 0) (fun h2 => Lw_worth_b9 h2 a0 a1 0 0))
def Cc_worthBy_b139  (h : Hp) (x0 x5 : Int) : Option (Int × Hp) :=
  cC 9 x0 (cC 0 (h x0 1) (cl (Cy_mostWorth h (h x0 1)) (fun r13 h14 => some ((if 1 < w32 (if w32 r13 < w32 x5 then r13 else x5) then (if w32 r13 < w32 x5 then r13 else x5) else 1), h14))))
def Cc_worthBy  (h : Hp) (a0 a1 a2 a3 a4 : Int) : Option (Int × Hp) :=
  cC 9 a0 (if w32 (h a0 6) = (-1) then cC 0 (h a0 1) (cl (Cy_hardOf h (h a0 1) a2) (fun r3 h4 => cC 7 a1 (cl (St_lonelyOf h4 a1 a3) (fun r7 h8 => cD 2 (bd (((2 * a4) + r3) - ((w32 r7).tdiv (w32 2))) (fun v10 => Cc_worthBy_b139 h8 a0 v10)))))) else cl (Cc_put h 75 0 a4) (fun r16 h17 => cC 0 (h17 a0 1) (cl (Cy_hardOf h17 (h17 a0 1) a2) (fun r20 h21 => cl (Cc_put h21 75 1 r20) (fun r23 h24 => cC 7 a1 (cl (St_lonelyOf h24 a1 a3) (fun r27 h28 => cl (Cc_put h28 75 2 r27) (fun r30 h31 => cl (St_boreOf h31 a1 a3) (fun r33 h34 => cl (Cc_put h34 75 3 r33) (fun r36 h37 => cC 0 (h37 a0 1) (cl (Cy_wrongsBy h37 (h37 a0 1) a2) (fun r40 h41 => cl (Ji_bitCount h41 (iand r40 (h41 a1 5))) (fun r43 h44 => cl (Cc_put h44 75 4 r43) (fun r46 h47 => cl (Cc_put h47 75 5 (h47 a1 8)) (fun r49 h50 => cl (Cc_lawAt h50 a0 (h50 a0 6)) (fun r52 h53 => cC 2 r52 (cl (Lw_worth h53 r52 75) (fun r56 h57 => Cc_worthBy_b139 h57 a0 r56))))))))))))))))))
def Cy_whomOf  (h : Hp) (a0 a1 : Int) : Option (Int × Hp) :=
  cC 0 a0 (cl (Cc_at h (a0 + 3) ((3 * a1) + 1)) (fun r2 h3 => some (r2, h3)))
def Gv_allow_b41 (k2 : Hp × Int × Int × Int × Int → Option (Int × Hp)) (h : Hp) (x0 x1 x2 x3 y0 : Int) : Option (Int × Hp) :=
  cC 1 x0 (cX 103 68 x3 (if w32 y0 = w32 (rd h 68 (w32 x3)) then k2 (h, x0, x1, x2, (x3 + 1)) else some (0, h)))
def Gv_allow_b2_body  (k2 : Hp × Int × Int × Int × Int → Option (Int × Hp)) (h : Hp) (x0 x1 x2 x3 : Int) : Option (Int × Hp) :=
  cC 1 x0 (if w32 x3 < w32 (h x0 4) then if w32 x3 < 10 then cX 100 66 x3 (if w32 (rd h 66 (w32 x3)) = w32 x1 then cX 100 67 x3 (if w32 x2 < w32 (rd h 67 (w32 x3)) then Gv_allow_b41 k2 h x0 x1 x2 x3 0 else Gv_allow_b41 k2 h x0 x1 x2 x3 1) else k2 (h, x0, x1, x2, (x3 + 1))) else some (1, h) else some (1, h))
def Gv_allow_b2  (h : Hp) (x0 x1 x2 x3 : Int) : Option (Int × Hp) := itr (fun k s => Gv_allow_b2_body  k s.1 s.2.1 s.2.2.1 s.2.2.2.1 s.2.2.2.2) FU (h, x0, x1, x2, x3)
def Gv_allow  (h : Hp) (a0 a1 a2 : Int) : Option (Int × Hp) :=
  Gv_allow_b2 h a0 a1 a2 0
def Cc_fit_b68 (k4 : Hp × Int × Int × Int × Int → Option (Int × Hp)) (h : Hp) (x0 x1 x2 x3 x5 y0 y1 y2 : Int) : Option (Int × Hp) :=
  cl (Cc_put h y0 y1 y2) (fun r17 h18 => if w32 x5 = 0 then bd (x2 + 0) (fun v20 => k4 (h18, x0, x1, v20, (x3 + 1))) else bd (x2 + 1) (fun v21 => k4 (h18, x0, x1, v21, (x3 + 1))))
def Cc_fit_b4_body  (k4 : Hp × Int × Int × Int × Int → Option (Int × Hp)) (h : Hp) (x0 x1 x2 x3 : Int) : Option (Int × Hp) :=
  if 9 < w32 x3 then some (x2, h) else cC 9 x0 (cC 0 (h x0 1) (cl (Cy_whoOf h (h x0 1) x1) (fun r3 h4 => cC 0 (h4 x0 1) (cl (Cy_whomOf h4 (h4 x0 1) x1) (fun r7 h8 => cl (Cc_worthBy h8 x0 100 r3 r7 x3) (fun r10 h11 => cC 1 65 (cl (Gv_allow h11 65 x1 r10) (fun r14 h15 => if w32 r14 = 0 then Cc_fit_b68 k4 h15 x0 x1 x2 x3 r14 69 x3 0 else Cc_fit_b68 k4 h15 x0 x1 x2 x3 r14 69 x3 r10))))))))
def Cc_fit_b4  (h : Hp) (x0 x1 x2 x3 : Int) : Option (Int × Hp) := itr (fun k s => Cc_fit_b4_body  k s.1 s.2.1 s.2.2.1 s.2.2.2.1 s.2.2.2.2) FU (h, x0, x1, x2, x3)
def Cc_fit  (h : Hp) (a0 a1 : Int) : Option (Int × Hp) :=
  Cc_fit_b4 h a0 a1 0 1
def Cc_isWrong  (h : Hp) (a0 a1 : Int) : Option (Int × Hp) :=
  if w32 a1 < 0 then some (0, h) else cC 9 a0 (cC 0 (h a0 1) (if w32 a1 < w32 (h (h a0 1) 5) then some (1, h) else some (0, h)))
def Gv_worthsFrom_b4_body  (k4 : Hp × Int × Int × Int × Int → Option (Int × Hp)) (h : Hp) (x0 x1 x2 x3 : Int) : Option (Int × Hp) :=
  if 9 < w32 x3 then some (x2, h) else cC 1 x0 (cl (Cc_at h 69 x3) (fun r2 h3 => if w32 r2 < w32 x1 then bd (x2 + 0) (fun v5 => k4 (h3, x0, x1, v5, (x3 + 1))) else bd (x2 + 1) (fun v6 => k4 (h3, x0, x1, v6, (x3 + 1)))))
def Gv_worthsFrom_b4  (h : Hp) (x0 x1 x2 x3 : Int) : Option (Int × Hp) := itr (fun k s => Gv_worthsFrom_b4_body  k s.1 s.2.1 s.2.2.1 s.2.2.2.1 s.2.2.2.2) FU (h, x0, x1, x2, x3)
def Gv_worthsFrom  (h : Hp) (a0 a1 : Int) : Option (Int × Hp) :=
  Gv_worthsFrom_b4 h a0 a1 0 1
def Cc_ask_b31_body  (k31 : Hp × Int × Int × Int × Int × Int → Option (Int × Hp)) (h : Hp) (x0 x2 x3 x4 x5 : Int) : Option (Int × Hp) :=
  if 30 < w32 x5 then some (x3, h) else cC 9 x0 (cC 1 65 (cl (Gv_worthsFrom h 65 x5) (fun r10 h11 => bd (if 0 ≤ w32 (r10 - (x2 - r10)) then (r10 - (x2 - r10)) else -(r10 - (x2 - r10))) (fun v13 => if w32 v13 < w32 x4 then k31 (h11, x0, x2, x5, v13, (x5 + 1)) else k31 (h11, x0, x2, x3, x4, (x5 + 1))))))
def Cc_ask_b31  (h : Hp) (x0 x2 x3 x4 x5 : Int) : Option (Int × Hp) := itr (fun k s => Cc_ask_b31_body  k s.1 s.2.1 s.2.2.1 s.2.2.2.1 s.2.2.2.2.1 s.2.2.2.2.2) FU (h, x0, x2, x3, x4, x5)
def Cc_ask  (h : Hp) (a0 a1 : Int) : Option (Int × Hp) :=
  cC 9 a0 (cl (Cc_isWrong h a0 a1) (fun r2 h3 => if w32 r2 = 0 then some ((-1), h3) else cl (Cc_fit h3 a0 a1) (fun r5 h6 => if w32 r5 = 0 then some ((-1), h6) else Cc_ask_b31 h6 a0 r5 (-1) 10 1)))
def Lg_restore_b2_body  (k2 : Hp × Int × Int × Int → Option (Int × Hp)) (h : Hp) (x0 x1 x2 : Int) : Option (Int × Hp) :=
  if w32 x2 < 60 then cC 3 x0 (cC 7 x1 (cl (Cc_at h 62 x2) (fun r3 h4 => cl (Cc_put h4 61 ((h x1 8) - x2) r3) (fun r6 h7 => k2 (h7, x0, x1, (x2 + 1)))))) else some (0, h)
def Lg_restore_b2  (h : Hp) (x0 x1 x2 : Int) : Option (Int × Hp) := itr (fun k s => Lg_restore_b2_body  k s.1 s.2.1 s.2.2.1 s.2.2.2) FU (h, x0, x1, x2)
def Lg_restore  (h : Hp) (a0 a1 : Int) : Option (Int × Hp) :=
  Lg_restore_b2 h a0 a1 0
def Ps_forget  (h : Hp) (a0 : Int) : Option (Int × Hp) :=
  cC 4 a0 (pu (up h a0 2 0) (fun h2 => some (0, h2)))
def Cc_back  (h : Hp) (a0 : Int) : Option (Int × Hp) :=
  cC 9 a0 (if w32 (h a0 12) = 0 then some ((-1), h) else cC 7 110 (cl (St_copy h 110 120) (fun r3 h4 => cC 3 60 (cl (Lg_restore h4 60 110) (fun r7 h8 => cC 4 55 (cl (Ps_forget h8 55) (fun r11 h12 => some ((h12 110 8), h12))))))))
def Cc_breakingWith (kf : Hp × Int × Int × Int × Int × Int → Option (Int × Hp)) (h : Hp) (a0 a1 a2 a3 a4 a6 : Int) : Option (Int × Hp) :=
  if 0 < w32 (lcm a4 0) then cC 9 a0 (cl (Cc_apartAt h a0 (a1 - 1)) (fun r2 h3 => cl (Cc_apartAt h3 a0 a1) (fun r5 h6 => cC 7 r2 (cl (St_copy h6 r2 r5) (fun r9 h10 => cl (St_pass h10 r2 a6) (fun r12 h13 => cl (Cc_holds h13 (h13 r2 10) a2) (fun r15 h16 => if w32 r15 = 0 then cl (kf (h16, a0, (a1 - 1), a2, a3, a4)) (fun r18 h19 => some (r18, h19)) else some (a4, h16)))))))) else some (0, h)
def Cc_breaking_body (kf : Hp × Int × Int × Int × Int × Int → Option (Int × Hp)) (h : Hp) (a0 a1 a2 a3 a4 : Int) : Option (Int × Hp) :=
  if 0 < w32 a1 then if 6 < w32 a1 then some (0, h) else cDl 100 (bd ((w64 (a4 * (w32 a3))).tdiv (w64 100)) (fun v1 => cC 9 a0 (cl (Cc_breakingWith kf h a0 a1 a2 a3 v1 a2) (fun r3 h4 => cl (Cc_breakingWith kf h4 a0 a1 a2 a3 (a4 - v1) (-1)) (fun r6 h7 => some ((r3 + r6), h7)))))) else some (0, h)
def Cc_breaking_f : Hp × Int × Int × Int × Int × Int → Option (Int × Hp) := itr (fun k s => Cc_breaking_body k s.1 s.2.1 s.2.2.1 s.2.2.2.1 s.2.2.2.2.1 s.2.2.2.2.2) RF
def Cc_breaking (h : Hp) (a0 a1 a2 a3 a4 : Int) : Option (Int × Hp) := Cc_breaking_f (h, a0, a1, a2, a3, a4)
def Cy_wrongsAgainst_b4_body  (k4 : Hp × Int × Int × Int × Int → Option (Int × Hp)) (h : Hp) (x0 x1 x2 x3 : Int) : Option (Int × Hp) :=
  cC 0 x0 (if w32 x3 < w32 (h x0 5) then cl (Cy_whomOf h x0 x3) (fun r2 h3 => if w32 r2 = w32 x1 then bd (ior x2 (ishl 1 x3)) (fun v5 => k4 (h3, x0, x1, v5, (x3 + 1))) else bd (ior x2 0) (fun v6 => k4 (h3, x0, x1, v6, (x3 + 1)))) else some (x2, h))
def Cy_wrongsAgainst_b4  (h : Hp) (x0 x1 x2 x3 : Int) : Option (Int × Hp) := itr (fun k s => Cy_wrongsAgainst_b4_body  k s.1 s.2.1 s.2.2.1 s.2.2.2.1 s.2.2.2.2) FU (h, x0, x1, x2, x3)
def Cy_wrongsAgainst  (h : Hp) (a0 a1 : Int) : Option (Int × Hp) :=
  Cy_wrongsAgainst_b4 h a0 a1 0 0
def Cc_circle  (h : Hp) (a0 a1 a2 : Int) : Option (Int × Hp) :=
  cC 9 a0 (cl (Cc_isPerson h a0 a1) (fun r2 h3 => if w32 r2 = 0 then some ((-1), h3) else if w32 a2 = 0 then cC 0 (h3 a0 1) (cl (Cy_wrongsBy h3 (h3 a0 1) a1) (fun r6 h7 => some (r6, h7))) else if w32 a2 = 1 then cC 0 (h3 a0 1) (cl (Cy_wrongsAgainst h3 (h3 a0 1) a1) (fun r11 h12 => some (r11, h12))) else if w32 a2 = 2 then cl (Cc_circleOf h3 a0 a1) (fun r15 h16 => some (r15, h16)) else some ((-1), h3)))
def Lg_lengthAt  (h : Hp) (a0 : Int) : Option (Int × Hp) :=
  cC 7 a0 (some ((if w32 (h a0 8) < 60 then (h a0 8) else 60), h))
def Cc_count  (h : Hp) (a0 a1 : Int) : Option (Int × Hp) :=
  if w32 a1 = 0 then cC 9 a0 (cC 0 (h a0 1) (some ((h (h a0 1) 4), h))) else if w32 a1 = 1 then cC 9 a0 (cC 0 (h a0 1) (some ((h (h a0 1) 5), h))) else if w32 a1 = 2 then cC 9 a0 (some ((h a0 5), h)) else if w32 a1 = 3 then cC 9 a0 (some ((h a0 7), h)) else if w32 a1 = 4 then cC 9 a0 (cC 8 21 (some ((h 21 1), h))) else if w32 a1 = 5 then cC 9 a0 (some ((h a0 6), h)) else if w32 a1 = 6 then cC 9 a0 (cC 7 110 (some ((h 110 8), h))) else if w32 a1 = 7 then cC 9 a0 (cC 7 110 (some ((h 110 6), h))) else if w32 a1 = 8 then cC 9 a0 (cl (Cc_isTold h a0) (fun r23 h24 => if w32 r23 = 0 then some (0, h24) else cC 0 (h24 a0 1) (cl (Cy_mostWorth h24 (h24 a0 1)) (fun r27 h28 => some (r27, h28))))) else if w32 a1 = 9 then cC 9 a0 (some ((h a0 8), h)) else if w32 a1 = 10 then cC 9 a0 (cC 1 65 (some ((h 65 4), h))) else if w32 a1 = 11 then cC 9 a0 (cl (Lg_lengthAt h 110) (fun r37 h38 => some (r37, h38))) else if w32 a1 = 12 then cC 9 a0 (cC 4 55 (some ((h 55 2), h))) else some ((-1000000), h)
def Cc_crime_b25_body  (k25 : Hp × Int × Int × Int × Int × Int → Option (Int × Hp)) (h : Hp) (x0 x1 x2 x3 x4 : Int) : Option (Int × Hp) :=
  if 9 < w32 x4 then some ((-1), h) else cC 9 x0 (cl (Cc_worthBy h x0 110 x1 x2 x4) (fun r6 h7 => if w32 r6 < w32 x3 then k25 (h7, x0, x1, x2, x3, (x4 + 1)) else some (x4, h7)))
def Cc_crime_b25  (h : Hp) (x0 x1 x2 x3 x4 : Int) : Option (Int × Hp) := itr (fun k s => Cc_crime_b25_body  k s.1 s.2.1 s.2.2.1 s.2.2.2.1 s.2.2.2.2.1 s.2.2.2.2.2) FU (h, x0, x1, x2, x3, x4)
def Cc_crime  (h : Hp) (a0 a1 a2 a3 : Int) : Option (Int × Hp) :=
  cC 9 a0 (cl (Cc_areTwo h a0 a1 a2) (fun r2 h3 => if w32 r2 = 0 then some ((-1), h3) else if w32 a3 < 1 then some ((-1), h3) else if 30 < w32 a3 then some ((-1), h3) else Cc_crime_b25 h3 a0 a1 a2 a3 1))
def Cc_draw  (h : Hp) (a0 a1 : Int) : Option (Int × Hp) :=
  cC 9 a0 (pu (up h a0 19 (((h a0 19) * 6364136223846793005) + 1442695040888963407)) (fun h2 => if 0 < w32 a1 then cDl (w32 a1) (some (((w64 (lushr (h2 a0 19) 33)).tmod (w64 (w32 a1))), h2)) else some (0, h2)))
def Cc_end  (h : Hp) (a0 a1 : Int) : Option (Int × Hp) :=
  if w32 a1 < 0 then some (0, h) else cC 9 a0 (cC 8 21 (if w32 (h 21 1) < w32 a1 then some (0, h) else pu (up h 21 1 a1) (fun h3 => some (1, h3))))
def Cc_eveningIn  (h : Hp) (a0 a1 : Int) : Option (Int × Hp) :=
  cC 9 a0 (cl (Cc_isTold h a0) (fun r2 h3 => if w32 r2 = 0 then some (0, h3) else cC 7 a1 (if w32 (h3 a1 8) < 999 then cl (St_pass h3 a1 (-1)) (fun r6 h7 => some (1, h7)) else some (0, h3))))
def Lg_write  (h : Hp) (a0 a1 : Int) : Option (Int × Hp) :=
  cC 3 a0 (cC 7 a1 (cl (St_allDebt h a1) (fun r3 h4 => cl (Cc_put h4 61 (h a1 8) (ior (ior (ishl r3 9) (ishl (h4 a1 10) 3)) (h4 a1 9))) (fun r6 h7 => some (0, h7)))))
def Cc_evening  (h : Hp) (a0 : Int) : Option (Int × Hp) :=
  cC 9 a0 (cC 4 55 (cl (Ps_offer h 55 110) (fun r3 h4 => cl (Cc_eveningIn h4 a0 110) (fun r6 h7 => if w32 r6 = 0 then some ((-1), h7) else cl (Ps_keep h7 55) (fun r9 h10 => cC 3 60 (cl (Lg_write h10 60 110) (fun r13 h14 => cC 7 110 (some ((h14 110 9), h14)))))))))
def Cc_sessionAt_b23  (h : Hp) (y0 : Int) : Option (Int × Hp) :=
  if y0 < 0 then none else some (y0, h)
def Cc_sessionAt  (h : Hp) (a0 a1 : Int) : Option (Int × Hp) :=
  if w32 a1 < 0 then Cc_sessionAt_b23 h (-1) else cC 9 a0 (cN 51 (if w32 a1 < w32 ((SH 51).2 : Int) then cX 111 51 a1 (Cc_sessionAt_b23 h (PT 51 (w32 a1))) else Cc_sessionAt_b23 h (-1)))
def Cy_fillIn_b2_body  (k2 : Hp × Int × Int × Int × Int → Option (Int × Hp)) (h : Hp) (x0 x1 x2 x3 : Int) : Option (Int × Hp) :=
  if w32 x3 < 3 then cl (Cc_at h 4 ((3 * x0) + x3)) (fun r1 h2 => cl (Cc_put h2 x1 (x2 + x3) r1) (fun r4 h5 => k2 (h5, x0, x1, x2, (x3 + 1)))) else some (0, h)
def Cy_fillIn_b2  (h : Hp) (x0 x1 x2 x3 : Int) : Option (Int × Hp) := itr (fun k s => Cy_fillIn_b2_body  k s.1 s.2.1 s.2.2.1 s.2.2.2.1 s.2.2.2.2) FU (h, x0, x1, x2, x3)
def Cy_fillIn  (h : Hp) (a0 a1 a2 : Int) : Option (Int × Hp) :=
  Cy_fillIn_b2 h a0 a1 a2 0
def Cy_itemOf_b2_body  (k2 : Hp × Int × Int × Int → Option (Int × Hp)) (h : Hp) (x0 x1 x2 : Int) : Option (Int × Hp) :=
  if w32 x2 < 3 then cl (Cc_at h 1 ((3 * x0) + x2)) (fun r1 h2 => if w32 r1 = w32 x1 then some (x2, h2) else k2 (h2, x0, x1, (x2 + 1))) else some ((-1), h)
def Cy_itemOf_b2  (h : Hp) (x0 x1 x2 : Int) : Option (Int × Hp) := itr (fun k s => Cy_itemOf_b2_body  k s.1 s.2.1 s.2.2.1 s.2.2.2) FU (h, x0, x1, x2)
def Cy_itemOf  (h : Hp) (a0 a1 : Int) : Option (Int × Hp) :=
  Cy_itemOf_b2 h a0 a1 0
def Tp_fail  (h : Hp) (a0 : Int) : Option (Int × Hp) :=
  cC 8 a0 (pu (up h a0 3 (h a0 2)) (fun h2 => some (0, h2)))
def Tp_next_b2_body  (k2 : Hp × Int × Int → Option (Int × Hp)) (h : Hp) (x0 x1 : Int) : Option (Int × Hp) :=
  if w32 x1 < 240 then cC 8 x0 (if w32 (h x0 2) < 0 then some (0, h) else if w32 (h x0 2) < w32 (h x0 1) then if w32 (h x0 2) < 240 then cX 100 22 (h x0 2) (if w32 (rd h 22 (w32 (h x0 2))) = 32 then pu (up h x0 2 ((h x0 2) + 1)) (fun h3 => k2 (h3, x0, (x1 + 1))) else cX 100 22 (h x0 2) (some ((rd h 22 (w32 (h x0 2))), h))) else some (0, h) else some (0, h)) else some (0, h)
def Tp_next_b2  (h : Hp) (x0 x1 : Int) : Option (Int × Hp) := itr (fun k s => Tp_next_b2_body  k s.1 s.2.1 s.2.2) FU (h, x0, x1)
def Tp_next  (h : Hp) (a0 : Int) : Option (Int × Hp) :=
  Tp_next_b2 h a0 0
def Tp_here  (h : Hp) (a0 : Int) : Option (Int × Hp) :=
  cC 8 a0 (if w32 (h a0 2) < 0 then some (0, h) else if w32 (h a0 2) < w32 (h a0 1) then if w32 (h a0 2) < 240 then cX 100 22 (h a0 2) (some ((rd h 22 (w32 (h a0 2))), h)) else some (0, h) else some (0, h))
def Tp_isDigit  (h : Hp) (a0 : Int) : Option (Int × Hp) :=
  if w32 a0 < 48 then some (0, h) else if 57 < w32 a0 then some (0, h) else some (1, h)
def Tp_number_b74  (h : Hp) (x0 : Int) : Option (Int × Hp) :=
  cC 8 x0 (cl (Tp_fail h x0) (fun r9 h10 => some ((-1), h10)))
def Tp_number_b93  (h : Hp) (x0 : Int) : Option (Int × Hp) :=
  cC 8 x0 (pu (up h x0 2 ((h x0 2) - 1)) (fun h16 => cl (Tp_fail h16 x0) (fun r17 h18 => some ((-1), h18))))
def Tp_number_b61  (h : Hp) (x0 x2 x3 x4 x5 x6 : Int) : Option (Int × Hp) :=
  if w32 x6 = 0 then Tp_number_b74 h x0 else cl (Tp_isDigit h x4) (fun r12 h13 => if w32 r12 = 0 then if w32 x5 < w32 x2 then Tp_number_b93 h13 x0 else if w32 x3 < w32 x5 then Tp_number_b93 h13 x0 else some (x5, h13) else Tp_number_b74 h13 x0)
def Tp_number_b12_body  (k12 : Hp × Int × Int × Int × Int × Int × Int × Int → Option (Int × Hp)) (h : Hp) (x0 x1 x2 x3 x4 x5 x6 : Int) : Option (Int × Hp) :=
  if w32 x6 < w32 x1 then cl (Tp_isDigit h x4) (fun r5 h6 => if w32 r5 = 0 then Tp_number_b61 h6 x0 x2 x3 x4 x5 x6 else bd (((x5 * 10) + x4) - 48) (fun v20 => cC 8 x0 (pu (up h6 x0 2 ((h6 x0 2) + 1)) (fun h22 => cl (Tp_here h22 x0) (fun r23 h24 => k12 (h24, x0, x1, x2, x3, r23, v20, (x6 + 1))))))) else Tp_number_b61 h x0 x2 x3 x4 x5 x6
def Tp_number_b12  (h : Hp) (x0 x1 x2 x3 x4 x5 x6 : Int) : Option (Int × Hp) := itr (fun k s => Tp_number_b12_body  k s.1 s.2.1 s.2.2.1 s.2.2.2.1 s.2.2.2.2.1 s.2.2.2.2.2.1 s.2.2.2.2.2.2.1 s.2.2.2.2.2.2.2) FU (h, x0, x1, x2, x3, x4, x5, x6)
def Tp_number  (h : Hp) (a0 a1 a2 a3 : Int) : Option (Int × Hp) :=
  cC 8 a0 (cl (Tp_next h a0) (fun r2 h3 => Tp_number_b12 h3 a0 a1 a2 a3 r2 0 0))
def Cy_items_b72  (h : Hp) (x0 : Int) : Option (Int × Hp) :=
  cC 8 x0 (cl (Tp_fail h x0) (fun r18 h19 => some ((r18 % 2), h19)))
def Cy_items_b22_body  (k22 : Hp × Int × Int × Int × Int × Int × Int → Option (Int × Hp)) (h : Hp) (x0 x1 x2 x3 x4 x5 : Int) : Option (Int × Hp) :=
  if 3 < w32 x5 then cC 8 x0 (cl (Tp_fail h x0) (fun r7 h8 => some ((r7 % 2), h8))) else cC 8 x0 (cl (Tp_next h x0) (fun r11 h12 => if w32 r11 = 0 then some (1, h12) else if w32 r11 = 59 then some (1, h12) else cl (Cy_itemOf h12 x1 r11) (fun r14 h15 => if w32 r14 = (-1) then Cy_items_b72 h15 x0 else cl (Cc_holds h15 x4 r14) (fun r21 h22 => if w32 r21 = 0 then bd (ior x4 (ishl 1 r14)) (fun v24 => pu (up h22 x0 2 ((h22 x0 2) + 1)) (fun h25 => cl (Cc_at h25 2 ((3 * x1) + r14)) (fun r26 h27 => cl (Cc_at h27 3 ((3 * x1) + r14)) (fun r29 h30 => cl (Tp_number h30 x0 2 r26 r29) (fun r32 h33 => if w32 r32 = (-1) then some (0, h33) else cl (Cc_put h33 x2 (x3 + r14) r32) (fun r35 h36 => k22 (h36, x0, x1, x2, x3, v24, (x5 + 1)))))))) else Cy_items_b72 h22 x0))))
def Cy_items_b22  (h : Hp) (x0 x1 x2 x3 x4 x5 : Int) : Option (Int × Hp) := itr (fun k s => Cy_items_b22_body  k s.1 s.2.1 s.2.2.1 s.2.2.2.1 s.2.2.2.2.1 s.2.2.2.2.2.1 s.2.2.2.2.2.2) FU (h, x0, x1, x2, x3, x4, x5)
def Cy_items  (h : Hp) (a0 a1 a2 a3 : Int) : Option (Int × Hp) :=
  cl (Cy_fillIn h a1 a2 a3) (fun r1 h2 => cC 8 a0 (pu (up h2 a0 2 ((h2 a0 2) + 1)) (fun h5 => Cy_items_b22 h5 a0 a1 a2 a3 0 0)))
def Cy_clause_b120  (h : Hp) (x1 : Int) : Option (Int × Hp) :=
  cC 8 x1 (cl (Tp_fail h x1) (fun r21 h22 => some ((r21 % 2), h22)))
def Cy_clause_b77  (h : Hp) (x0 x1 x2 : Int) : Option (Int × Hp) :=
  if w32 x2 = 119 then cC 0 x0 (if w32 (h x0 5) < 8 then pu (up h x0 5 ((h x0 5) + 1)) (fun h16 => cl (Cy_items h16 x1 2 (x0 + 3) (3 * ((h16 x0 5) - 1))) (fun r17 h18 => some ((r17 % 2), h18))) else Cy_clause_b120 h x1) else Cy_clause_b120 h x1
def Cy_clause_b34  (h : Hp) (x0 x1 x2 : Int) : Option (Int × Hp) :=
  if w32 x2 = 112 then cC 0 x0 (if w32 (h x0 4) < 6 then pu (up h x0 4 ((h x0 4) + 1)) (fun h11 => cl (Cy_items h11 x1 1 (x0 + 2) (3 * ((h11 x0 4) - 1))) (fun r12 h13 => some ((r12 % 2), h13))) else Cy_clause_b77 h x0 x1 x2) else Cy_clause_b77 h x0 x1 x2
def Cy_clause  (h : Hp) (a0 a1 : Int) : Option (Int × Hp) :=
  cC 8 a1 (cl (Tp_next h a1) (fun r2 h3 => if w32 r2 = 115 then cC 0 a0 (if w32 (h3 a0 3) = 0 then pu (up h3 a0 3 1) (fun h6 => cl (Cy_items h6 a1 0 (a0 + 1) 0) (fun r7 h8 => some ((r7 % 2), h8))) else Cy_clause_b34 h3 a0 a1 r2) else Cy_clause_b34 h3 a0 a1 r2))
def Cy_isWhole_b16_body  (k16 : Hp × Int × Int × Int → Option (Int × Hp)) (h : Hp) (x0 x1 x2 : Int) : Option (Int × Hp) :=
  cC 0 x0 (if w32 x2 < w32 (h x0 5) then if w32 x1 = 0 then k16 (h, x0, 0, (x2 + 1)) else cl (Cy_whoOf h x0 x2) (fun r3 h4 => if w32 r3 < w32 (h4 x0 4) then cl (Cy_whomOf h4 x0 x2) (fun r6 h7 => if w32 r6 < w32 (h7 x0 4) then cl (Cy_whoOf h7 x0 x2) (fun r9 h10 => cl (Cy_whomOf h10 x0 x2) (fun r12 h13 => if w32 r9 = w32 r12 then k16 (h13, x0, 0, (x2 + 1)) else k16 (h13, x0, 1, (x2 + 1)))) else k16 (h7, x0, 0, (x2 + 1))) else k16 (h4, x0, 0, (x2 + 1))) else some ((x1 % 2), h))
def Cy_isWhole_b16  (h : Hp) (x0 x1 x2 : Int) : Option (Int × Hp) := itr (fun k s => Cy_isWhole_b16_body  k s.1 s.2.1 s.2.2.1 s.2.2.2) FU (h, x0, x1, x2)
def Cy_isWhole  (h : Hp) (a0 : Int) : Option (Int × Hp) :=
  cC 0 a0 (if w32 (h a0 4) < 2 then Cy_isWhole_b16 h a0 0 0 else Cy_isWhole_b16 h a0 1 0)
def Tp_need  (h : Hp) (a0 a1 : Int) : Option (Int × Hp) :=
  cC 8 a0 (cl (Tp_next h a0) (fun r2 h3 => if w32 r2 = w32 a1 then pu (up h3 a0 2 ((h3 a0 2) + 1)) (fun h5 => some (1, h5)) else cl (Tp_fail h3 a0) (fun r6 h7 => some ((r6 % 2), h7))))
def Tp_start  (h : Hp) (a0 : Int) : Option (Int × Hp) :=
  cC 8 a0 (pu (up h a0 2 0) (fun h2 => pu (up h2 a0 3 (-1)) (fun h3 => some (0, h3))))
def Cy_read_b30_body  (k30 : Hp × Int × Int × Int → Option (Int × Hp)) (h : Hp) (x0 x1 x2 : Int) : Option (Int × Hp) :=
  if 240 < w32 x2 then cC 8 x1 (cl (Tp_fail h x1) (fun r13 h14 => some ((r13 % 2), h14))) else cC 0 x0 (cl (Cy_clause h x0 x1) (fun r17 h18 => if w32 r17 = 0 then some (0, h18) else cC 8 x1 (cl (Tp_next h18 x1) (fun r21 h22 => if w32 r21 = 0 then cl (Cy_isWhole h22 x0) (fun r24 h25 => if w32 r24 = 0 then cl (Tp_fail h25 x1) (fun r27 h28 => if w32 r27 = 0 then some (0, h28) else some (1, h28)) else some (1, h25)) else cl (Tp_need h22 x1 59) (fun r30 h31 => if w32 r30 = 0 then some (0, h31) else k30 (h31, x0, x1, (x2 + 1)))))))
def Cy_read_b30  (h : Hp) (x0 x1 x2 : Int) : Option (Int × Hp) := itr (fun k s => Cy_read_b30_body  k s.1 s.2.1 s.2.2.1 s.2.2.2) FU (h, x0, x1, x2)
def Cy_read  (h : Hp) (a0 a1 : Int) : Option (Int × Hp) :=
  cC 0 a0 (pu (up h a0 3 0) (fun h2 => pu (up h2 a0 4 0) (fun h3 => pu (up h3 a0 5 0) (fun h4 => cl (Cy_fillIn h4 0 (a0 + 1) 0) (fun r5 h6 => cC 8 a1 (cl (Tp_start h6 a1) (fun r9 h10 => Cy_read_b30 h10 a0 a1 0)))))))
def Lw_emit  (h : Hp) (a0 a1 : Int) : Option (Int × Hp) :=
  cC 2 a0 (if w32 (h a0 2) < 256 then cl (Cc_put h (a0 + 1) (h a0 2) a1) (fun r2 h3 => pu (up h3 a0 2 ((h3 a0 2) + 1)) (fun h5 => some (0, h5))) else some (0, h))
def Lw_isComparing  (h : Hp) (a0 : Int) : Option (Int × Hp) :=
  if w32 a0 = 61 then some (1, h) else if w32 a0 = 60 then some (1, h) else if w32 a0 = 62 then some (1, h) else some (0, h)
def Lw_atom_b105_body (kf : Hp × Int × Int × Int → Option (Int × Hp)) (k105 : Hp × Int × Int × Int × Int → Option (Int × Hp)) (h : Hp) (x0 x1 x3 x4 : Int) : Option (Int × Hp) :=
  cN 5 (if w32 x4 < w32 ((SH 5).2 : Int) then cl (Cc_at h 5 x4) (fun r20 h21 => if w32 r20 = w32 x3 then cC 8 x1 (pu (up h21 x1 2 ((h21 x1 2) + 1)) (fun h24 => cC 2 x0 (cl (Lw_emit h24 x0 (500 + x4)) (fun r26 h27 => some (1, h27))))) else k105 (h21, x0, x1, x3, (x4 + 1))) else cC 8 x1 (cl (Tp_fail h x1) (fun r30 h31 => some ((r30 % 2), h31))))
def Lw_atom_b105 (kf : Hp × Int × Int × Int → Option (Int × Hp)) (h : Hp) (x0 x1 x3 x4 : Int) : Option (Int × Hp) := itr (fun k s => Lw_atom_b105_body kf k s.1 s.2.1 s.2.2.1 s.2.2.2.1 s.2.2.2.2) FU (h, x0, x1, x3, x4)
def Lw_atom (kf : Hp × Int × Int × Int → Option (Int × Hp)) (h : Hp) (a0 a1 a2 : Int) : Option (Int × Hp) :=
  cC 8 a1 (cl (Tp_next h a1) (fun r2 h3 => if w32 r2 = 91 then if w32 a2 < 6 then pu (up h3 a1 2 ((h3 a1 2) + 1)) (fun h5 => cC 2 a0 (cl (kf (h5, a0, a1, (a2 + 1))) (fun r7 h8 => if w32 r7 = 0 then some (0, h8) else cl (Tp_need h8 a1 93) (fun r10 h11 => if w32 r10 = 0 then some (0, h11) else some (1, h11))))) else cl (Tp_fail h3 a1) (fun r13 h14 => some ((r13 % 2), h14)) else cl (Tp_isDigit h3 r2) (fun r16 h17 => if w32 r16 = 0 then Lw_atom_b105 kf h17 a0 a1 r2 0 else cl (Tp_number h17 a1 4 0 9999) (fun r33 h34 => cC 2 a0 (cl (Lw_emit h34 a0 (1000 + (if 0 < w32 r33 then r33 else 0))) (fun r37 h38 => if w32 r33 = (-1) then some (0, h38) else some (1, h38)))))))
def Lw_term_b42 (kf : Hp × Int × Int × Int → Option (Int × Hp)) (k13 : Hp × Int × Int × Int × Int → Option (Int × Hp)) (h : Hp) (x0 x1 x2 x3 x4 : Int) : Option (Int × Hp) :=
  cC 8 x1 (pu (up h x1 2 ((h x1 2) + 1)) (fun h10 => cC 2 x0 (cl (Lw_atom kf h10 x0 x1 x2) (fun r12 h13 => if w32 r12 = 0 then some (0, h13) else cl (Lw_emit h13 x0 x4) (fun r15 h16 => k13 (h16, x0, x1, x2, (x3 + 1)))))))
def Lw_term_b13_body (kf : Hp × Int × Int × Int → Option (Int × Hp)) (k13 : Hp × Int × Int × Int × Int → Option (Int × Hp)) (h : Hp) (x0 x1 x2 x3 : Int) : Option (Int × Hp) :=
  if w32 x3 < 240 then cC 8 x1 (cl (Tp_next h x1) (fun r6 h7 => if w32 r6 = 42 then Lw_term_b42 kf k13 h7 x0 x1 x2 x3 r6 else if w32 r6 = 47 then Lw_term_b42 kf k13 h7 x0 x1 x2 x3 r6 else some (1, h7))) else cC 8 x1 (cl (Tp_fail h x1) (fun r19 h20 => some ((r19 % 2), h20)))
def Lw_term_b13 (kf : Hp × Int × Int × Int → Option (Int × Hp)) (h : Hp) (x0 x1 x2 x3 : Int) : Option (Int × Hp) := itr (fun k s => Lw_term_b13_body kf k s.1 s.2.1 s.2.2.1 s.2.2.2.1 s.2.2.2.2) FU (h, x0, x1, x2, x3)
def Lw_term (kf : Hp × Int × Int × Int → Option (Int × Hp)) (h : Hp) (a0 a1 a2 : Int) : Option (Int × Hp) :=
  cC 2 a0 (cl (Lw_atom kf h a0 a1 a2) (fun r2 h3 => if w32 r2 = 0 then some (0, h3) else Lw_term_b13 kf h3 a0 a1 a2 0))
def Lw_sum_b42 (kf : Hp × Int × Int × Int → Option (Int × Hp)) (k13 : Hp × Int × Int × Int × Int → Option (Int × Hp)) (h : Hp) (x0 x1 x2 x3 x4 : Int) : Option (Int × Hp) :=
  cC 8 x1 (pu (up h x1 2 ((h x1 2) + 1)) (fun h10 => cC 2 x0 (cl (Lw_term kf h10 x0 x1 x2) (fun r12 h13 => if w32 r12 = 0 then some (0, h13) else cl (Lw_emit h13 x0 x4) (fun r15 h16 => k13 (h16, x0, x1, x2, (x3 + 1)))))))
def Lw_sum_b13_body (kf : Hp × Int × Int × Int → Option (Int × Hp)) (k13 : Hp × Int × Int × Int × Int → Option (Int × Hp)) (h : Hp) (x0 x1 x2 x3 : Int) : Option (Int × Hp) :=
  if w32 x3 < 240 then cC 8 x1 (cl (Tp_next h x1) (fun r6 h7 => if w32 r6 = 43 then Lw_sum_b42 kf k13 h7 x0 x1 x2 x3 r6 else if w32 r6 = 45 then Lw_sum_b42 kf k13 h7 x0 x1 x2 x3 r6 else some (1, h7))) else cC 8 x1 (cl (Tp_fail h x1) (fun r19 h20 => some ((r19 % 2), h20)))
def Lw_sum_b13 (kf : Hp × Int × Int × Int → Option (Int × Hp)) (h : Hp) (x0 x1 x2 x3 : Int) : Option (Int × Hp) := itr (fun k s => Lw_sum_b13_body kf k s.1 s.2.1 s.2.2.1 s.2.2.2.1 s.2.2.2.2) FU (h, x0, x1, x2, x3)
def Lw_sum_body (kf : Hp × Int × Int × Int → Option (Int × Hp)) (h : Hp) (a0 a1 a2 : Int) : Option (Int × Hp) :=
  cC 2 a0 (cl (Lw_term kf h a0 a1 a2) (fun r2 h3 => if w32 r2 = 0 then some (0, h3) else Lw_sum_b13 kf h3 a0 a1 a2 0))
def Lw_sum_f : Hp × Int × Int × Int → Option (Int × Hp) := itr (fun k s => Lw_sum_body k s.1 s.2.1 s.2.2.1 s.2.2.2) RF
def Lw_sum (h : Hp) (a0 a1 a2 : Int) : Option (Int × Hp) := Lw_sum_f (h, a0, a1, a2)
def Lw_moreUnits_b2_body (kf : Hp × Int × Int × Int × Int → Option (Int × Hp)) (k2 : Hp × Int × Int × Int × Int → Option (Int × Hp)) (h : Hp) (x0 x1 x2 x3 : Int) : Option (Int × Hp) :=
  if w32 x3 < 240 then cC 8 x1 (cl (Tp_next h x1) (fun r2 h3 => if w32 r2 = 38 then pu (up h3 x1 2 ((h3 x1 2) + 1)) (fun h5 => cC 2 x0 (cl (kf (h5, x0, x1, x2, 0)) (fun r7 h8 => if w32 r7 = 0 then some (0, h8) else cl (Lw_emit h8 x0 38) (fun r10 h11 => k2 (h11, x0, x1, x2, (x3 + 1)))))) else some (1, h3))) else some (1, h)
def Lw_moreUnits_b2 (kf : Hp × Int × Int × Int × Int → Option (Int × Hp)) (h : Hp) (x0 x1 x2 x3 : Int) : Option (Int × Hp) := itr (fun k s => Lw_moreUnits_b2_body kf k s.1 s.2.1 s.2.2.1 s.2.2.2.1 s.2.2.2.2) FU (h, x0, x1, x2, x3)
def Lw_moreUnits (kf : Hp × Int × Int × Int × Int → Option (Int × Hp)) (h : Hp) (a0 a1 a2 : Int) : Option (Int × Hp) :=
  Lw_moreUnits_b2 kf h a0 a1 a2 0
def Lw_moreTruths_b2_body (kf : Hp × Int × Int × Int × Int → Option (Int × Hp)) (k2 : Hp × Int × Int × Int × Int → Option (Int × Hp)) (h : Hp) (x0 x1 x2 x3 : Int) : Option (Int × Hp) :=
  if w32 x3 < 240 then cC 8 x1 (cl (Tp_next h x1) (fun r2 h3 => if w32 r2 = 124 then pu (up h3 x1 2 ((h3 x1 2) + 1)) (fun h5 => cC 2 x0 (cl (kf (h5, x0, x1, x2, 0)) (fun r7 h8 => if w32 r7 = 0 then some (0, h8) else cl (Lw_moreUnits kf h8 x0 x1 x2) (fun r10 h11 => if w32 r10 = 0 then some (0, h11) else cl (Lw_emit h11 x0 124) (fun r13 h14 => k2 (h14, x0, x1, x2, (x3 + 1))))))) else some (1, h3))) else some (1, h)
def Lw_moreTruths_b2 (kf : Hp × Int × Int × Int × Int → Option (Int × Hp)) (h : Hp) (x0 x1 x2 x3 : Int) : Option (Int × Hp) := itr (fun k s => Lw_moreTruths_b2_body kf k s.1 s.2.1 s.2.2.1 s.2.2.2.1 s.2.2.2.2) FU (h, x0, x1, x2, x3)
def Lw_moreTruths (kf : Hp × Int × Int × Int × Int → Option (Int × Hp)) (h : Hp) (a0 a1 a2 : Int) : Option (Int × Hp) :=
  Lw_moreTruths_b2 kf h a0 a1 a2 0
def Lw_condition (kf : Hp × Int × Int × Int × Int → Option (Int × Hp)) (h : Hp) (a0 a1 a2 a3 : Int) : Option (Int × Hp) :=
  cC 2 a0 (cl (kf (h, a0, a1, a2, a3)) (fun r2 h3 => if w32 r2 = 0 then some (0, h3) else cl (Lw_moreUnits kf h3 a0 a1 a2) (fun r5 h6 => if w32 r5 = 0 then some (0, h6) else cl (Lw_moreTruths kf h6 a0 a1 a2) (fun r8 h9 => if w32 r8 = 0 then some (0, h9) else some (1, h9)))))
def Lw_nested (kf : Hp × Int × Int × Int × Int → Option (Int × Hp)) (h : Hp) (a0 a1 a2 a3 : Int) : Option (Int × Hp) :=
  if w32 a2 < 6 then cC 8 a1 (pu (up h a1 2 ((h a1 2) + 1)) (fun h2 => if w32 a3 = 40 then cC 2 a0 (cl (Lw_condition kf h2 a0 a1 (a2 + 1) 0) (fun r4 h5 => if w32 r4 = 0 then some (0, h5) else cl (Tp_need h5 a1 41) (fun r7 h8 => if w32 r7 = 0 then some (0, h8) else some (1, h8)))) else cC 2 a0 (cl (kf (h2, a0, a1, (a2 + 1), 0)) (fun r11 h12 => if w32 r11 = 0 then some (0, h12) else cl (Lw_emit h12 a0 33) (fun r14 h15 => some (1, h15)))))) else cC 8 a1 (cl (Tp_fail h a1) (fun r18 h19 => some ((r18 % 2), h19)))
def Lw_unit_b24 (kf : Hp × Int × Int × Int × Int → Option (Int × Hp)) (h : Hp) (x0 x1 x2 x4 : Int) : Option (Int × Hp) :=
  cC 2 x0 (cl (Lw_nested kf h x0 x1 x2 x4) (fun r6 h7 => some ((r6 % 2), h7)))
def Lw_unit_b48 (kf : Hp × Int × Int × Int × Int → Option (Int × Hp)) (h : Hp) (x0 x1 x2 : Int) : Option (Int × Hp) :=
  cC 8 x1 (cl (Tp_next h x1) (fun r14 h15 => cl (Lw_isComparing h15 r14) (fun r17 h18 => if w32 r17 = 0 then cl (Tp_fail h18 x1) (fun r20 h21 => some ((r20 % 2), h21)) else pu (up h18 x1 2 ((h18 x1 2) + 1)) (fun h23 => cC 2 x0 (cl (Lw_sum h23 x0 x1 x2) (fun r25 h26 => if w32 r25 = 0 then some (0, h26) else cl (Lw_emit h26 x0 r14) (fun r28 h29 => some (1, h29))))))))
def Lw_unit_b33 (kf : Hp × Int × Int × Int × Int → Option (Int × Hp)) (h : Hp) (x0 x1 x2 x3 : Int) : Option (Int × Hp) :=
  if w32 x3 = 0 then cC 2 x0 (cl (Lw_sum h x0 x1 x2) (fun r10 h11 => if w32 r10 = 0 then some (0, h11) else Lw_unit_b48 kf h11 x0 x1 x2)) else Lw_unit_b48 kf h x0 x1 x2
def Lw_unit_body (kf : Hp × Int × Int × Int × Int → Option (Int × Hp)) (h : Hp) (a0 a1 a2 a3 : Int) : Option (Int × Hp) :=
  cC 8 a1 (cl (Tp_next h a1) (fun r2 h3 => if w32 a3 = 0 then if w32 r2 = 33 then Lw_unit_b24 kf h3 a0 a1 a2 r2 else if w32 r2 = 40 then Lw_unit_b24 kf h3 a0 a1 a2 r2 else Lw_unit_b33 kf h3 a0 a1 a2 a3 else Lw_unit_b33 kf h3 a0 a1 a2 a3))
def Lw_unit_f : Hp × Int × Int × Int × Int → Option (Int × Hp) := itr (fun k s => Lw_unit_body k s.1 s.2.1 s.2.2.1 s.2.2.2.1 s.2.2.2.2) RF
def Lw_unit (h : Hp) (a0 a1 a2 a3 : Int) : Option (Int × Hp) := Lw_unit_f (h, a0, a1, a2, a3)
def Lw_clause_b110  (h : Hp) (x0 : Int) : Option (Int × Hp) :=
  cC 2 x0 (cl (Lw_emit h x0 59) (fun r26 h27 => some (1, h27)))
def Lw_clause_b72  (h : Hp) (x0 x1 x3 : Int) : Option (Int × Hp) :=
  cC 2 x0 (cl (Lw_condition Lw_unit_f h x0 x1 0 x3) (fun r12 h13 => if w32 r12 = 0 then some (0, h13) else cC 8 x1 (cl (Tp_need h13 x1 63) (fun r16 h17 => if w32 r16 = 0 then some (0, h17) else cl (Lw_emit h17 x0 63) (fun r19 h20 => cl (Lw_sum h20 x0 x1 0) (fun r22 h23 => if w32 r22 = 0 then some (0, h23) else Lw_clause_b110 h23 x0))))))
def Lw_clause_b58  (h : Hp) (x0 x1 x3 : Int) : Option (Int × Hp) :=
  if w32 x3 = 0 then Lw_clause_b72 h x0 x1 x3 else cC 8 x1 (cl (Tp_next h x1) (fun r30 h31 => cl (Lw_isComparing h31 r30) (fun r33 h34 => if w32 r33 = 0 then Lw_clause_b110 h34 x0 else Lw_clause_b72 h34 x0 x1 x3)))
def Lw_clause_b42  (h : Hp) (x0 x1 y0 : Int) : Option (Int × Hp) :=
  if w32 y0 = 0 then Lw_clause_b58 h x0 x1 y0 else cC 2 x0 (cl (Lw_sum h x0 x1 0) (fun r37 h38 => if w32 r37 = 0 then some (0, h38) else Lw_clause_b58 h38 x0 x1 y0))
def Lw_clause  (h : Hp) (a0 a1 : Int) : Option (Int × Hp) :=
  cC 8 a1 (cl (Tp_need h a1 121) (fun r2 h3 => if w32 r2 = 0 then some (0, h3) else cl (Tp_need h3 a1 58) (fun r5 h6 => if w32 r5 = 0 then some (0, h6) else cl (Tp_next h6 a1) (fun r8 h9 => if w32 r8 = 33 then Lw_clause_b42 h9 a0 a1 0 else if w32 r8 = 40 then Lw_clause_b42 h9 a0 a1 0 else Lw_clause_b42 h9 a0 a1 1))))
def Lw_read_b11_body  (k11 : Hp × Int × Int × Int → Option (Int × Hp)) (h : Hp) (x0 x1 x2 : Int) : Option (Int × Hp) :=
  if 240 < w32 x2 then cC 8 x1 (cl (Tp_fail h x1) (fun r8 h9 => some ((r8 % 2), h9))) else cC 2 x0 (cl (Lw_clause h x0 x1) (fun r12 h13 => if w32 r12 = 0 then some (0, h13) else cC 8 x1 (cl (Tp_next h13 x1) (fun r16 h17 => if w32 r16 = 0 then some (1, h17) else cl (Tp_need h17 x1 59) (fun r19 h20 => if w32 r19 = 0 then some (0, h20) else k11 (h20, x0, x1, (x2 + 1)))))))
def Lw_read_b11  (h : Hp) (x0 x1 x2 : Int) : Option (Int × Hp) := itr (fun k s => Lw_read_b11_body  k s.1 s.2.1 s.2.2.1 s.2.2.2) FU (h, x0, x1, x2)
def Lw_read  (h : Hp) (a0 a1 : Int) : Option (Int × Hp) :=
  cC 2 a0 (pu (up h a0 2 0) (fun h2 => cC 8 a1 (cl (Tp_start h2 a1) (fun r4 h5 => Lw_read_b11 h5 a0 a1 0))))
def Ss_digit_b44  (h : Hp) (x0 x2 x4 : Int) : Option (Int × Hp) :=
  cC 6 x0 (cl (Cc_put h (x0 + 1) ((3 * (h x0 1)) + x2) x4) (fun r2 h3 => some (1, h3)))
def Ss_digit  (h : Hp) (a0 a1 a2 a3 : Int) : Option (Int × Hp) :=
  if w32 a3 < w32 a2 then Ss_digit_b44 h a0 a2 (-1) else cC 8 a1 (cl (Tp_next h a1) (fun r6 h7 => cl (Tp_isDigit h7 r6) (fun r9 h10 => if w32 r9 = 0 then cl (Tp_fail h10 a1) (fun r12 h13 => some ((r12 % 2), h13)) else bd (r6 - 48) (fun v15 => pu (up h10 a1 2 ((h10 a1 2) + 1)) (fun h16 => Ss_digit_b44 h16 a0 a2 v15)))))
def Ss_oneStep_b7_body  (k7 : Hp × Int × Int × Int × Int → Option (Int × Hp)) (h : Hp) (x0 x1 x2 x3 : Int) : Option (Int × Hp) :=
  cN 6 (if w32 x3 < w32 ((SH 6).2 : Int) then cl (Cc_at h 6 x3) (fun r6 h7 => if w32 r6 = w32 x2 then cC 8 x1 (pu (up h7 x1 2 ((h7 x1 2) + 1)) (fun h10 => cC 6 x0 (cl (Cc_put h10 (x0 + 1) (3 * (h10 x0 1)) x3) (fun r12 h13 => cl (Cc_at h13 7 x3) (fun r15 h16 => cl (Ss_digit h16 x0 x1 1 r15) (fun r18 h19 => if w32 r18 = 0 then some (0, h19) else cl (Cc_at h19 7 x3) (fun r21 h22 => cl (Ss_digit h22 x0 x1 2 r21) (fun r24 h25 => if w32 r24 = 0 then some (0, h25) else some (1, h25))))))))) else k7 (h7, x0, x1, x2, (x3 + 1))) else cC 8 x1 (cl (Tp_fail h x1) (fun r28 h29 => some ((r28 % 2), h29))))
def Ss_oneStep_b7  (h : Hp) (x0 x1 x2 x3 : Int) : Option (Int × Hp) := itr (fun k s => Ss_oneStep_b7_body  k s.1 s.2.1 s.2.2.1 s.2.2.2.1 s.2.2.2.2) FU (h, x0, x1, x2, x3)
def Ss_oneStep  (h : Hp) (a0 a1 : Int) : Option (Int × Hp) :=
  cC 8 a1 (cl (Tp_next h a1) (fun r2 h3 => Ss_oneStep_b7 h3 a0 a1 r2 0))
def Ss_read_b64  (h : Hp) (x1 : Int) : Option (Int × Hp) :=
  cC 8 x1 (cl (Tp_fail h x1) (fun r17 h18 => some ((r17 % 2), h18)))
def Ss_read_b11_body  (k11 : Hp × Int × Int × Int → Option (Int × Hp)) (h : Hp) (x0 x1 x2 : Int) : Option (Int × Hp) :=
  if w32 x2 < 16 then cC 6 x0 (cl (Ss_oneStep h x0 x1) (fun r8 h9 => if w32 r8 = 0 then some (0, h9) else pu (up h9 x0 1 ((h9 x0 1) + 1)) (fun h11 => cC 8 x1 (cl (Tp_next h11 x1) (fun r13 h14 => if w32 r13 = 0 then some (1, h14) else if w32 (h14 x0 1) = 16 then Ss_read_b64 h14 x1 else cl (Tp_need h14 x1 59) (fun r20 h21 => if w32 r20 = 0 then Ss_read_b64 h21 x1 else k11 (h21, x0, x1, (x2 + 1)))))))) else cC 8 x1 (cl (Tp_fail h x1) (fun r24 h25 => some ((r24 % 2), h25)))
def Ss_read_b11  (h : Hp) (x0 x1 x2 : Int) : Option (Int × Hp) := itr (fun k s => Ss_read_b11_body  k s.1 s.2.1 s.2.2.1 s.2.2.2) FU (h, x0, x1, x2)
def Ss_read  (h : Hp) (a0 a1 : Int) : Option (Int × Hp) :=
  cC 6 a0 (pu (up h a0 1 0) (fun h2 => cC 8 a1 (cl (Tp_start h2 a1) (fun r4 h5 => Ss_read_b11 h5 a0 a1 0))))
def Cc_readAs  (h : Hp) (a0 a1 : Int) : Option (Int × Hp) :=
  if w32 a1 = 0 then cC 9 a0 (cC 0 (h a0 2) (cl (Cy_read h (h a0 2) 21) (fun r3 h4 => some ((r3 % 2), h4)))) else if w32 a1 = 1 then cC 9 a0 (cl (Cc_lawAt h a0 (h a0 5)) (fun r8 h9 => cC 2 r8 (cl (Lw_read h9 r8 21) (fun r12 h13 => some ((r12 % 2), h13))))) else cC 9 a0 (cl (Cc_sessionAt h a0 (h a0 7)) (fun r17 h18 => cC 6 r17 (cl (Ss_read h18 r17 21) (fun r21 h22 => some ((r21 % 2), h22)))))
def Cc_fault  (h : Hp) (a0 a1 : Int) : Option (Int × Hp) :=
  if w32 a1 < 0 then some ((-2), h) else if 2 < w32 a1 then some ((-2), h) else cC 9 a0 (cl (Cc_readAs h a0 a1) (fun r2 h3 => if w32 r2 = 0 then cC 8 21 (some ((h3 21 3), h3)) else some ((-1), h3)))
def Tp_add_b3_body  (k3 : Hp × Int × Int × Int → Option (Int × Hp)) (h : Hp) (x0 x1 x2 : Int) : Option (Int × Hp) :=
  if w32 x2 < 0 then some (0, h) else bd (iand (ishr x1 x2) 255) (fun v1 => if w32 v1 = 0 then k3 (h, x0, x1, (x2 + (-8))) else cC 8 x0 (if w32 (h x0 1) < 240 then cl (Cc_put h 22 (h x0 1) v1) (fun r3 h4 => pu (up h4 x0 1 ((h4 x0 1) + 1)) (fun h6 => k3 (h6, x0, x1, (x2 + (-8))))) else k3 (h, x0, x1, (x2 + (-8)))))
def Tp_add_b3  (h : Hp) (x0 x1 x2 : Int) : Option (Int × Hp) := itr (fun k s => Tp_add_b3_body  k s.1 s.2.1 s.2.2.1 s.2.2.2) FU (h, x0, x1, x2)
def Tp_add  (h : Hp) (a0 a1 : Int) : Option (Int × Hp) :=
  Tp_add_b3 h a0 a1 24
def Tp_bytesOf_b5_body  (k5 : Hp × Int × Int × Int → Option (Int × Hp)) (h : Hp) (x0 x1 x2 : Int) : Option (Int × Hp) :=
  if w32 x2 < 0 then some (x1, h) else if w32 (iand (ishr x0 x2) 255) = 0 then bd (x1 + 0) (fun v1 => k5 (h, x0, v1, (x2 + (-8)))) else bd (x1 + 1) (fun v2 => k5 (h, x0, v2, (x2 + (-8))))
def Tp_bytesOf_b5  (h : Hp) (x0 x1 x2 : Int) : Option (Int × Hp) := itr (fun k s => Tp_bytesOf_b5_body  k s.1 s.2.1 s.2.2.1 s.2.2.2) FU (h, x0, x1, x2)
def Tp_bytesOf  (h : Hp) (a0 : Int) : Option (Int × Hp) :=
  Tp_bytesOf_b5 h a0 0 24
def Cc_feed  (h : Hp) (a0 a1 a2 a3 a4 a5 : Int) : Option (Int × Hp) :=
  cl (Tp_bytesOf h a1) (fun r1 h2 => cl (Tp_bytesOf h2 a2) (fun r4 h5 => cl (Tp_bytesOf h5 a3) (fun r7 h8 => cl (Tp_bytesOf h8 a4) (fun r10 h11 => cl (Tp_bytesOf h11 a5) (fun r13 h14 => bd ((((r1 + r4) + r7) + r10) + r13) (fun v16 => cC 9 a0 (cC 8 21 (if 240 < w32 ((h14 21 1) + v16) then some ((-1), h14) else cl (Tp_add h14 21 a1) (fun r19 h20 => cl (Tp_add h20 21 a2) (fun r22 h23 => cl (Tp_add h23 21 a3) (fun r25 h26 => cl (Tp_add h26 21 a4) (fun r28 h29 => cl (Tp_add h29 21 a5) (fun r31 h32 => some ((h32 21 1), h32))))))))))))))
def Cc_liking  (h : Hp) (a0 a1 a2 : Int) : Option (Int × Hp) :=
  cC 9 a0 (cC 7 110 (cl (St_lonelyOf h 110 a1) (fun r3 h4 => cl (St_boreOf h4 110 a2) (fun r6 h7 => some ((r3 - r6), h7)))))
def Cc_seatLiking  (h : Hp) (a0 a1 a2 : Int) : Option (Int × Hp) :=
  cl (Cc_at h a1 a2) (fun r1 h2 => if w32 r1 = 9 then some (0, h2) else cC 9 a0 (cl (Cc_liking h2 a0 a2 r1) (fun r5 h6 => some (r5, h6))))
def Cc_isFirm_b28_body (k2 : Hp × Int × Int × Int → Option (Int × Hp)) (k28 : Hp × Int × Int × Int × Int → Option (Int × Hp)) (h : Hp) (x0 x1 x2 x3 : Int) : Option (Int × Hp) :=
  cC 9 x0 (cC 7 110 (if w32 x3 < w32 (h 110 4) then cl (Cc_at h x1 x2) (fun r9 h10 => if w32 r9 = w32 x3 then k28 (h10, x0, x1, x2, (x3 + 1)) else cl (Cc_liking h10 x0 x2 x3) (fun r12 h13 => cl (Cc_seatLiking h13 x0 x1 x2) (fun r15 h16 => if w32 r15 < w32 r12 then cl (Cc_liking h16 x0 x3 x2) (fun r18 h19 => cl (Cc_seatLiking h19 x0 x1 x3) (fun r21 h22 => if w32 r21 < w32 r18 then some (0, h22) else k28 (h22, x0, x1, x2, (x3 + 1)))) else k28 (h16, x0, x1, x2, (x3 + 1))))) else k2 (h, x0, x1, (x2 + 1))))
def Cc_isFirm_b28 (k2 : Hp × Int × Int × Int → Option (Int × Hp)) (h : Hp) (x0 x1 x2 x3 : Int) : Option (Int × Hp) := itr (fun k s => Cc_isFirm_b28_body k2 k s.1 s.2.1 s.2.2.1 s.2.2.2.1 s.2.2.2.2) FU (h, x0, x1, x2, x3)
def Cc_isFirm_b2_body  (k2 : Hp × Int × Int × Int → Option (Int × Hp)) (h : Hp) (x0 x1 x2 : Int) : Option (Int × Hp) :=
  cC 9 x0 (cC 7 110 (if w32 x2 < w32 (h 110 4) then cl (Cc_seatLiking h x0 x1 x2) (fun r3 h4 => if w32 r3 < 0 then some (0, h4) else bd (x2 + 1) (fun v6 => Cc_isFirm_b28 k2 h4 x0 x1 x2 v6)) else some (1, h)))
def Cc_isFirm_b2  (h : Hp) (x0 x1 x2 : Int) : Option (Int × Hp) := itr (fun k s => Cc_isFirm_b2_body  k s.1 s.2.1 s.2.2.1 s.2.2.2) FU (h, x0, x1, x2)
def Cc_isFirm  (h : Hp) (a0 a1 : Int) : Option (Int × Hp) :=
  Cc_isFirm_b2 h a0 a1 0
def Rw_rowAt  (h : Hp) (a0 a1 : Int) : Option (Int × Hp) :=
  cC 5 a0 (cl (Cc_at h 71 a1) (fun r2 h3 => some (r2, h3)))
def Rw_seatsOf_b13_body  (k13 : Hp × Int × Int × Int → Option (Int × Hp)) (h : Hp) (x0 x2 x3 : Int) : Option (Int × Hp) :=
  if w32 x3 < 0 then cC 5 x0 (some (72, h)) else cC 5 x0 (cD 10 (cl (Cc_put h 72 x3 ((w32 x2).tmod (w32 10))) (fun r8 h9 => cD 10 (bd ((w32 x2).tdiv (w32 10)) (fun v11 => k13 (h9, x0, v11, (x3 + (-1))))))))
def Rw_seatsOf_b13  (h : Hp) (x0 x2 x3 : Int) : Option (Int × Hp) := itr (fun k s => Rw_seatsOf_b13_body  k s.1 s.2.1 s.2.2.1 s.2.2.2) FU (h, x0, x2, x3)
def Rw_seatsOf  (h : Hp) (a0 a1 : Int) : Option (Int × Hp) :=
  cC 5 a0 (cl (Rw_rowAt h a0 a1) (fun r2 h3 => bd ((h3 a0 3) - 1) (fun v5 => Rw_seatsOf_b13 h3 a0 r2 v5)))
def Cc_firm_b13_body  (k13 : Hp × Int × Int × Int × Int → Option (Int × Hp)) (h : Hp) (x0 x1 x2 x3 : Int) : Option (Int × Hp) :=
  cC 9 x0 (cC 5 70 (if w32 x3 < w32 (h 70 2) then cl (Rw_seatsOf h 70 x3) (fun r7 h8 => cl (Cc_isFirm h8 x0 r7) (fun r10 h11 => if w32 r10 = 0 then k13 (h11, x0, x1, x2, (x3 + 1)) else if w32 x2 = w32 x1 then cl (Rw_rowAt h11 70 x3) (fun r13 h14 => some (r13, h14)) else k13 (h11, x0, x1, (x2 + 1), (x3 + 1)))) else if w32 x1 = (-1) then some (x2, h) else some ((-1), h)))
def Cc_firm_b13  (h : Hp) (x0 x1 x2 x3 : Int) : Option (Int × Hp) := itr (fun k s => Cc_firm_b13_body  k s.1 s.2.1 s.2.2.1 s.2.2.2.1 s.2.2.2.2) FU (h, x0, x1, x2, x3)
def Cc_firm  (h : Hp) (a0 a1 : Int) : Option (Int × Hp) :=
  cC 9 a0 (cl (Cc_isTold h a0) (fun r2 h3 => if w32 r2 = 0 then some ((-1), h3) else Cc_firm_b13 h3 a0 a1 0 0))
def Cc_gains_b35  (h : Hp) (x1 x2 x3 x4 x5 : Int) : Option (Int × Hp) :=
  if w32 x3 = w32 x2 then if w32 x4 = w32 x1 then some ((x5 + 2), h) else some (x5, h) else some (x5, h)
def Cc_gains_b24  (h : Hp) (x1 x2 x3 x4 y0 : Int) : Option (Int × Hp) :=
  if w32 x3 = w32 x4 then Cc_gains_b35 h x1 x2 x3 x4 (y0 + (-3)) else Cc_gains_b35 h x1 x2 x3 x4 y0
def Cc_gains  (h : Hp) (a0 a1 a2 a3 a4 : Int) : Option (Int × Hp) :=
  if w32 a3 = w32 a1 then Cc_gains_b24 h a1 a2 a3 a4 (-9) else cC 9 a0 (cl (Cc_isPerson h a0 a3) (fun r2 h3 => if w32 r2 = 0 then Cc_gains_b24 h3 a1 a2 a3 a4 (-9) else cl (Cc_liking h3 a0 a1 a3) (fun r5 h6 => Cc_gains_b24 h6 a1 a2 a3 a4 r5)))
def Cc_game  (h : Hp) (a0 a1 a2 a3 a4 a5 : Int) : Option (Int × Hp) :=
  cC 9 a0 (cl (Cc_areTwo h a0 a1 a2) (fun r2 h3 => if w32 r2 = 0 then some ((-1000000), h3) else if w32 a3 < 0 then some ((-1000000), h3) else if w32 a3 < 6 then if w32 a4 < 0 then some ((-1000000), h3) else if w32 a4 < 6 then if w32 a5 = 0 then cl (Cc_gains h3 a0 a1 a2 a3 a4) (fun r5 h6 => some (r5, h6)) else if w32 a5 = 1 then cl (Cc_gains h3 a0 a2 a1 a4 a3) (fun r9 h10 => some (r9, h10)) else some ((-1000000), h3) else some ((-1000000), h3) else some ((-1000000), h3)))
def Cc_give  (h : Hp) (a0 a1 : Int) : Option (Int × Hp) :=
  cC 9 a0 (cl (Cc_isTold h a0) (fun r2 h3 => if w32 r2 = 0 then some ((-1), h3) else if w32 a1 < 1 then some ((-1), h3) else if 50 < w32 a1 then some ((-1), h3) else cC 7 110 (if 999 < w32 ((h3 110 6) + a1) then some ((-1), h3) else cC 4 55 (cl (Ps_offer h3 55 110) (fun r7 h8 => cl (Ps_keep h8 55) (fun r10 h11 => pu (up h11 110 6 ((h11 110 6) + a1)) (fun h13 => some ((h13 110 6), h13))))))))
def Gv_add  (h : Hp) (a0 a1 a2 a3 : Int) : Option (Int × Hp) :=
  cC 1 a0 (if w32 (h a0 4) < 0 then some (0, h) else if w32 (h a0 4) < 10 then cY 100 66 (h a0 4) (pu (up h 66 (w32 (h a0 4)) a1) (fun h3 => cY 100 67 (h3 a0 4) (pu (up h3 67 (w32 (h3 a0 4)) a2) (fun h5 => cY 103 68 (h5 a0 4) (pu (up h5 68 (w32 (h5 a0 4)) (a3 % 2)) (fun h7 => pu (up h7 a0 4 ((h7 a0 4) + 1)) (fun h8 => some (0, h8)))))))) else some (0, h))
def Cc_given  (h : Hp) (a0 a1 a2 a3 : Int) : Option (Int × Hp) :=
  cC 9 a0 (cl (Cc_isWrong h a0 a1) (fun r2 h3 => if w32 r2 = 0 then some ((-1), h3) else if w32 a2 < 1 then some ((-1), h3) else if 30 < w32 a2 then some ((-1), h3) else cC 1 65 (if w32 (h3 65 4) < 10 then cl (Gv_add h3 65 a1 a2 a3) (fun r6 h7 => some ((h7 65 4), h7)) else some ((-1), h3))))
def Cc_graves_b21_body  (k21 : Hp × Int × Int × Int × Int → Option (Int × Hp)) (h : Hp) (x0 x2 x3 x4 : Int) : Option (Int × Hp) :=
  if 9 < w32 x4 then if w32 x2 = (-1) then some (x3, h) else some ((-1), h) else cC 9 x0 (cC 1 65 (cl (Cc_at h 69 x4) (fun r10 h11 => if 0 < w32 r10 then if w32 x3 = w32 x2 then some (x4, h11) else k21 (h11, x0, x2, (x3 + 1), (x4 + 1)) else k21 (h11, x0, x2, x3, (x4 + 1)))))
def Cc_graves_b21  (h : Hp) (x0 x2 x3 x4 : Int) : Option (Int × Hp) := itr (fun k s => Cc_graves_b21_body  k s.1 s.2.1 s.2.2.1 s.2.2.2.1 s.2.2.2.2) FU (h, x0, x2, x3, x4)
def Cc_graves  (h : Hp) (a0 a1 a2 : Int) : Option (Int × Hp) :=
  cC 9 a0 (cl (Cc_isWrong h a0 a1) (fun r2 h3 => if w32 r2 = 0 then some ((-1), h3) else cl (Cc_fit h3 a0 a1) (fun r5 h6 => Cc_graves_b21 h6 a0 a2 0 1)))
def Lg_keep_b2_body  (k2 : Hp × Int × Int × Int → Option (Int × Hp)) (h : Hp) (x0 x1 x2 : Int) : Option (Int × Hp) :=
  if w32 x2 < 60 then cC 3 x0 (cC 7 x1 (cl (Cc_at h 61 ((h x1 8) - x2)) (fun r3 h4 => cl (Cc_put h4 62 x2 r3) (fun r6 h7 => k2 (h7, x0, x1, (x2 + 1)))))) else some (0, h)
def Lg_keep_b2  (h : Hp) (x0 x1 x2 : Int) : Option (Int × Hp) := itr (fun k s => Lg_keep_b2_body  k s.1 s.2.1 s.2.2.1 s.2.2.2) FU (h, x0, x1, x2)
def Lg_keep  (h : Hp) (a0 a1 : Int) : Option (Int × Hp) :=
  Lg_keep_b2 h a0 a1 0
def Cc_image  (h : Hp) (a0 : Int) : Option (Int × Hp) :=
  cC 9 a0 (cl (Cc_isTold h a0) (fun r2 h3 => if w32 r2 = 0 then some ((-1), h3) else cC 7 120 (cl (St_copy h3 120 110) (fun r6 h7 => cC 3 60 (cl (Lg_keep h7 60 110) (fun r10 h11 => pu (up h11 a0 12 1) (fun h13 => cC 7 110 (some ((h13 110 8), h13)))))))))
def Cc_isBest_b14_body  (k14 : Hp × Int × Int × Int × Int × Int × Int → Option (Int × Hp)) (h : Hp) (x0 x1 x2 x4 x5 x6 : Int) : Option (Int × Hp) :=
  cC 9 x0 (cC 7 110 (if w32 x6 < w32 (h 110 4) then cl (Cc_gains h x0 x1 x2 x6 x4) (fun r7 h8 => if w32 x5 < w32 r7 then some (0, h8) else k14 (h8, x0, x1, x2, x4, x5, (x6 + 1))) else some (1, h)))
def Cc_isBest_b14  (h : Hp) (x0 x1 x2 x4 x5 x6 : Int) : Option (Int × Hp) := itr (fun k s => Cc_isBest_b14_body  k s.1 s.2.1 s.2.2.1 s.2.2.2.1 s.2.2.2.2.1 s.2.2.2.2.2.1 s.2.2.2.2.2.2) FU (h, x0, x1, x2, x4, x5, x6)
def Cc_isBest  (h : Hp) (a0 a1 a2 a3 a4 : Int) : Option (Int × Hp) :=
  cC 9 a0 (cl (Cc_gains h a0 a1 a2 a3 a4) (fun r2 h3 => Cc_isBest_b14 h3 a0 a1 a2 a4 r2 0))
def Cc_isSession  (h : Hp) (a0 a1 : Int) : Option (Int × Hp) :=
  if w32 a1 < 0 then some (0, h) else cC 9 a0 (if w32 a1 < w32 (h a0 7) then some (1, h) else some (0, h))
def Cc_law  (h : Hp) (a0 a1 : Int) : Option (Int × Hp) :=
  if w32 a1 < (-1) then some (0, h) else cC 9 a0 (if w32 a1 < w32 (h a0 5) then pu (up h a0 6 a1) (fun h2 => some (1, h2)) else some (0, h))
def Lg_read  (h : Hp) (a0 a1 a2 : Int) : Option (Int × Hp) :=
  cC 3 a0 (cl (Cc_at h 61 a1) (fun r2 h3 => if w32 a2 = 0 then some ((iand r2 7), h3) else if w32 a2 = 1 then some ((iand (ishr r2 3) 63), h3) else if w32 a2 = 2 then some ((ishr r2 9), h3) else some ((-1), h3)))
def Cc_log  (h : Hp) (a0 a1 a2 : Int) : Option (Int × Hp) :=
  if w32 a1 < 0 then some ((-1), h) else cC 9 a0 (cl (Lg_lengthAt h 110) (fun r2 h3 => if w32 a1 < w32 r2 then cC 7 110 (cC 3 60 (cl (Lg_read h3 60 ((h3 110 8) - a1) a2) (fun r7 h8 => some (r7, h8)))) else some ((-1), h3)))
def Cc_lonelinessGone_b4_body  (k4 : Hp × Int × Int × Int × Int → Option (Int × Hp)) (h : Hp) (x0 x1 x2 x3 : Int) : Option (Int × Hp) :=
  cC 9 x0 (cC 7 110 (if w32 x3 < w32 (h 110 4) then cl (Cc_at h x1 x3) (fun r3 h4 => if w32 r3 = 9 then k4 (h4, x0, x1, x2, (x3 + 1)) else cl (St_owes h4 110 x3 r3) (fun r6 h7 => if w32 r6 = 0 then some ((-1), h7) else cl (St_lonelyOf h7 110 x3) (fun r9 h10 => bd (x2 + r9) (fun v12 => k4 (h10, x0, x1, v12, (x3 + 1)))))) else some (x2, h)))
def Cc_lonelinessGone_b4  (h : Hp) (x0 x1 x2 x3 : Int) : Option (Int × Hp) := itr (fun k s => Cc_lonelinessGone_b4_body  k s.1 s.2.1 s.2.2.1 s.2.2.2.1 s.2.2.2.2) FU (h, x0, x1, x2, x3)
def Cc_lonelinessGone  (h : Hp) (a0 a1 : Int) : Option (Int × Hp) :=
  Cc_lonelinessGone_b4 h a0 a1 0 0
def Cc_lunch  (h : Hp) (a0 a1 a2 : Int) : Option (Int × Hp) :=
  cC 9 a0 (cl (Cc_areTwo h a0 a1 a2) (fun r2 h3 => if w32 r2 = 0 then some ((-1), h3) else cC 7 110 (if w32 (h3 110 6) < 1 then some ((-1), h3) else cl (St_lonelyOf h3 110 a1) (fun r6 h7 => cl (St_lonelyOf h7 110 a2) (fun r9 h10 => if w32 (r6 + r9) = 0 then some ((-1), h10) else cC 4 55 (cl (Ps_offer h10 55 110) (fun r13 h14 => cl (Ps_keep h14 55) (fun r16 h17 => pu (up h17 110 6 ((h17 110 6) - 1)) (fun h19 => cl (St_cheer h19 110 a1 2) (fun r20 h21 => cl (St_cheer h21 110 a2 2) (fun r23 h24 => cl (St_lonelyOf h24 110 a1) (fun r26 h27 => some (r26, h27)))))))))))))
def Cc_matched_b25_body  (k25 : Hp × Int × Int × Int × Int × Int → Option (Int × Hp)) (h : Hp) (x0 x1 x2 x3 x4 : Int) : Option (Int × Hp) :=
  cC 9 x0 (cC 5 70 (if w32 x4 < w32 (h 70 2) then cl (Rw_seatsOf h 70 x4) (fun r7 h8 => cl (Cc_lonelinessGone h8 x0 r7) (fun r10 h11 => if w32 x3 < w32 r10 then cl (Rw_rowAt h11 70 x4) (fun r13 h14 => k25 (h14, x0, x1, r13, r10, (x4 + 1))) else k25 (h11, x0, x1, x2, x3, (x4 + 1)))) else if w32 x1 = 0 then some (x2, h) else some (x3, h)))
def Cc_matched_b25  (h : Hp) (x0 x1 x2 x3 x4 : Int) : Option (Int × Hp) := itr (fun k s => Cc_matched_b25_body  k s.1 s.2.1 s.2.2.1 s.2.2.2.1 s.2.2.2.2.1 s.2.2.2.2.2) FU (h, x0, x1, x2, x3, x4)
def Cc_matched  (h : Hp) (a0 a1 : Int) : Option (Int × Hp) :=
  cC 9 a0 (cl (Cc_isTold h a0) (fun r2 h3 => if w32 r2 = 0 then some ((-1), h3) else if w32 a1 < 0 then some ((-1), h3) else if 1 < w32 a1 then some ((-1), h3) else Cc_matched_b25 h3 a0 a1 (-1) (-1) 0))
def Cc_odds  (h : Hp) (a0 a1 a2 a3 : Int) : Option (Int × Hp) :=
  cC 9 a0 (cl (Cc_isPerson h a0 a1) (fun r2 h3 => if w32 r2 = 0 then some ((-1), h3) else if w32 a2 < 0 then some ((-1), h3) else if 6 < w32 a2 then some ((-1), h3) else if w32 a3 < 0 then some ((-1), h3) else if 100 < w32 a3 then some ((-1), h3) else cl (Cc_apartAt h3 a0 a2) (fun r5 h6 => cC 7 r5 (cl (St_copy h6 r5 110) (fun r9 h10 => cl (Cc_breaking h10 a0 a2 a1 a3 1000000000) (fun r12 h13 => some (r12, h13)))))))
def Cc_owed  (h : Hp) (a0 a1 a2 : Int) : Option (Int × Hp) :=
  cC 9 a0 (cl (Cc_areTwo h a0 a1 a2) (fun r2 h3 => if w32 r2 = 0 then some ((-1), h3) else cC 7 110 (cl (St_owes h3 110 a1 a2) (fun r6 h7 => some (r6, h7)))))
def Cc_pardonIn  (h : Hp) (a0 a1 a2 a3 : Int) : Option (Int × Hp) :=
  cC 9 a0 (cl (Cc_areTwo h a0 a2 a3) (fun r2 h3 => if w32 r2 = 0 then some (0, h3) else cC 7 a1 (cl (St_owes h3 a1 a2 a3) (fun r6 h7 => if w32 r6 < 1 then some (0, h7) else if w32 (h7 a1 6) < 4 then some (0, h7) else pu (up h7 a1 6 ((h7 a1 6) - 4)) (fun h9 => cl (St_owes h9 a1 a2 a3) (fun r10 h11 => cl (St_owe h11 a1 a2 a3 (-r10)) (fun r13 h14 => some (1, h14))))))))
def Cc_pardon  (h : Hp) (a0 a1 a2 : Int) : Option (Int × Hp) :=
  cC 9 a0 (cC 7 110 (cl (St_owes h 110 a1 a2) (fun r3 h4 => cC 4 55 (cl (Ps_offer h4 55 110) (fun r7 h8 => cl (Cc_pardonIn h8 a0 110 a1 a2) (fun r10 h11 => if w32 r10 = 0 then some ((-1), h11) else cl (Ps_keep h11 55) (fun r13 h14 => some (r3, h14))))))))
def Cy_graveOf  (h : Hp) (a0 a1 : Int) : Option (Int × Hp) :=
  cC 0 a0 (cl (Cc_at h (a0 + 3) ((3 * a1) + 2)) (fun r2 h3 => some (r2, h3)))
def St_isSentenced  (h : Hp) (a0 a1 : Int) : Option (Int × Hp) :=
  cC 7 a0 (cl (Cc_holds h (h a0 5) a1) (fun r2 h3 => some ((r2 % 2), h3)))
def Cc_sentenceIn  (h : Hp) (a0 a1 a2 : Int) : Option (Int × Hp) :=
  cC 9 a0 (cl (Cc_isWrong h a0 a2) (fun r2 h3 => if w32 r2 = 0 then some (0, h3) else cC 7 a1 (cl (St_isSentenced h3 a1 a2) (fun r6 h7 => if w32 r6 = 0 then cC 0 (h7 a0 1) (cl (Cy_whoOf h7 (h7 a0 1) a2) (fun r10 h11 => cC 0 (h11 a0 1) (cl (Cy_whomOf h11 (h11 a0 1) a2) (fun r14 h15 => cC 0 (h15 a0 1) (cl (Cy_graveOf h15 (h15 a0 1) a2) (fun r18 h19 => cl (Cc_worthBy h19 a0 a1 r10 r14 r18) (fun r21 h22 => cl (St_owe h22 a1 r10 r14 r21) (fun r24 h25 => pu (up h25 a1 5 (ior (h25 a1 5) (ishl 1 a2))) (fun h27 => some (1, h27)))))))))) else some (0, h7)))))
def Ss_part  (h : Hp) (a0 a1 a2 : Int) : Option (Int × Hp) :=
  cC 6 a0 (cl (Cc_at h (a0 + 1) ((3 * a1) + a2)) (fun r2 h3 => some (r2, h3)))
def Cc_stepIn  (h : Hp) (a0 a1 a2 a3 : Int) : Option (Int × Hp) :=
  cC 6 a2 (cl (Ss_part h a2 a3 1) (fun r2 h3 => cl (Ss_part h3 a2 a3 2) (fun r5 h6 => cl (Ss_part h6 a2 a3 0) (fun r8 h9 => if w32 r8 = 0 then cC 9 a0 (cl (Cc_sentenceIn h9 a0 a1 r2) (fun r12 h13 => some ((r12 % 2), h13))) else if w32 r8 = 1 then cC 9 a0 (cl (Cc_eveningIn h9 a0 a1) (fun r17 h18 => some ((r17 % 2), h18))) else if w32 r8 = 2 then cC 9 a0 (cl (Cc_appealIn h9 a0 a1 r2 r5) (fun r22 h23 => some ((r22 % 2), h23))) else if w32 r8 = 3 then cC 9 a0 (cl (Cc_pardonIn h9 a0 a1 r2 r5) (fun r27 h28 => some ((r27 % 2), h28))) else some (0, h9)))))
def Cc_perform_b25_body  (k25 : Hp × Int × Int × Int → Option (Int × Hp)) (h : Hp) (x0 x2 x3 : Int) : Option (Int × Hp) :=
  cC 6 x2 (if w32 x3 < w32 (h x2 1) then cC 9 x0 (cC 4 55 (cl (Ps_offer h 55 110) (fun r14 h15 => cl (Cc_stepIn h15 x0 110 x2 x3) (fun r17 h18 => if w32 r17 = 0 then some (x3, h18) else cl (Ps_keep h18 55) (fun r20 h21 => cl (Ss_part h21 x2 x3 0) (fun r23 h24 => if w32 r23 = 1 then cC 3 60 (cl (Lg_write h24 60 110) (fun r27 h28 => k25 (h28, x0, x2, (x3 + 1)))) else k25 (h24, x0, x2, (x3 + 1)))))))) else some ((h x2 1), h))
def Cc_perform_b25  (h : Hp) (x0 x2 x3 : Int) : Option (Int × Hp) := itr (fun k s => Cc_perform_b25_body  k s.1 s.2.1 s.2.2.1 s.2.2.2) FU (h, x0, x2, x3)
def Cc_perform  (h : Hp) (a0 a1 : Int) : Option (Int × Hp) :=
  cC 9 a0 (cl (Cc_isSession h a0 a1) (fun r2 h3 => if w32 r2 = 0 then some ((-1), h3) else cl (Cc_isTold h3 a0) (fun r5 h6 => if w32 r5 = 0 then some ((-1), h6) else cl (Cc_sessionAt h6 a0 a1) (fun r8 h9 => Cc_perform_b25 h9 a0 r8 0))))
def Cc_person  (h : Hp) (a0 a1 a2 : Int) : Option (Int × Hp) :=
  cC 9 a0 (cl (Cc_isPerson h a0 a1) (fun r2 h3 => if w32 r2 = 0 then none else if w32 a2 < 0 then none else if 3 < w32 a2 then none else if w32 a2 = 0 then cC 7 110 (cl (St_lonelyOf h3 110 a1) (fun r6 h7 => some (r6, h7))) else if w32 a2 = 1 then cC 7 110 (cl (St_boreOf h3 110 a1) (fun r11 h12 => some (r11, h12))) else if w32 a2 = 2 then cC 0 (h3 a0 1) (cl (Cy_hardOf h3 (h3 a0 1) a1) (fun r16 h17 => some (r16, h17))) else cC 7 110 (cl (St_debtOf h3 110 a1) (fun r21 h22 => some (r21, h22)))))
def Cc_rests_b32_body (k17 : Hp × Int × Int × Int × Int × Int × Int → Option (Int × Hp)) (k32 : Hp × Int × Int × Int × Int × Int × Int × Int → Option (Int × Hp)) (h : Hp) (x0 x1 x2 x3 x4 x5 x6 : Int) : Option (Int × Hp) :=
  cC 9 x0 (cC 7 110 (if w32 x6 < w32 (h 110 4) then cl (Cc_isBest h x0 x1 x2 x5 x6) (fun r9 h10 => if w32 r9 = 0 then k32 (h10, x0, x1, x2, x3, x4, x5, (x6 + 1)) else cl (Cc_isBest h10 x0 x2 x1 x6 x5) (fun r12 h13 => if w32 r12 = 0 then k32 (h13, x0, x1, x2, x3, x4, x5, (x6 + 1)) else if w32 x4 = w32 x3 then some (((10 * x5) + x6), h13) else k32 (h13, x0, x1, x2, x3, (x4 + 1), x5, (x6 + 1)))) else k17 (h, x0, x1, x2, x3, x4, (x5 + 1))))
def Cc_rests_b32 (k17 : Hp × Int × Int × Int × Int × Int × Int → Option (Int × Hp)) (h : Hp) (x0 x1 x2 x3 x4 x5 x6 : Int) : Option (Int × Hp) := itr (fun k s => Cc_rests_b32_body k17 k s.1 s.2.1 s.2.2.1 s.2.2.2.1 s.2.2.2.2.1 s.2.2.2.2.2.1 s.2.2.2.2.2.2.1 s.2.2.2.2.2.2.2) FU (h, x0, x1, x2, x3, x4, x5, x6)
def Cc_rests_b17_body  (k17 : Hp × Int × Int × Int × Int × Int × Int → Option (Int × Hp)) (h : Hp) (x0 x1 x2 x3 x4 x5 : Int) : Option (Int × Hp) :=
  cC 9 x0 (cC 7 110 (if w32 x5 < w32 (h 110 4) then Cc_rests_b32 k17 h x0 x1 x2 x3 x4 x5 0 else if w32 x3 = (-1) then some (x4, h) else some ((-1), h)))
def Cc_rests_b17  (h : Hp) (x0 x1 x2 x3 x4 x5 : Int) : Option (Int × Hp) := itr (fun k s => Cc_rests_b17_body  k s.1 s.2.1 s.2.2.1 s.2.2.2.1 s.2.2.2.2.1 s.2.2.2.2.2.1 s.2.2.2.2.2.2) FU (h, x0, x1, x2, x3, x4, x5)
def Cc_rests  (h : Hp) (a0 a1 a2 a3 : Int) : Option (Int × Hp) :=
  cC 9 a0 (cl (Cc_areTwo h a0 a1 a2) (fun r2 h3 => if w32 r2 = 0 then some ((-1), h3) else Cc_rests_b17 h3 a0 a1 a2 a3 0 0))
def Cc_rowOf_b4_body  (k4 : Hp × Int × Int × Int × Int → Option (Int × Hp)) (h : Hp) (x0 x1 x2 x3 : Int) : Option (Int × Hp) :=
  if w32 x3 < w32 x1 then cl (Cc_at h x0 x3) (fun r1 h2 => bd ((x2 * 10) + r1) (fun v4 => k4 (h2, x0, x1, v4, (x3 + 1)))) else some (x2, h)
def Cc_rowOf_b4  (h : Hp) (x0 x1 x2 x3 : Int) : Option (Int × Hp) := itr (fun k s => Cc_rowOf_b4_body  k s.1 s.2.1 s.2.2.1 s.2.2.2.1 s.2.2.2.2) FU (h, x0, x1, x2, x3)
def Cc_rowOf  (h : Hp) (a0 a1 : Int) : Option (Int × Hp) :=
  Cc_rowOf_b4 h a0 a1 0 0
def Cc_run_b85  (h : Hp) (x0 x2 x3 x4 x5 : Int) : Option (Int × Hp) :=
  if w32 x2 = 1 then cC 7 x4 (cC 9 x0 (cC 7 110 (some (((h x4 7) - (h 110 7)), h)))) else cC 6 x3 (if w32 x5 = w32 (h x3 1) then some ((-1), h) else some (x5, h))
def Cc_run_b55_body  (k55 : Hp × Int × Int × Int × Int × Int × Int → Option (Int × Hp)) (h : Hp) (x0 x2 x3 x4 x5 x6 : Int) : Option (Int × Hp) :=
  cC 6 x3 (if w32 x6 < w32 (h x3 1) then cC 9 x0 (cl (Cc_stepIn h x0 x4 x3 x6) (fun r20 h21 => if w32 r20 = 0 then Cc_run_b85 h21 x0 x2 x3 x4 x5 else k55 (h21, x0, x2, x3, x4, (x5 + 1), (x6 + 1)))) else Cc_run_b85 h x0 x2 x3 x4 x5)
def Cc_run_b55  (h : Hp) (x0 x2 x3 x4 x5 x6 : Int) : Option (Int × Hp) := itr (fun k s => Cc_run_b55_body  k s.1 s.2.1 s.2.2.1 s.2.2.2.1 s.2.2.2.2.1 s.2.2.2.2.2.1 s.2.2.2.2.2.2) FU (h, x0, x2, x3, x4, x5, x6)
def Cc_run  (h : Hp) (a0 a1 a2 : Int) : Option (Int × Hp) :=
  cC 9 a0 (cl (Cc_isSession h a0 a1) (fun r2 h3 => if w32 r2 = 0 then some ((-1000000), h3) else cl (Cc_isTold h3 a0) (fun r5 h6 => if w32 r5 = 0 then some ((-1000000), h6) else if w32 a2 < 0 then some ((-1000000), h6) else if 1 < w32 a2 then some ((-1000000), h6) else cl (Cc_sessionAt h6 a0 a1) (fun r8 h9 => cl (Cc_apartAt h9 a0 0) (fun r11 h12 => cC 7 r11 (cl (St_copy h12 r11 110) (fun r15 h16 => Cc_run_b55 h16 a0 a2 r8 r11 0 0)))))))
def Cc_sentence  (h : Hp) (a0 a1 : Int) : Option (Int × Hp) :=
  cC 9 a0 (cC 4 55 (cl (Ps_offer h 55 110) (fun r3 h4 => cl (Cc_sentenceIn h4 a0 110 a1) (fun r6 h7 => if w32 r6 = 0 then some ((-1), h7) else cl (Ps_keep h7 55) (fun r9 h10 => cC 0 (h10 a0 1) (cl (Cy_whoOf h10 (h10 a0 1) a1) (fun r13 h14 => cC 0 (h14 a0 1) (cl (Cy_whomOf h14 (h14 a0 1) a1) (fun r17 h18 => cC 7 110 (cl (St_owes h18 110 r13 r17) (fun r21 h22 => some (r21, h22))))))))))))
def Cc_served_b16_body  (k16 : Hp × Int × Int → Option (Int × Hp)) (h : Hp) (x1 x2 : Int) : Option (Int × Hp) :=
  if 99 < w32 x2 then some ((-1), h) else cC 7 x1 (cl (St_allDebt h x1) (fun r9 h10 => if w32 r9 = 0 then some (x2, h10) else cl (St_pass h10 x1 (-1)) (fun r12 h13 => k16 (h13, x1, (x2 + 1)))))
def Cc_served_b16  (h : Hp) (x1 x2 : Int) : Option (Int × Hp) := itr (fun k s => Cc_served_b16_body  k s.1 s.2.1 s.2.2) FU (h, x1, x2)
def Cc_served  (h : Hp) (a0 : Int) : Option (Int × Hp) :=
  cC 9 a0 (cl (Cc_isTold h a0) (fun r2 h3 => if w32 r2 = 0 then some ((-1), h3) else cl (Cc_copyApart h3 a0) (fun r5 h6 => Cc_served_b16 h6 r5 0)))
def Rw_add  (h : Hp) (a0 : Int) : Option (Int × Hp) :=
  cC 5 a0 (if w32 (h a0 2) < 76 then cl (Cc_rowOf h 72 (h a0 3)) (fun r2 h3 => cl (Cc_put h3 71 (h a0 2) r2) (fun r5 h6 => pu (up h6 a0 2 ((h6 a0 2) + 1)) (fun h8 => some (0, h8)))) else some (0, h))
def Rw_seatFrom_b43_body (kf : Hp × Int × Int → Option (Int × Hp)) (k43 : Hp × Int × Int × Int → Option (Int × Hp)) (h : Hp) (x0 x1 x2 : Int) : Option (Int × Hp) :=
  cC 5 x0 (if w32 x2 < w32 (h x0 3) then cl (Cc_at h 72 x2) (fun r7 h8 => if w32 r7 = (-1) then cl (Cc_put h8 72 x1 x2) (fun r10 h11 => cl (Cc_put h11 72 x2 x1) (fun r13 h14 => cl (kf (h14, x0, (x1 + 1))) (fun r16 h17 => cl (Cc_put h17 72 x2 (-1)) (fun r19 h20 => k43 (h20, x0, x1, (x2 + 1)))))) else k43 (h8, x0, x1, (x2 + 1))) else cl (Cc_put h 72 x1 9) (fun r22 h23 => cl (kf (h23, x0, (x1 + 1))) (fun r25 h26 => cl (Cc_put h26 72 x1 (-1)) (fun r28 h29 => some (0, h29)))))
def Rw_seatFrom_b43 (kf : Hp × Int × Int → Option (Int × Hp)) (h : Hp) (x0 x1 x2 : Int) : Option (Int × Hp) := itr (fun k s => Rw_seatFrom_b43_body kf k s.1 s.2.1 s.2.2.1 s.2.2.2) FU (h, x0, x1, x2)
def Rw_seatFrom_b14 (kf : Hp × Int × Int → Option (Int × Hp)) (h : Hp) (x0 : Int) : Option (Int × Hp) :=
  cC 5 x0 (cl (Rw_add h x0) (fun r35 h36 => some (0, h36)))
def Rw_seatFrom_body (kf : Hp × Int × Int → Option (Int × Hp)) (h : Hp) (a0 a1 : Int) : Option (Int × Hp) :=
  cC 5 a0 (if w32 a1 < w32 (h a0 3) then if w32 a1 < 6 then cl (Cc_at h 72 a1) (fun r2 h3 => if w32 r2 = (-1) then bd (a1 + 1) (fun v5 => Rw_seatFrom_b43 kf h3 a0 a1 v5) else cl (kf (h3, a0, (a1 + 1))) (fun r31 h32 => some (0, h32))) else Rw_seatFrom_b14 kf h a0 else Rw_seatFrom_b14 kf h a0)
def Rw_seatFrom_f : Hp × Int × Int → Option (Int × Hp) := itr (fun k s => Rw_seatFrom_body k s.1 s.2.1 s.2.2) RF
def Rw_seatFrom (h : Hp) (a0 a1 : Int) : Option (Int × Hp) := Rw_seatFrom_f (h, a0, a1)
def Rw_make_b12_body  (k12 : Hp × Int × Int → Option (Int × Hp)) (h : Hp) (x0 x2 : Int) : Option (Int × Hp) :=
  if w32 x2 < 6 then cC 5 x0 (cl (Cc_put h 72 x2 (-1)) (fun r5 h6 => k12 (h6, x0, (x2 + 1)))) else cC 5 x0 (cl (Rw_seatFrom h x0 0) (fun r9 h10 => some (0, h10)))
def Rw_make_b12  (h : Hp) (x0 x2 : Int) : Option (Int × Hp) := itr (fun k s => Rw_make_b12_body  k s.1 s.2.1 s.2.2) FU (h, x0, x2)
def Rw_make  (h : Hp) (a0 a1 : Int) : Option (Int × Hp) :=
  cC 5 a0 (pu (up h a0 2 0) (fun h2 => pu (up h2 a0 3 a1) (fun h3 => Rw_make_b12 h3 a0 0)))
def Cy_boreOf  (h : Hp) (a0 a1 : Int) : Option (Int × Hp) :=
  cC 0 a0 (cl (Cc_at h (a0 + 2) ((3 * a1) + 1)) (fun r2 h3 => some (r2, h3)))
def Cy_coinsTold  (h : Hp) (a0 : Int) : Option (Int × Hp) :=
  cC 0 a0 (cl (Cc_at h (a0 + 1) 1) (fun r2 h3 => some (r2, h3)))
def Cy_lonelyOf  (h : Hp) (a0 a1 : Int) : Option (Int × Hp) :=
  cC 0 a0 (cl (Cc_at h (a0 + 2) (3 * a1)) (fun r2 h3 => some (r2, h3)))
def St_begin_b59_body  (k59 : Hp × Int × Int × Int → Option (Int × Hp)) (h : Hp) (x0 x1 x2 : Int) : Option (Int × Hp) :=
  cC 7 x0 (if w32 x2 < w32 (h x0 4) then cC 0 x1 (cl (Cy_lonelyOf h x1 x2) (fun r18 h19 => cl (Cc_put h19 (x0 + 2) x2 r18) (fun r21 h22 => cl (Cy_boreOf h22 x1 x2) (fun r24 h25 => cl (Cc_put h25 (x0 + 3) x2 r24) (fun r27 h28 => k59 (h28, x0, x1, (x2 + 1))))))) else some (0, h))
def St_begin_b59  (h : Hp) (x0 x1 x2 : Int) : Option (Int × Hp) := itr (fun k s => St_begin_b59_body  k s.1 s.2.1 s.2.2.1 s.2.2.2) FU (h, x0, x1, x2)
def St_begin_b33_body  (k33 : Hp × Int × Int × Int → Option (Int × Hp)) (h : Hp) (x0 x1 x2 : Int) : Option (Int × Hp) :=
  cC 7 x0 (cN (x0 + 1) (if w32 x2 < w32 ((SH (x0 + 1)).2 : Int) then cl (Cc_put h (x0 + 1) x2 0) (fun r13 h14 => k33 (h14, x0, x1, (x2 + 1))) else St_begin_b59 h x0 x1 0))
def St_begin_b33  (h : Hp) (x0 x1 x2 : Int) : Option (Int × Hp) := itr (fun k s => St_begin_b33_body  k s.1 s.2.1 s.2.2.1 s.2.2.2) FU (h, x0, x1, x2)
def St_begin  (h : Hp) (a0 a1 : Int) : Option (Int × Hp) :=
  cC 0 a1 (cC 7 a0 (pu (up h a0 4 (h a1 4)) (fun h3 => pu (up h3 a0 5 0) (fun h4 => cl (Cy_coinsTold h4 a1) (fun r5 h6 => pu (up h6 a0 6 r5) (fun h8 => pu (up h8 a0 7 0) (fun h9 => pu (up h9 a0 8 0) (fun h10 => St_begin_b33 h10 a0 a1 0))))))))
def Cc_settle  (h : Hp) (a0 : Int) : Option (Int × Hp) :=
  cC 9 a0 (pu (up h a0 1 (h a0 2)) (fun h2 => pu (up h2 a0 2 (h a0 1)) (fun h3 => cC 7 100 (cl (St_begin h3 100 (h3 a0 1)) (fun r5 h6 => cC 7 110 (cl (St_copy h6 110 100) (fun r9 h10 => cC 4 55 (cl (Ps_forget h10 55) (fun r13 h14 => pu (up h14 a0 12 0) (fun h16 => cC 1 65 (pu (up h16 65 4 0) (fun h18 => cC 0 (h18 a0 1) (cC 5 70 (cl (Rw_make h18 70 (h18 (h18 a0 1) 4)) (fun r21 h22 => cC 0 (h22 a0 1) (some ((h22 (h22 a0 1) 4), h22)))))))))))))))))
def Cc_sin  (h : Hp) (a0 a1 : Int) : Option (Int × Hp) :=
  if w32 a1 < 0 then some (0, h) else if 9 < w32 a1 then some (0, h) else cC 9 a0 (if w32 a1 = w32 (h a0 8) then some (0, h) else pu (up h a0 8 a1) (fun h2 => some (1, h2)))
def Cc_sinAhead  (h : Hp) (a0 : Int) : Option (Int × Hp) :=
  cC 9 a0 (cl (Cc_draw h a0 10) (fun r2 h3 => if w32 r2 < w32 (h3 a0 8) then cC 7 110 (cl (Cc_draw h3 a0 (h3 110 4)) (fun r6 h7 => cl (Cc_draw h7 a0 (h7 110 4)) (fun r9 h10 => cl (Cc_draw h10 a0 9) (fun r12 h13 => bd (r12 + 1) (fun v15 => if w32 r6 = w32 r9 then some (0, h13) else cl (St_owe h13 110 r6 r9 v15) (fun r16 h17 => some (0, h17))))))) else some (0, h3)))
def Cc_sooner_b45_body  (k45 : Hp × Int × Int × Int → Option (Int × Hp)) (h : Hp) (x0 x1 x2 : Int) : Option (Int × Hp) :=
  cC 9 x0 (cC 7 110 (if w32 x2 < w32 (ishl 1 (h 110 4)) then cl (Ji_bitCount h x2) (fun r13 h14 => if w32 r13 = 3 then cl (St_debtWithin h14 110 x2) (fun r16 h17 => bd (if w32 x1 < w32 r16 then r16 else x1) (fun v19 => k45 (h17, x0, v19, (x2 + 1)))) else if w32 r13 = 5 then cl (St_debtWithin h14 110 x2) (fun r20 h21 => cD 2 (bd (if w32 x1 < w32 ((w32 (r20 + 1)).tdiv (w32 2)) then ((w32 (r20 + 1)).tdiv (w32 2)) else x1) (fun v23 => k45 (h21, x0, v23, (x2 + 1))))) else k45 (h14, x0, x1, (x2 + 1))) else some (x1, h)))
def Cc_sooner_b45  (h : Hp) (x0 x1 x2 : Int) : Option (Int × Hp) := itr (fun k s => Cc_sooner_b45_body  k s.1 s.2.1 s.2.2.1 s.2.2.2) FU (h, x0, x1, x2)
def Cc_sooner_b13_body  (k13 : Hp × Int × Int × Int → Option (Int × Hp)) (h : Hp) (x0 x1 x2 : Int) : Option (Int × Hp) :=
  cC 9 x0 (cC 7 110 (if w32 x2 < w32 (h 110 4) then cl (St_debtOf h 110 x2) (fun r7 h8 => bd (if w32 x1 < w32 r7 then r7 else x1) (fun v10 => k13 (h8, x0, v10, (x2 + 1)))) else Cc_sooner_b45 h x0 x1 0))
def Cc_sooner_b13  (h : Hp) (x0 x1 x2 : Int) : Option (Int × Hp) := itr (fun k s => Cc_sooner_b13_body  k s.1 s.2.1 s.2.2.1 s.2.2.2) FU (h, x0, x1, x2)
def Cc_sooner  (h : Hp) (a0 : Int) : Option (Int × Hp) :=
  cC 9 a0 (cl (Cc_isTold h a0) (fun r2 h3 => if w32 r2 = 0 then some ((-1), h3) else Cc_sooner_b13 h3 a0 0 0))
def Cc_step  (h : Hp) (a0 a1 a2 a3 : Int) : Option (Int × Hp) :=
  cC 9 a0 (cl (Cc_isSession h a0 a1) (fun r2 h3 => if w32 r2 = 0 then some ((-1000000), h3) else cl (Cc_sessionAt h3 a0 a1) (fun r5 h6 => if w32 a2 < 0 then some ((-1000000), h6) else cC 6 r5 (if w32 a2 < w32 (h6 r5 1) then if w32 a3 < 0 then some ((-1000000), h6) else if 2 < w32 a3 then some ((-1000000), h6) else cl (Ss_part h6 r5 a2 a3) (fun r9 h10 => some (r9, h10)) else some ((-1000000), h6)))))
def Cc_teach  (h : Hp) (a0 a1 : Int) : Option (Int × Hp) :=
  cC 9 a0 (cl (Cc_isPerson h a0 a1) (fun r2 h3 => if w32 r2 = 0 then some ((-1), h3) else cC 7 110 (if w32 (h3 110 6) < 3 then some ((-1), h3) else cl (St_boreOf h3 110 a1) (fun r6 h7 => if w32 r6 = 0 then some ((-1), h7) else cC 4 55 (cl (Ps_offer h7 55 110) (fun r10 h11 => cl (Ps_keep h11 55) (fun r13 h14 => pu (up h14 110 6 ((h14 110 6) - 3)) (fun h16 => cl (St_boreOf h16 110 a1) (fun r17 h18 => cl (Cc_put h18 (110 + 3) a1 (r17 - 1)) (fun r20 h21 => cl (St_boreOf h21 110 a1) (fun r23 h24 => some (r23, h24))))))))))))
def Cc_text_b39  (h : Hp) (x0 x1 : Int) : Option (Int × Hp) :=
  cC 9 x0 (cl (Cc_readAs h x0 x1) (fun r4 h5 => if w32 r4 = 0 then some ((-1), h5) else cC 8 21 (pu (up h5 21 1 0) (fun h8 => if w32 x1 = 1 then pu (up h8 x0 5 ((h8 x0 5) + 1)) (fun h9 => some ((h8 x0 5), h9)) else if w32 x1 = 2 then pu (up h8 x0 7 ((h8 x0 7) + 1)) (fun h10 => some ((h8 x0 7), h10)) else cl (Cc_settle h8 x0) (fun r11 h12 => some (r11, h12))))))
def Cc_text_b24  (h : Hp) (x0 x1 : Int) : Option (Int × Hp) :=
  if w32 x1 = 2 then cC 9 x0 (if w32 (h x0 7) < 4 then Cc_text_b39 h x0 x1 else some ((-1), h)) else Cc_text_b39 h x0 x1
def Cc_text  (h : Hp) (a0 a1 : Int) : Option (Int × Hp) :=
  if w32 a1 < 0 then some ((-1), h) else if 2 < w32 a1 then some ((-1), h) else if w32 a1 = 1 then cC 9 a0 (if w32 (h a0 5) < 4 then Cc_text_b24 h a0 a1 else some ((-1), h)) else Cc_text_b24 h a0 a1
def Cc_tonight  (h : Hp) (a0 : Int) : Option (Int × Hp) :=
  cC 9 a0 (cl (Cc_isTold h a0) (fun r2 h3 => if w32 r2 = 0 then some ((-1), h3) else cl (Cc_copyApart h3 a0) (fun r5 h6 => cC 7 r5 (cl (St_book h6 r5 (-1)) (fun r9 h10 => cl (Cc_rowOf h10 (r5 + 4) (h10 r5 4)) (fun r12 h13 => some (r12, h13)))))))
def Ps_takeBack  (h : Hp) (a0 a1 : Int) : Option (Int × Hp) :=
  cC 4 a0 (if w32 (h a0 2) = 0 then some ((-1), h) else pu (up h a0 2 ((h a0 2) - 1)) (fun h2 => cl (Ps_last h2 a0) (fun r3 h4 => cC 7 a1 (cl (St_copy h4 a1 r3) (fun r7 h8 => some ((h8 a0 2), h8))))))
def Cc_undo  (h : Hp) (a0 : Int) : Option (Int × Hp) :=
  cC 9 a0 (cC 4 55 (cl (Ps_takeBack h 55 110) (fun r3 h4 => some (r3, h4))))
def Cc_wrong  (h : Hp) (a0 a1 a2 : Int) : Option (Int × Hp) :=
  cC 9 a0 (cl (Cc_isWrong h a0 a1) (fun r2 h3 => if w32 r2 = 0 then some ((-1), h3) else if w32 a2 = 0 then cC 0 (h3 a0 1) (cl (Cy_whoOf h3 (h3 a0 1) a1) (fun r6 h7 => some (r6, h7))) else if w32 a2 = 1 then cC 0 (h3 a0 1) (cl (Cy_whomOf h3 (h3 a0 1) a1) (fun r11 h12 => some (r11, h12))) else if w32 a2 = 2 then cC 0 (h3 a0 1) (cl (Cy_graveOf h3 (h3 a0 1) a1) (fun r16 h17 => some (r16, h17))) else if w32 a2 = 3 then cC 7 110 (cl (St_isSentenced h3 110 a1) (fun r21 h22 => if w32 r21 = 0 then some (0, h22) else some (1, h22))) else if w32 a2 = 4 then cC 0 (h3 a0 1) (cl (Cy_whoOf h3 (h3 a0 1) a1) (fun r26 h27 => cC 0 (h27 a0 1) (cl (Cy_whomOf h27 (h27 a0 1) a1) (fun r30 h31 => cC 0 (h31 a0 1) (cl (Cy_graveOf h31 (h31 a0 1) a1) (fun r34 h35 => cl (Cc_worthBy h35 a0 110 r26 r30 r34) (fun r37 h38 => some (r37, h38)))))))) else some ((-1), h3)))
def Cc_years_b43_body  (k43 : Hp × Int × Int × Int → Option (Int × Hp)) (h : Hp) (x0 x1 x4 : Int) : Option (Int × Hp) :=
  if w32 x4 < w32 x1 then cC 9 x0 (cC 4 55 (cl (Ps_offer h 55 110) (fun r9 h10 => cl (Ps_keep h10 55) (fun r12 h13 => cl (Cc_sinAhead h13 x0) (fun r15 h16 => cC 7 110 (cl (St_pass h16 110 (-1)) (fun r19 h20 => cC 3 60 (cl (Lg_write h20 60 110) (fun r23 h24 => k43 (h24, x0, x1, (x4 + 1))))))))))) else cC 9 x0 (cC 7 110 (some ((h 110 8), h)))
def Cc_years_b43  (h : Hp) (x0 x1 x4 : Int) : Option (Int × Hp) := itr (fun k s => Cc_years_b43_body  k s.1 s.2.1 s.2.2.1 s.2.2.2) FU (h, x0, x1, x4)
def Cc_years  (h : Hp) (a0 a1 a2 : Int) : Option (Int × Hp) :=
  cC 9 a0 (cl (Cc_isTold h a0) (fun r2 h3 => if w32 r2 = 0 then some ((-1), h3) else if w32 a1 < 1 then some ((-1), h3) else if 30 < w32 a1 then some ((-1), h3) else cC 7 110 (if 999 < w32 ((h3 110 8) + a1) then some ((-1), h3) else pu (up h3 a0 19 a2) (fun h6 => Cc_years_b43 h6 a0 a1 0))))
def Md_lays  (h : Hp) (a0 a1 a2 a3 : Int) : Option (Int × Hp) :=
  cY 100 a0 ((6 * a1) + a2) (pu (up h a0 (w32 ((6 * a1) + a2)) a3) (fun h2 => cY 100 a0 ((6 * a2) + a1) (pu (up h2 a0 (w32 ((6 * a2) + a1)) a3) (fun h4 => some (0, h4)))))
def Md_owes  (h : Hp) (a0 a1 a2 : Int) : Option (Int × Hp) :=
  cX 100 a0 ((6 * a1) + a2) (some ((rd h a0 (w32 ((6 * a1) + a2))), h))
def Md_adds  (h : Hp) (a0 a1 a2 a3 : Int) : Option (Int × Hp) :=
  cl (Md_owes h a0 a1 a2) (fun r1 h2 => cl (Md_lays h2 a0 a1 a2 (if w32 (r1 + a3) < 99 then (r1 + a3) else 99)) (fun r4 h5 => some (0, h5)))
def Md_allOwed_b17_body (k4 : Hp × Int × Int × Int × Int → Option (Int × Hp)) (k17 : Hp × Int × Int × Int × Int × Int → Option (Int × Hp)) (h : Hp) (x0 x1 x2 x3 x4 : Int) : Option (Int × Hp) :=
  cC 10 x0 (if w32 x4 < w32 (h x0 26) then cl (Md_owes h x1 x3 x4) (fun r4 h5 => bd (x2 + r4) (fun v7 => k17 (h5, x0, x1, v7, x3, (x4 + 1)))) else k4 (h, x0, x1, x2, (x3 + 1)))
def Md_allOwed_b17 (k4 : Hp × Int × Int × Int × Int → Option (Int × Hp)) (h : Hp) (x0 x1 x2 x3 x4 : Int) : Option (Int × Hp) := itr (fun k s => Md_allOwed_b17_body k4 k s.1 s.2.1 s.2.2.1 s.2.2.2.1 s.2.2.2.2.1 s.2.2.2.2.2) FU (h, x0, x1, x2, x3, x4)
def Md_allOwed_b4_body  (k4 : Hp × Int × Int × Int × Int → Option (Int × Hp)) (h : Hp) (x0 x1 x2 x3 : Int) : Option (Int × Hp) :=
  cC 10 x0 (if w32 x3 < w32 (h x0 26) then bd (x3 + 1) (fun v2 => Md_allOwed_b17 k4 h x0 x1 x2 x3 v2) else some (x2, h))
def Md_allOwed_b4  (h : Hp) (x0 x1 x2 x3 : Int) : Option (Int × Hp) := itr (fun k s => Md_allOwed_b4_body  k s.1 s.2.1 s.2.2.1 s.2.2.2.1 s.2.2.2.2) FU (h, x0, x1, x2, x3)
def Md_allOwed  (h : Hp) (a0 a1 : Int) : Option (Int × Hp) :=
  Md_allOwed_b4 h a0 a1 0 0
def Md_owesInAll_b4_body  (k4 : Hp × Int × Int × Int × Int → Option (Int × Hp)) (h : Hp) (x0 x1 x2 x3 : Int) : Option (Int × Hp) :=
  cC 10 x0 (if w32 x3 < w32 (h x0 26) then cl (Md_owes h 2032 x1 x3) (fun r2 h3 => bd (x2 + r2) (fun v5 => k4 (h3, x0, x1, v5, (x3 + 1)))) else some (x2, h))
def Md_owesInAll_b4  (h : Hp) (x0 x1 x2 x3 : Int) : Option (Int × Hp) := itr (fun k s => Md_owesInAll_b4_body  k s.1 s.2.1 s.2.2.1 s.2.2.2.1 s.2.2.2.2) FU (h, x0, x1, x2, x3)
def Md_owesInAll  (h : Hp) (a0 a1 : Int) : Option (Int × Hp) :=
  Md_owesInAll_b4 h a0 a1 0 0
def Md_free_b4_body  (k4 : Hp × Int × Int × Int → Option (Int × Hp)) (h : Hp) (x0 x1 x2 : Int) : Option (Int × Hp) :=
  cC 10 x0 (if w32 x2 < w32 (h x0 26) then cl (Md_owesInAll h x0 x2) (fun r2 h3 => if w32 r2 = 0 then bd (ior x1 (ishl 1 x2)) (fun v5 => k4 (h3, x0, v5, (x2 + 1))) else bd (ior x1 0) (fun v6 => k4 (h3, x0, v6, (x2 + 1)))) else some (x1, h))
def Md_free_b4  (h : Hp) (x0 x1 x2 : Int) : Option (Int × Hp) := itr (fun k s => Md_free_b4_body  k s.1 s.2.1 s.2.2.1 s.2.2.2) FU (h, x0, x1, x2)
def Md_free  (h : Hp) (a0 : Int) : Option (Int × Hp) :=
  Md_free_b4 h a0 0 0
def Md_lonely  (h : Hp) (a0 a1 : Int) : Option (Int × Hp) :=
  cX 100 a0 ((36 + (2 * a1)) + 0) (some ((rd h a0 (w32 ((36 + (2 * a1)) + 0))), h))
def Md_valueOf  (h : Hp) (a0 a1 a2 : Int) : Option (Int × Hp) :=
  if w32 a1 = 0 then cC 10 a0 (cl (Md_lonely h 2032 a2) (fun r2 h3 => some (r2, h3))) else if w32 a1 = 1 then cC 10 a0 (cX 100 2032 ((36 + (2 * a2)) + 1) (some ((rd h 2032 (w32 ((36 + (2 * a2)) + 1))), h))) else if w32 a1 = 2 then cC 10 a0 (cX 100 2020 ((3 * a2) + 2) (some ((rd h 2020 (w32 ((3 * a2) + 2))), h))) else cC 10 a0 (cl (Md_owesInAll h a0 a2) (fun r10 h11 => some (r10, h11)))
def Md_greatest_b4_body  (k4 : Hp × Int × Int × Int × Int → Option (Int × Hp)) (h : Hp) (x0 x1 x2 x3 : Int) : Option (Int × Hp) :=
  cC 10 x0 (if w32 x3 < w32 (h x0 26) then cl (Md_valueOf h x0 x1 x3) (fun r2 h3 => cl (Md_valueOf h3 x0 x1 x2) (fun r5 h6 => if w32 r5 < w32 r2 then k4 (h6, x0, x1, x3, (x3 + 1)) else k4 (h6, x0, x1, x2, (x3 + 1)))) else some (x2, h))
def Md_greatest_b4  (h : Hp) (x0 x1 x2 x3 : Int) : Option (Int × Hp) := itr (fun k s => Md_greatest_b4_body  k s.1 s.2.1 s.2.2.1 s.2.2.2.1 s.2.2.2.2) FU (h, x0, x1, x2, x3)
def Md_greatest  (h : Hp) (a0 a1 : Int) : Option (Int × Hp) :=
  Md_greatest_b4 h a0 a1 0 1
def Md_copy_b2_body  (k2 : Hp × Int × Int × Int → Option (Int × Hp)) (h : Hp) (x0 x1 x2 : Int) : Option (Int × Hp) :=
  if w32 x2 < 52 then cX 100 x0 x2 (cY 100 x1 x2 (pu (up h x1 (w32 x2) (rd h x0 (w32 x2))) (fun h3 => k2 (h3, x0, x1, (x2 + 1))))) else cY 100 x1 52 (pu (up h x1 52 0) (fun h5 => some (0, h5)))
def Md_copy_b2  (h : Hp) (x0 x1 x2 : Int) : Option (Int × Hp) := itr (fun k s => Md_copy_b2_body  k s.1 s.2.1 s.2.2.1 s.2.2.2) FU (h, x0, x1, x2)
def Md_copy  (h : Hp) (a0 a1 : Int) : Option (Int × Hp) :=
  Md_copy_b2 h a0 a1 0
def Md_has  (h : Hp) (a0 a1 : Int) : Option (Int × Hp) :=
  if w32 (iand (ishr a0 a1) 1) = 1 then some (1, h) else some (0, h)
def Md_books_b105 (k23 : Hp × Int × Int × Int × Int → Option (Int × Hp)) (k36 : Hp × Int × Int × Int × Int × Int × Int → Option (Int × Hp)) (k51 : Hp × Int × Int × Int × Int × Int × Int × Int → Option (Int × Hp)) (h : Hp) (x0 x1 x2 x4 x5 x6 x7 y0 : Int) : Option (Int × Hp) :=
  if w32 y0 = 0 then k51 (h, x0, x1, x2, x4, x5, x6, (x7 + 1)) else cl (Md_owes h x1 x6 x7) (fun r15 h16 => if w32 r15 = 0 then k51 (h16, x0, x1, x2, x4, x5, x6, (x7 + 1)) else if w32 x4 = (-1) then k51 (h16, x0, x1, x2, x6, x7, x6, (x7 + 1)) else cl (Md_owes h16 x1 x6 x7) (fun r18 h19 => cl (Md_owes h19 x1 x4 x5) (fun r21 h22 => if w32 r21 < w32 r18 then k51 (h22, x0, x1, x2, x6, x7, x6, (x7 + 1)) else k51 (h22, x0, x1, x2, x4, x5, x6, (x7 + 1)))))
def Md_books_b51_body (k23 : Hp × Int × Int × Int × Int → Option (Int × Hp)) (k36 : Hp × Int × Int × Int × Int × Int × Int → Option (Int × Hp)) (k51 : Hp × Int × Int × Int × Int × Int × Int × Int → Option (Int × Hp)) (h : Hp) (x0 x1 x2 x4 x5 x6 x7 : Int) : Option (Int × Hp) :=
  cC 10 x0 (if w32 x7 < w32 (h x0 26) then cX 100 2038 x6 (if w32 (rd h 2038 (w32 x6)) = (-1) then cX 100 2038 x7 (if w32 (rd h 2038 (w32 x7)) = (-1) then cl (Md_has h x2 x6) (fun r9 h10 => if w32 r9 = 0 then cl (Md_has h10 x2 x7) (fun r12 h13 => if w32 r12 = 0 then Md_books_b105 k23 k36 k51 h13 x0 x1 x2 x4 x5 x6 x7 1 else Md_books_b105 k23 k36 k51 h13 x0 x1 x2 x4 x5 x6 x7 0) else Md_books_b105 k23 k36 k51 h10 x0 x1 x2 x4 x5 x6 x7 0) else Md_books_b105 k23 k36 k51 h x0 x1 x2 x4 x5 x6 x7 0) else Md_books_b105 k23 k36 k51 h x0 x1 x2 x4 x5 x6 x7 0) else k36 (h, x0, x1, x2, x4, x5, (x6 + 1)))
def Md_books_b51 (k23 : Hp × Int × Int × Int × Int → Option (Int × Hp)) (k36 : Hp × Int × Int × Int × Int × Int × Int → Option (Int × Hp)) (h : Hp) (x0 x1 x2 x4 x5 x6 x7 : Int) : Option (Int × Hp) := itr (fun k s => Md_books_b51_body k23 k36 k s.1 s.2.1 s.2.2.1 s.2.2.2.1 s.2.2.2.2.1 s.2.2.2.2.2.1 s.2.2.2.2.2.2.1 s.2.2.2.2.2.2.2) FU (h, x0, x1, x2, x4, x5, x6, x7)
def Md_books_b182 (k23 : Hp × Int × Int × Int × Int → Option (Int × Hp)) (h : Hp) (x0 x1 x2 x4 x5 y0 : Int) : Option (Int × Hp) :=
  if w32 y0 = 0 then k23 (h, x0, x1, x2, y0) else cC 10 x0 (cY 100 2038 x4 (pu (up h 2038 (w32 x4) x5) (fun h26 => cY 100 2038 x5 (pu (up h26 2038 (w32 x5) x4) (fun h28 => k23 (h28, x0, x1, x2, y0))))))
def Md_books_b36_body (k23 : Hp × Int × Int × Int × Int → Option (Int × Hp)) (k36 : Hp × Int × Int × Int × Int × Int × Int → Option (Int × Hp)) (h : Hp) (x0 x1 x2 x4 x5 x6 : Int) : Option (Int × Hp) :=
  cC 10 x0 (if w32 x6 < w32 (h x0 26) then bd (x6 + 1) (fun v5 => Md_books_b51 k23 k36 h x0 x1 x2 x4 x5 x6 v5) else if w32 x4 = (-1) then Md_books_b182 k23 h x0 x1 x2 x4 x5 0 else Md_books_b182 k23 h x0 x1 x2 x4 x5 1)
def Md_books_b36 (k23 : Hp × Int × Int × Int × Int → Option (Int × Hp)) (h : Hp) (x0 x1 x2 x4 x5 x6 : Int) : Option (Int × Hp) := itr (fun k s => Md_books_b36_body k23 k s.1 s.2.1 s.2.2.1 s.2.2.2.1 s.2.2.2.2.1 s.2.2.2.2.2.1 s.2.2.2.2.2.2) FU (h, x0, x1, x2, x4, x5, x6)
def Md_books_b23_body  (k23 : Hp × Int × Int × Int × Int → Option (Int × Hp)) (h : Hp) (x0 x1 x2 x3 : Int) : Option (Int × Hp) :=
  if w32 x3 = 0 then some (0, h) else Md_books_b36 k23 h x0 x1 x2 (-1) (-1) 0
def Md_books_b23  (h : Hp) (x0 x1 x2 x3 : Int) : Option (Int × Hp) := itr (fun k s => Md_books_b23_body  k s.1 s.2.1 s.2.2.1 s.2.2.2.1 s.2.2.2.2) FU (h, x0, x1, x2, x3)
def Md_books_b2_body  (k2 : Hp × Int × Int × Int × Int → Option (Int × Hp)) (h : Hp) (x0 x1 x2 x3 : Int) : Option (Int × Hp) :=
  if w32 x3 < 6 then cC 10 x0 (cY 100 2038 x3 (pu (up h 2038 (w32 x3) (-1)) (fun h3 => k2 (h3, x0, x1, x2, (x3 + 1))))) else Md_books_b23 h x0 x1 x2 1
def Md_books_b2  (h : Hp) (x0 x1 x2 x3 : Int) : Option (Int × Hp) := itr (fun k s => Md_books_b2_body  k s.1 s.2.1 s.2.2.1 s.2.2.2.1 s.2.2.2.2) FU (h, x0, x1, x2, x3)
def Md_books  (h : Hp) (a0 a1 a2 : Int) : Option (Int × Hp) :=
  Md_books_b2 h a0 a1 a2 0
def Md_breaks_b22_body  (k22 : Hp × Int × Int × Int × Int → Option (Int × Hp)) (h : Hp) (x0 x1 x2 x3 : Int) : Option (Int × Hp) :=
  cC 10 x0 (if w32 x3 < w32 (h x0 26) then if w32 x3 = w32 x2 then k22 (h, x0, x1, x2, (x3 + 1)) else cl (Md_adds h x1 x2 x3 1) (fun r7 h8 => k22 (h8, x0, x1, x2, (x3 + 1))) else cY 100 x1 ((36 + (2 * x2)) + 0) (pu (up h x1 (w32 ((36 + (2 * x2)) + 0)) 5) (fun h11 => some (0, h11))))
def Md_breaks_b22  (h : Hp) (x0 x1 x2 x3 : Int) : Option (Int × Hp) := itr (fun k s => Md_breaks_b22_body  k s.1 s.2.1 s.2.2.1 s.2.2.2.1 s.2.2.2.2) FU (h, x0, x1, x2, x3)
def Md_breaks  (h : Hp) (a0 a1 a2 : Int) : Option (Int × Hp) :=
  cC 10 a0 (pu (up h a0 40 (ior (h a0 40) (ishl 1 a2))) (fun h2 => cX 100 a1 50 (cY 100 a1 50 (pu (up h2 a1 50 ((rd h2 a1 50) + 1)) (fun h5 => Md_breaks_b22 h5 a0 a1 a2 0)))))
def Md_goEvening_b226  (h : Hp) (x0 x1 : Int) : Option (Int × Hp) :=
  cX 100 x1 52 (bd (53 + (3 * (rd h x1 52))) (fun v43 => cC 10 x0 (cY 100 x1 v43 (pu (up h x1 (w32 v43) (h x0 39)) (fun h46 => cY 100 x1 (v43 + 1) (pu (up h46 x1 (w32 (v43 + 1)) (h46 x0 40)) (fun h48 => cl (Md_allOwed h48 x0 x1) (fun r49 h50 => cY 100 x1 (v43 + 2) (pu (up h50 x1 (w32 (v43 + 2)) r49) (fun h53 => cX 100 x1 52 (cY 100 x1 52 (pu (up h53 x1 52 ((rd h53 x1 52) + 1)) (fun h56 => some ((h56 x0 39), h56))))))))))))))
def Md_goEvening_b191_body  (k191 : Hp × Int × Int × Int → Option (Int × Hp)) (h : Hp) (x0 x1 x3 : Int) : Option (Int × Hp) :=
  if 177 < w32 x3 then cX 100 x1 52 (cY 100 x1 52 (pu (up h x1 52 ((rd h x1 52) - 1)) (fun h41 => Md_goEvening_b226 h41 x0 x1))) else cX 100 x1 ((52 + x3) + 3) (cY 100 x1 (52 + x3) (pu (up h x1 (w32 (52 + x3)) (rd h x1 (w32 ((52 + x3) + 3)))) (fun h59 => k191 (h59, x0, x1, (x3 + 1)))))
def Md_goEvening_b191  (h : Hp) (x0 x1 x3 : Int) : Option (Int × Hp) := itr (fun k s => Md_goEvening_b191_body  k s.1 s.2.1 s.2.2.1 s.2.2.2) FU (h, x0, x1, x3)
def Md_goEvening_b112_body  (k112 : Hp × Int × Int × Int → Option (Int × Hp)) (h : Hp) (x0 x1 x3 : Int) : Option (Int × Hp) :=
  cC 10 x0 (if w32 x3 < w32 (h x0 26) then cX 100 2038 x3 (if w32 (rd h 2038 (w32 x3)) = (-1) then cl (Md_lonely h x1 x3) (fun r26 h27 => if w32 r26 = 9 then cl (Md_breaks h27 x0 x1 x3) (fun r29 h30 => k112 (h30, x0, x1, (x3 + 1))) else cX 100 x1 ((36 + (2 * x3)) + 0) (cY 100 x1 ((36 + (2 * x3)) + 0) (pu (up h27 x1 (w32 ((36 + (2 * x3)) + 0)) ((rd h27 x1 (w32 ((36 + (2 * x3)) + 0))) + 1)) (fun h34 => k112 (h34, x0, x1, (x3 + 1)))))) else k112 (h, x0, x1, (x3 + 1))) else cX 100 x1 51 (cY 100 x1 51 (pu (up h x1 51 ((rd h x1 51) + 1)) (fun h37 => cX 100 x1 52 (if w32 (rd h37 x1 52) = 60 then Md_goEvening_b191 h37 x0 x1 1 else Md_goEvening_b226 h37 x0 x1)))))
def Md_goEvening_b112  (h : Hp) (x0 x1 x3 : Int) : Option (Int × Hp) := itr (fun k s => Md_goEvening_b112_body  k s.1 s.2.1 s.2.2.1 s.2.2.2) FU (h, x0, x1, x3)
def Md_goEvening_b18_body  (k18 : Hp × Int × Int × Int → Option (Int × Hp)) (h : Hp) (x0 x1 x3 : Int) : Option (Int × Hp) :=
  cC 10 x0 (if w32 x3 < w32 (h x0 26) then cX 100 2038 x3 (if w32 (rd h 2038 (w32 x3)) = (-1) then k18 (h, x0, x1, (x3 + 1)) else pu (up h x0 39 ((h x0 39) + 1)) (fun h9 => cl (Md_lonely h9 x1 x3) (fun r10 h11 => cY 100 x1 ((36 + (2 * x3)) + 0) (pu (up h11 x1 (w32 ((36 + (2 * x3)) + 0)) (if 0 < w32 (r10 - 1) then (r10 - 1) else 0)) (fun h14 => cX 100 2038 x3 (if w32 x3 < w32 (rd h14 2038 (w32 x3)) then cX 100 2038 x3 (cX 100 2038 x3 (cl (Md_owes h14 x1 x3 (rd h14 2038 (w32 x3))) (fun r18 h19 => cl (Md_lays h19 x1 x3 (rd h14 2038 (w32 x3)) (r18 - 1)) (fun r21 h22 => k18 (h22, x0, x1, (x3 + 1)))))) else k18 (h14, x0, x1, (x3 + 1)))))))) else Md_goEvening_b112 h x0 x1 0)
def Md_goEvening_b18  (h : Hp) (x0 x1 x3 : Int) : Option (Int × Hp) := itr (fun k s => Md_goEvening_b18_body  k s.1 s.2.1 s.2.2.1 s.2.2.2) FU (h, x0, x1, x3)
def Md_goEvening  (h : Hp) (a0 a1 a2 : Int) : Option (Int × Hp) :=
  cC 10 a0 (cl (Md_books h a0 a1 a2) (fun r2 h3 => pu (up h3 a0 39 0) (fun h5 => pu (up h5 a0 40 0) (fun h6 => Md_goEvening_b18 h6 a0 a1 0))))
def Md_never_b41_body (k22 : Hp × Int × Int × Int → Option (Int × Hp)) (k41 : Hp × Int × Int × Int × Int → Option (Int × Hp)) (h : Hp) (x0 x1 x2 x4 : Int) : Option (Int × Hp) :=
  cC 10 x0 (if w32 x4 < w32 (h x0 26) then cX 100 2038 x4 (if w32 (rd h 2038 (w32 x4)) = (-1) then k41 (h, x0, x1, x2, (x4 + 1)) else bd (iand x1 (ixor (ishl 1 x4) (-1))) (fun v12 => k41 (h, x0, v12, x2, (x4 + 1)))) else k22 (h, x0, x1, (x2 + 1)))
def Md_never_b41 (k22 : Hp × Int × Int × Int → Option (Int × Hp)) (h : Hp) (x0 x1 x2 x4 : Int) : Option (Int × Hp) := itr (fun k s => Md_never_b41_body k22 k s.1 s.2.1 s.2.2.1 s.2.2.2.1 s.2.2.2.2) FU (h, x0, x1, x2, x4)
def Md_never_b22_body  (k22 : Hp × Int × Int × Int → Option (Int × Hp)) (h : Hp) (x0 x1 x2 : Int) : Option (Int × Hp) :=
  if w32 x2 < 20 then cC 10 x0 (cl (Md_goEvening h x0 2033 0) (fun r7 h8 => Md_never_b41 k22 h8 x0 x1 x2 0)) else some (x1, h)
def Md_never_b22  (h : Hp) (x0 x1 x2 : Int) : Option (Int × Hp) := itr (fun k s => Md_never_b22_body  k s.1 s.2.1 s.2.2.1 s.2.2.2) FU (h, x0, x1, x2)
def Md_never  (h : Hp) (a0 : Int) : Option (Int × Hp) :=
  cC 10 a0 (cl (Md_copy h 2032 2033) (fun r2 h3 => bd ((ishl 1 (h3 a0 26)) - 1) (fun v5 => Md_never_b22 h3 a0 v5 0)))
def Md_areParty_b14_body (k2 : Hp × Int × Int × Int → Option (Int × Hp)) (k14 : Hp × Int × Int × Int × Int → Option (Int × Hp)) (h : Hp) (x0 x1 x2 x3 : Int) : Option (Int × Hp) :=
  cC 10 x0 (if w32 x3 < w32 (h x0 26) then cl (Md_has h x1 x2) (fun r4 h5 => if w32 r4 = 0 then k14 (h5, x0, x1, x2, (x3 + 1)) else cl (Md_has h5 x1 x3) (fun r7 h8 => if w32 r7 = 0 then k14 (h8, x0, x1, x2, (x3 + 1)) else cl (Md_owes h8 2032 x2 x3) (fun r10 h11 => if w32 r10 = 0 then some (0, h11) else k14 (h11, x0, x1, x2, (x3 + 1))))) else k2 (h, x0, x1, (x2 + 1)))
def Md_areParty_b14 (k2 : Hp × Int × Int × Int → Option (Int × Hp)) (h : Hp) (x0 x1 x2 x3 : Int) : Option (Int × Hp) := itr (fun k s => Md_areParty_b14_body k2 k s.1 s.2.1 s.2.2.1 s.2.2.2.1 s.2.2.2.2) FU (h, x0, x1, x2, x3)
def Md_areParty_b2_body  (k2 : Hp × Int × Int × Int → Option (Int × Hp)) (h : Hp) (x0 x1 x2 : Int) : Option (Int × Hp) :=
  cC 10 x0 (if w32 x2 < w32 (h x0 26) then bd (x2 + 1) (fun v2 => Md_areParty_b14 k2 h x0 x1 x2 v2) else some (1, h))
def Md_areParty_b2  (h : Hp) (x0 x1 x2 : Int) : Option (Int × Hp) := itr (fun k s => Md_areParty_b2_body  k s.1 s.2.1 s.2.2.1 s.2.2.2) FU (h, x0, x1, x2)
def Md_areParty  (h : Hp) (a0 a1 : Int) : Option (Int × Hp) :=
  Md_areParty_b2 h a0 a1 0
def Md_party_b4_body  (k4 : Hp × Int × Int × Int → Option (Int × Hp)) (h : Hp) (x0 x1 x2 : Int) : Option (Int × Hp) :=
  cC 10 x0 (if w32 x2 < w32 (ishl 1 (h x0 26)) then cl (Ji_bitCount h x2) (fun r2 h3 => if w32 x1 < w32 r2 then cl (Md_areParty h3 x0 x2) (fun r5 h6 => if w32 r5 = 0 then k4 (h6, x0, x1, (x2 + 1)) else cl (Ji_bitCount h6 x2) (fun r8 h9 => k4 (h9, x0, r8, (x2 + 1)))) else k4 (h3, x0, x1, (x2 + 1))) else some (x1, h))
def Md_party_b4  (h : Hp) (x0 x1 x2 : Int) : Option (Int × Hp) := itr (fun k s => Md_party_b4_body  k s.1 s.2.1 s.2.2.1 s.2.2.2) FU (h, x0, x1, x2)
def Md_party  (h : Hp) (a0 : Int) : Option (Int × Hp) :=
  Md_party_b4 h a0 0 1
def Md_all  (h : Hp) (a0 a1 : Int) : Option (Int × Hp) :=
  cC 10 a0 (pu (up h a0 0 0) (fun h2 => if w32 (h2 a0 26) = 0 then some ((-1), h2) else if w32 a1 = 0 then cl (Md_greatest h2 a0 a1) (fun r3 h4 => some (r3, h4)) else if w32 a1 = 1 then cl (Md_greatest h2 a0 a1) (fun r7 h8 => some (r7, h8)) else if w32 a1 = 2 then cl (Md_greatest h2 a0 a1) (fun r11 h12 => some (r11, h12)) else if w32 a1 = 3 then cl (Md_greatest h2 a0 a1) (fun r15 h16 => some (r15, h16)) else if w32 a1 = 4 then cX 100 2032 48 (some ((iand ((ishl 1 (h2 a0 27)) - 1) (ixor (rd h2 2032 48) (-1))), h2)) else if w32 a1 = 5 then cl (Md_allOwed h2 a0 2032) (fun r21 h22 => some (r21, h22)) else if w32 a1 = 6 then cl (Md_free h2 a0) (fun r25 h26 => some (r25, h26)) else if w32 a1 = 7 then cX 100 2032 50 (some ((rd h2 2032 50), h2)) else if w32 a1 = 8 then cl (Md_never h2 a0) (fun r31 h32 => some (r31, h32)) else if w32 a1 = 9 then cl (Md_party h2 a0) (fun r35 h36 => some (r35, h36)) else some ((-1), h2)))
def Md_appeals  (h : Hp) (a0 a1 a2 : Int) : Option (Int × Hp) :=
  cX 100 a0 49 (cY 100 a0 49 (pu (up h a0 49 ((rd h a0 49) - 2)) (fun h3 => cl (Md_owes h3 a0 a1 a2) (fun r4 h5 => cl (Md_owes h5 a0 a1 a2) (fun r7 h8 => cD 2 (cl (Md_lays h8 a0 a1 a2 (r4 - ((w32 r7).tdiv (w32 2)))) (fun r10 h11 => some (0, h11))))))))
def Md_isPerson  (h : Hp) (a0 a1 : Int) : Option (Int × Hp) :=
  if w32 a1 < 0 then some (0, h) else cC 10 a0 (if w32 a1 < w32 (h a0 26) then some (1, h) else some (0, h))
def Md_areTwo  (h : Hp) (a0 a1 a2 : Int) : Option (Int × Hp) :=
  cC 10 a0 (cl (Md_isPerson h a0 a1) (fun r2 h3 => if w32 r2 = 0 then some (0, h3) else cl (Md_isPerson h3 a0 a2) (fun r5 h6 => if w32 r5 = 0 then some (0, h6) else if w32 a1 = w32 a2 then some (0, h6) else some (1, h6))))
def Md_canAppeal  (h : Hp) (a0 a1 a2 a3 : Int) : Option (Int × Hp) :=
  cC 10 a0 (cl (Md_areTwo h a0 a2 a3) (fun r2 h3 => if w32 r2 = 0 then some (0, h3) else cl (Md_owes h3 a1 a2 a3) (fun r5 h6 => if w32 r5 < 2 then some (0, h6) else cX 100 a1 49 (if w32 (rd h6 a1 49) < 2 then some (0, h6) else some (1, h6)))))
def Md_remember_b52_body  (k52 : Hp × Int × Int → Option (Int × Hp)) (h : Hp) (x0 x1 : Int) : Option (Int × Hp) :=
  if w32 x1 < 233 then cC 10 x0 (cX 100 2032 x1 (cY 100 2041 ((233 * (h x0 42)) + x1) (pu (up h 2041 (w32 ((233 * (h x0 42)) + x1)) (rd h 2032 (w32 x1))) (fun h11 => k52 (h11, x0, (x1 + 1)))))) else cC 10 x0 (pu (up h x0 42 ((h x0 42) + 1)) (fun h13 => some (0, h13)))
def Md_remember_b52  (h : Hp) (x0 x1 : Int) : Option (Int × Hp) := itr (fun k s => Md_remember_b52_body  k s.1 s.2.1 s.2.2) FU (h, x0, x1)
def Md_remember_b11_body  (k11 : Hp × Int × Int → Option (Int × Hp)) (h : Hp) (x0 x1 : Int) : Option (Int × Hp) :=
  if w32 x1 < 9087 then cC 10 x0 (cX 100 2041 (x1 + 233) (cY 100 2041 x1 (pu (up h 2041 (w32 x1) (rd h 2041 (w32 (x1 + 233)))) (fun h5 => k11 (h5, x0, (x1 + 1)))))) else cC 10 x0 (pu (up h x0 42 ((h x0 42) - 1)) (fun h7 => Md_remember_b52 h7 x0 0))
def Md_remember_b11  (h : Hp) (x0 x1 : Int) : Option (Int × Hp) := itr (fun k s => Md_remember_b11_body  k s.1 s.2.1 s.2.2) FU (h, x0, x1)
def Md_remember  (h : Hp) (a0 : Int) : Option (Int × Hp) :=
  cC 10 a0 (if w32 (h a0 42) = 40 then Md_remember_b11 h a0 0 else Md_remember_b52 h a0 0)
def Md_appeal  (h : Hp) (a0 a1 a2 : Int) : Option (Int × Hp) :=
  cC 10 a0 (pu (up h a0 0 0) (fun h2 => cl (Md_canAppeal h2 a0 2032 a1 a2) (fun r3 h4 => if w32 r3 = 0 then some ((-1), h4) else cl (Md_remember h4 a0) (fun r6 h7 => cl (Md_appeals h7 2032 a1 a2) (fun r9 h10 => cl (Md_owes h10 2032 a1 a2) (fun r12 h13 => some (r12, h13)))))))
def Md_look_b43  (h : Hp) (x0 : Int) : Option (Int × Hp) :=
  cC 10 x0 (if w32 (h x0 10) < w32 (h x0 9) then cX 101 (h x0 5) ((h x0 8) + (h x0 10)) (some ((iand (rd h (h x0 5) (w32 ((h x0 8) + (h x0 10)))) 255), h)) else some ((-1), h))
def Md_look_b0_body  (k0 : Hp × Int → Option (Int × Hp)) (h : Hp) (x0 : Int) : Option (Int × Hp) :=
  cC 10 x0 (if w32 (h x0 10) < w32 (h x0 9) then cX 101 (h x0 5) ((h x0 8) + (h x0 10)) (if w32 (rd h (h x0 5) (w32 ((h x0 8) + (h x0 10)))) = 32 then pu (up h x0 10 ((h x0 10) + 1)) (fun h3 => k0 (h3, x0)) else Md_look_b43 h x0) else Md_look_b43 h x0)
def Md_look_b0  (h : Hp) (x0 : Int) : Option (Int × Hp) := itr (fun k s => Md_look_b0_body  k s.1 s.2) FU (h, x0)
def Md_look  (h : Hp) (a0 : Int) : Option (Int × Hp) :=
  Md_look_b0 h a0
def Md_fails  (h : Hp) (a0 : Int) : Option (Int × Hp) :=
  cC 10 a0 (if w32 (h a0 11) = (-1) then pu (up h a0 11 (h a0 10)) (fun h2 => some (0, h2)) else some (0, h))
def Md_isSign  (h : Hp) (a0 : Int) : Option (Int × Hp) :=
  if w32 a0 = 61 then some (1, h) else if w32 a0 = 60 then some (1, h) else if w32 a0 = 62 then some (1, h) else some (0, h)
def Md_goesIn  (h : Hp) (a0 : Int) : Option (Int × Hp) :=
  cC 10 a0 (if w32 (h a0 12) = 6 then cl (Md_fails h a0) (fun r2 h3 => some ((r2 % 2), h3)) else pu (up h a0 12 ((h a0 12) + 1)) (fun h5 => pu (up h5 a0 10 ((h5 a0 10) + 1)) (fun h6 => some (1, h6))))
def Md_isAmong_b2_body  (k2 : Hp × Int × Int × Int → Option (Int × Hp)) (h : Hp) (x0 x1 x2 : Int) : Option (Int × Hp) :=
  cS x0 (if w32 x2 < w32 (sln x0) then cT x0 x2 (if w32 (sch x0 (w32 x2)) = w32 x1 then some (1, h) else k2 (h, x0, x1, (x2 + 1))) else some (0, h))
def Md_isAmong_b2  (h : Hp) (x0 x1 x2 : Int) : Option (Int × Hp) := itr (fun k s => Md_isAmong_b2_body  k s.1 s.2.1 s.2.2.1 s.2.2.2) FU (h, x0, x1, x2)
def Md_isAmong  (h : Hp) (a0 a1 : Int) : Option (Int × Hp) :=
  Md_isAmong_b2 h a0 a1 0
def Md_isDigit  (h : Hp) (a0 : Int) : Option (Int × Hp) :=
  cC 10 a0 (if w32 (h a0 10) < w32 (h a0 9) then cX 101 (h a0 5) ((h a0 8) + (h a0 10)) (if w32 (rd h (h a0 5) (w32 ((h a0 8) + (h a0 10)))) < 48 then some (0, h) else cX 101 (h a0 5) ((h a0 8) + (h a0 10)) (if 57 < w32 (rd h (h a0 5) (w32 ((h a0 8) + (h a0 10)))) then some (0, h) else some (1, h))) else some (0, h))
def Md_takes_b16  (h : Hp) (x0 : Int) : Option (Int × Hp) :=
  cC 10 x0 (cl (Md_fails h x0) (fun r7 h8 => some ((r7 % 2), h8)))
def Md_takes  (h : Hp) (a0 a1 : Int) : Option (Int × Hp) :=
  cC 10 a0 (if w32 (h a0 11) = (-1) then cl (Md_look h a0) (fun r2 h3 => if w32 r2 = w32 a1 then pu (up h3 a0 10 ((h3 a0 10) + 1)) (fun h5 => some (1, h5)) else Md_takes_b16 h3 a0) else Md_takes_b16 h a0)
def Md_within  (h : Hp) (a0 : Int) : Option (Int × Hp) :=
  some ((if w64 (if w64 a0 < 1000000 then a0 else 1000000) < (-1000000) then (-1000000) else (if w64 a0 < 1000000 then a0 else 1000000)), h)
def Md_atom_b90_body (kf : Hp × Int → Option (Int × Hp)) (k90 : Hp × Int × Int × Int → Option (Int × Hp)) (h : Hp) (x0 x2 x3 : Int) : Option (Int × Hp) :=
  cC 10 x0 (cl (Md_isDigit h x0) (fun r25 h26 => if w32 r25 = 0 then some (x2, h26) else if w32 (h26 x0 11) = (-1) then if w32 x3 = 4 then cl (Md_fails h26 x0) (fun r28 h29 => some (0, h29)) else cX 101 (h26 x0 5) ((h26 x0 8) + (h26 x0 10)) (bd (((10 * x2) + (rd h26 (h26 x0 5) (w32 ((h26 x0 8) + (h26 x0 10))))) - 48) (fun v32 => pu (up h26 x0 10 ((h26 x0 10) + 1)) (fun h33 => k90 (h33, x0, v32, (x3 + 1))))) else some (x2, h26)))
def Md_atom_b90 (kf : Hp × Int → Option (Int × Hp)) (h : Hp) (x0 x2 x3 : Int) : Option (Int × Hp) := itr (fun k s => Md_atom_b90_body kf k s.1 s.2.1 s.2.2.1 s.2.2.2) FU (h, x0, x2, x3)
def Md_atom (kf : Hp × Int → Option (Int × Hp)) (h : Hp) (a0 : Int) : Option (Int × Hp) :=
  cC 10 a0 (cl (Md_look h a0) (fun r2 h3 => cl (Md_isAmong h3 12 r2) (fun r5 h6 => if w32 r5 = 0 then if w32 r2 = 91 then cl (Md_goesIn h6 a0) (fun r8 h9 => if w32 r8 = 0 then some (0, h9) else cl (kf (h9, a0)) (fun r11 h12 => cl (Md_takes h12 a0 93) (fun r14 h15 => if w32 r14 = 0 then some (0, h15) else pu (up h15 a0 12 ((h15 a0 12) - 1)) (fun h17 => some (r11, h17))))) else cl (Md_isDigit h6 a0) (fun r18 h19 => if w32 r18 = 0 then cl (Md_fails h19 a0) (fun r21 h22 => Md_atom_b90 kf h22 a0 0 0) else Md_atom_b90 kf h19 a0 0 0) else pu (up h6 a0 10 ((h6 a0 10) + 1)) (fun h34 => cX 100 2004 r2 (some ((rd h34 2004 (w32 r2)), h34))))))
def Md_term_b87 (kf : Hp × Int → Option (Int × Hp)) (k5 : Hp × Int × Int → Option (Int × Hp)) (h : Hp) (x0 y0 : Int) : Option (Int × Hp) :=
  cl (Md_within h y0) (fun r19 h20 => k5 (h20, x0, r19))
def Md_term_b45 (kf : Hp × Int → Option (Int × Hp)) (k5 : Hp × Int × Int → Option (Int × Hp)) (h : Hp) (x0 x1 y0 : Int) : Option (Int × Hp) :=
  cC 10 x0 (pu (up h x0 10 ((h x0 10) + 1)) (fun h14 => cl (Md_atom kf h14 x0) (fun r15 h16 => bd (w32 r15) (fun v18 => if w32 y0 = 0 then if w32 (lcm v18 0) = 0 then Md_term_b87 kf k5 h16 x0 0 else cDl v18 (Md_term_b87 kf k5 h16 x0 ((w64 (w32 x1)).tdiv (w64 v18))) else Md_term_b87 kf k5 h16 x0 ((w32 x1) * v18)))))
def Md_term_b31 (kf : Hp × Int → Option (Int × Hp)) (k5 : Hp × Int × Int → Option (Int × Hp)) (h : Hp) (x0 x1 : Int) : Option (Int × Hp) :=
  cC 10 x0 (cl (Md_look h x0) (fun r10 h11 => if w32 r10 = 42 then Md_term_b45 kf k5 h11 x0 x1 1 else Md_term_b45 kf k5 h11 x0 x1 0))
def Md_term_b5_body (kf : Hp × Int → Option (Int × Hp)) (k5 : Hp × Int × Int → Option (Int × Hp)) (h : Hp) (x0 x1 : Int) : Option (Int × Hp) :=
  cC 10 x0 (if w32 (h x0 11) = (-1) then cl (Md_look h x0) (fun r6 h7 => if w32 r6 = 42 then Md_term_b31 kf k5 h7 x0 x1 else cl (Md_look h7 x0) (fun r22 h23 => if w32 r22 = 47 then Md_term_b31 kf k5 h23 x0 x1 else some (x1, h23))) else some (x1, h))
def Md_term_b5 (kf : Hp × Int → Option (Int × Hp)) (h : Hp) (x0 x1 : Int) : Option (Int × Hp) := itr (fun k s => Md_term_b5_body kf k s.1 s.2.1 s.2.2) FU (h, x0, x1)
def Md_term (kf : Hp × Int → Option (Int × Hp)) (h : Hp) (a0 : Int) : Option (Int × Hp) :=
  cC 10 a0 (cl (Md_atom kf h a0) (fun r2 h3 => Md_term_b5 kf h3 a0 r2))
def Md_sum_b77 (kf : Hp × Int → Option (Int × Hp)) (k5 : Hp × Int × Int → Option (Int × Hp)) (h : Hp) (x0 y0 : Int) : Option (Int × Hp) :=
  cl (Md_within h y0) (fun r19 h20 => k5 (h20, x0, r19))
def Md_sum_b45 (kf : Hp × Int → Option (Int × Hp)) (k5 : Hp × Int × Int → Option (Int × Hp)) (h : Hp) (x0 x1 y0 : Int) : Option (Int × Hp) :=
  cC 10 x0 (pu (up h x0 10 ((h x0 10) + 1)) (fun h14 => cl (Md_term kf h14 x0) (fun r15 h16 => bd (w32 r15) (fun v18 => if w32 y0 = 0 then Md_sum_b77 kf k5 h16 x0 ((w32 x1) - v18) else Md_sum_b77 kf k5 h16 x0 ((w32 x1) + v18)))))
def Md_sum_b31 (kf : Hp × Int → Option (Int × Hp)) (k5 : Hp × Int × Int → Option (Int × Hp)) (h : Hp) (x0 x1 : Int) : Option (Int × Hp) :=
  cC 10 x0 (cl (Md_look h x0) (fun r10 h11 => if w32 r10 = 43 then Md_sum_b45 kf k5 h11 x0 x1 1 else Md_sum_b45 kf k5 h11 x0 x1 0))
def Md_sum_b5_body (kf : Hp × Int → Option (Int × Hp)) (k5 : Hp × Int × Int → Option (Int × Hp)) (h : Hp) (x0 x1 : Int) : Option (Int × Hp) :=
  cC 10 x0 (if w32 (h x0 11) = (-1) then cl (Md_look h x0) (fun r6 h7 => if w32 r6 = 43 then Md_sum_b31 kf k5 h7 x0 x1 else cl (Md_look h7 x0) (fun r22 h23 => if w32 r22 = 45 then Md_sum_b31 kf k5 h23 x0 x1 else some (x1, h23))) else some (x1, h))
def Md_sum_b5 (kf : Hp × Int → Option (Int × Hp)) (h : Hp) (x0 x1 : Int) : Option (Int × Hp) := itr (fun k s => Md_sum_b5_body kf k s.1 s.2.1 s.2.2) FU (h, x0, x1)
def Md_sum_body (kf : Hp × Int → Option (Int × Hp)) (h : Hp) (a0 : Int) : Option (Int × Hp) :=
  cC 10 a0 (cl (Md_term kf h a0) (fun r2 h3 => Md_sum_b5 kf h3 a0 r2))
def Md_sum_f : Hp × Int → Option (Int × Hp) := itr (fun k s => Md_sum_body k s.1 s.2) RF
def Md_sum (h : Hp) (a0 : Int) : Option (Int × Hp) := Md_sum_f (h, a0)
def Md_compares_b12  (h : Hp) (x0 y0 : Int) : Option (Int × Hp) :=
  cC 10 x0 (if w32 (h x0 11) = (-1) then cl (Md_look h x0) (fun r6 h7 => cl (Md_isSign h7 r6) (fun r9 h10 => if w32 r9 = 0 then cl (Md_fails h10 x0) (fun r12 h13 => some ((r12 % 2), h13)) else pu (up h10 x0 10 ((h10 x0 10) + 1)) (fun h15 => cl (Md_sum h15 x0) (fun r16 h17 => if w32 r6 = 61 then if w32 y0 = w32 r16 then some (1, h17) else some (0, h17) else if w32 r6 = 60 then if w32 y0 < w32 r16 then some (1, h17) else some (0, h17) else if w32 r16 < w32 y0 then some (1, h17) else some (0, h17))))) else some (0, h))
def Md_compares  (h : Hp) (a0 a1 a2 : Int) : Option (Int × Hp) :=
  if w32 a1 = 0 then cC 10 a0 (cl (Md_sum h a0) (fun r2 h3 => Md_compares_b12 h3 a0 r2)) else Md_compares_b12 h a0 a2
def Md_part_b18_body (kf : Hp × Int → Option (Int × Hp)) (k18 : Hp × Int × Int → Option (Int × Hp)) (h : Hp) (x0 x3 : Int) : Option (Int × Hp) :=
  cC 10 x0 (if w32 (h x0 11) = (-1) then cl (Md_look h x0) (fun r6 h7 => if w32 r6 = 38 then pu (up h7 x0 10 ((h7 x0 10) + 1)) (fun h9 => cl (kf (h9, x0)) (fun r10 h11 => if w32 x3 = 0 then k18 (h11, x0, 0) else if w32 r10 = 0 then k18 (h11, x0, 0) else k18 (h11, x0, 1))) else some ((x3 % 2), h7)) else some ((x3 % 2), h))
def Md_part_b18 (kf : Hp × Int → Option (Int × Hp)) (h : Hp) (x0 x3 : Int) : Option (Int × Hp) := itr (fun k s => Md_part_b18_body kf k s.1 s.2.1 s.2.2) FU (h, x0, x3)
def Md_part (kf : Hp × Int → Option (Int × Hp)) (h : Hp) (a0 a1 a2 : Int) : Option (Int × Hp) :=
  if w32 a1 = 0 then cC 10 a0 (cl (kf (h, a0)) (fun r2 h3 => Md_part_b18 kf h3 a0 r2)) else cC 10 a0 (cl (Md_compares h a0 1 a2) (fun r14 h15 => Md_part_b18 kf h15 a0 r14))
def Md_condition_b7_body (kf : Hp × Int → Option (Int × Hp)) (k7 : Hp × Int × Int → Option (Int × Hp)) (h : Hp) (x0 x3 : Int) : Option (Int × Hp) :=
  cC 10 x0 (if w32 (h x0 11) = (-1) then cl (Md_look h x0) (fun r6 h7 => if w32 r6 = 124 then pu (up h7 x0 10 ((h7 x0 10) + 1)) (fun h9 => cl (Md_part kf h9 x0 0 0) (fun r10 h11 => if w32 x3 = 0 then if w32 r10 = 0 then k7 (h11, x0, 0) else k7 (h11, x0, 1) else k7 (h11, x0, 1))) else some ((x3 % 2), h7)) else some ((x3 % 2), h))
def Md_condition_b7 (kf : Hp × Int → Option (Int × Hp)) (h : Hp) (x0 x3 : Int) : Option (Int × Hp) := itr (fun k s => Md_condition_b7_body kf k s.1 s.2.1 s.2.2) FU (h, x0, x3)
def Md_condition (kf : Hp × Int → Option (Int × Hp)) (h : Hp) (a0 a1 a2 : Int) : Option (Int × Hp) :=
  cC 10 a0 (cl (Md_part kf h a0 a1 a2) (fun r2 h3 => Md_condition_b7 kf h3 a0 r2))
def Md_unit_body (kf : Hp × Int → Option (Int × Hp)) (h : Hp) (a0 : Int) : Option (Int × Hp) :=
  cC 10 a0 (cl (Md_look h a0) (fun r2 h3 => if w32 r2 = 33 then cl (Md_goesIn h3 a0) (fun r5 h6 => if w32 r5 = 0 then some (0, h6) else cl (kf (h6, a0)) (fun r8 h9 => pu (up h9 a0 12 ((h9 a0 12) - 1)) (fun h11 => if w32 r8 = 0 then some (1, h11) else some (0, h11)))) else if w32 r2 = 40 then cl (Md_goesIn h3 a0) (fun r12 h13 => if w32 r12 = 0 then some (0, h13) else cl (Md_condition kf h13 a0 0 0) (fun r15 h16 => cl (Md_takes h16 a0 41) (fun r18 h19 => if w32 r18 = 0 then some (0, h19) else pu (up h19 a0 12 ((h19 a0 12) - 1)) (fun h21 => some ((r15 % 2), h21))))) else cl (Md_compares h3 a0 0 0) (fun r22 h23 => some ((r22 % 2), h23))))
def Md_unit_f : Hp × Int → Option (Int × Hp) := itr (fun k s => Md_unit_body k s.1 s.2) RF
def Md_unit (h : Hp) (a0 : Int) : Option (Int × Hp) := Md_unit_f (h, a0)
def Md_clause_b134  (h : Hp) (x0 x1 x2 x3 : Int) : Option (Int × Hp) :=
  cC 10 x0 (if w32 (h x0 11) = (-1) then if w32 (h x0 17) = 0 then if w32 x1 = w32 (h x0 13) then if w32 x2 = 0 then some (0, h) else pu (up h x0 17 1) (fun h29 => pu (up h29 x0 14 x3) (fun h30 => some (0, h30))) else some (0, h) else some (0, h) else some (0, h))
def Md_clause_b64  (h : Hp) (x0 x1 : Int) : Option (Int × Hp) :=
  cC 10 x0 (cl (Md_condition Md_unit_f h x0 0 0) (fun r19 h20 => cl (Md_takes h20 x0 63) (fun r22 h23 => if w32 r22 = 0 then some (0, h23) else cl (Md_sum h23 x0) (fun r25 h26 => Md_clause_b134 h26 x0 x1 r19 r25))))
def Md_clause  (h : Hp) (a0 : Int) : Option (Int × Hp) :=
  cC 10 a0 (cl (Md_look h a0) (fun r2 h3 => cl (Md_isAmong h3 11 r2) (fun r5 h6 => if w32 r5 = 0 then cl (Md_fails h6 a0) (fun r8 h9 => some (0, h9)) else pu (up h6 a0 10 ((h6 a0 10) + 1)) (fun h11 => cl (Md_takes h11 a0 58) (fun r12 h13 => if w32 r12 = 0 then some (0, h13) else cl (Md_look h13 a0) (fun r15 h16 => if w32 r15 = 33 then Md_clause_b64 h16 a0 r2 else if w32 r15 = 40 then Md_clause_b64 h16 a0 r2 else cl (Md_sum h16 a0) (fun r31 h32 => if w32 (h32 a0 11) = (-1) then cl (Md_look h32 a0) (fun r34 h35 => cl (Md_isSign h35 r34) (fun r37 h38 => if w32 r37 = 0 then Md_clause_b134 h38 a0 r2 1 r31 else cl (Md_condition Md_unit_f h38 a0 1 r31) (fun r40 h41 => cl (Md_takes h41 a0 63) (fun r43 h44 => if w32 r43 = 0 then some (0, h44) else cl (Md_sum h44 a0) (fun r46 h47 => Md_clause_b134 h47 a0 r2 r40 r46))))) else Md_clause_b134 h32 a0 r2 1 r31)))))))
def Md_starts  (h : Hp) (a0 a1 a2 a3 : Int) : Option (Int × Hp) :=
  cC 10 a0 (pu (up h a0 5 a1) (fun h2 => pu (up h2 a0 8 a2) (fun h3 => pu (up h3 a0 9 a3) (fun h4 => pu (up h4 a0 10 0) (fun h5 => pu (up h5 a0 11 (-1)) (fun h6 => some (0, h6)))))))
def Md_goThrough_b66  (h : Hp) (x0 : Int) : Option (Int × Hp) :=
  cC 10 x0 (if w32 (h x0 11) = (-1) then cl (Md_look h x0) (fun r21 h22 => if w32 r21 = (-1) then some (0, h22) else cl (Md_fails h22 x0) (fun r24 h25 => some (0, h25))) else some (0, h))
def Md_goThrough_b32_body  (k32 : Hp × Int → Option (Int × Hp)) (h : Hp) (x0 : Int) : Option (Int × Hp) :=
  cC 10 x0 (if w32 (h x0 11) = (-1) then cl (Md_look h x0) (fun r13 h14 => if w32 r13 = 59 then pu (up h14 x0 10 ((h14 x0 10) + 1)) (fun h16 => cl (Md_clause h16 x0) (fun r17 h18 => k32 (h18, x0))) else Md_goThrough_b66 h14 x0) else Md_goThrough_b66 h x0)
def Md_goThrough_b32  (h : Hp) (x0 : Int) : Option (Int × Hp) := itr (fun k s => Md_goThrough_b32_body  k s.1 s.2) FU (h, x0)
def Md_goThrough  (h : Hp) (a0 a1 a2 a3 : Int) : Option (Int × Hp) :=
  cC 10 a0 (cl (Md_starts h a0 a1 a2 a3) (fun r2 h3 => pu (up h3 a0 13 121) (fun h5 => pu (up h5 a0 12 0) (fun h6 => pu (up h6 a0 17 0) (fun h7 => pu (up h7 a0 14 0) (fun h8 => cl (Md_clause h8 a0) (fun r9 h10 => Md_goThrough_b32 h10 a0)))))))
def Md_worthOf  (h : Hp) (a0 a1 a2 a3 a4 a5 a6 : Int) : Option (Int × Hp) :=
  cC 10 a0 (bd (1 + (w32 (h a0 34))) (fun v2 => bd ((10 * v2) + (w32 a1)) (fun v3 => bd ((10 * v3) + (w32 a2)) (fun v4 => bd ((10 * v4) + (w32 a3)) (fun v5 => bd ((10 * v5) + (w32 a4)) (fun v6 => bd ((10 * v6) + (w32 a5)) (fun v7 => bd ((2000 * v7) + (w32 a6)) (fun v8 => cDl 8191 (bd ((w64 v8).tmod (w64 8191)) (fun v9 => cX 102 2036 v9 (if w32 (lcm (rd h 2036 (w32 v9)) v8) = 0 then cX 100 2037 v9 (some ((rd h 2037 (w32 v9)), h)) else cY 100 2004 103 (pu (up h 2004 103 a1) (fun h13 => cY 100 2004 104 (pu (up h13 2004 104 a2) (fun h15 => cY 100 2004 108 (pu (up h15 2004 108 a3) (fun h17 => cY 100 2004 98 (pu (up h17 2004 98 a4) (fun h19 => cY 100 2004 110 (pu (up h19 2004 110 a5) (fun h21 => cY 100 2004 100 (pu (up h21 2004 100 a6) (fun h23 => cX 100 2003 (h23 a0 34) (cl (Md_goThrough h23 a0 2002 (240 * (h23 a0 34)) (rd h23 2003 (w32 (h23 a0 34)))) (fun r25 h26 => cY 102 2036 v9 (pu (up h26 2036 (w32 v9) v8) (fun h29 => cY 100 2037 v9 (pu (up h29 2037 (w32 v9) (h29 a0 14)) (fun h31 => some ((h31 a0 14), h31))))))))))))))))))))))))))))))
def Md_evenings_b34  (h : Hp) (x0 x7 : Int) : Option (Int × Hp) :=
  cC 10 x0 (cX 100 2018 0 (some ((if 1 < w32 (if w32 x7 < w32 (rd h 2018 0) then x7 else (rd h 2018 0)) then (if w32 x7 < w32 (rd h 2018 0) then x7 else (rd h 2018 0)) else 1), h)))
def Md_evenings  (h : Hp) (a0 a1 a2 a3 a4 a5 a6 : Int) : Option (Int × Hp) :=
  cD 2 (bd (((2 * a1) + a2) - ((w32 a3).tdiv (w32 2))) (fun v1 => cC 10 a0 (if w32 (h a0 34) = (-1) then Md_evenings_b34 h a0 v1 else cl (Md_worthOf h a0 a1 a2 a3 a4 a5 a6) (fun r5 h6 => Md_evenings_b34 h6 a0 r5))))
def Md_worthTold  (h : Hp) (a0 a1 a2 : Int) : Option (Int × Hp) :=
  cC 10 a0 (cX 100 2022 (3 * a1) (bd (rd h 2022 (w32 (3 * a1))) (fun v3 => cX 100 2022 ((3 * a1) + 1) (bd (rd h 2022 (w32 ((3 * a1) + 1))) (fun v5 => cX 100 2020 ((3 * v3) + 2) (cX 100 2020 (3 * v5) (cX 100 2020 ((3 * v5) + 1) (cl (Md_evenings h a0 a2 (rd h 2020 (w32 ((3 * v3) + 2))) (rd h 2020 (w32 (3 * v5))) (rd h 2020 (w32 ((3 * v5) + 1))) 0 0) (fun r9 h10 => some (r9, h10))))))))))
def Md_isGrave_b65 (k2 : Hp × Int × Int × Int × Int → Option (Int × Hp)) (h : Hp) (x0 x1 x2 x3 y0 y1 : Int) : Option (Int × Hp) :=
  if w32 y0 = w32 y1 then k2 (h, x0, x1, x2, (x3 + 1)) else some (0, h)
def Md_isGrave_b46 (k2 : Hp × Int × Int × Int × Int → Option (Int × Hp)) (h : Hp) (x0 x1 x2 x3 y0 : Int) : Option (Int × Hp) :=
  cC 10 x0 (cX 100 2049 ((3 * x3) + 2) (if w32 (rd h 2049 (w32 ((3 * x3) + 2))) = 1 then Md_isGrave_b65 k2 h x0 x1 x2 x3 y0 1 else Md_isGrave_b65 k2 h x0 x1 x2 x3 y0 0))
def Md_isGrave_b2_body  (k2 : Hp × Int × Int × Int × Int → Option (Int × Hp)) (h : Hp) (x0 x1 x2 x3 : Int) : Option (Int × Hp) :=
  cC 10 x0 (if w32 x3 < w32 (h x0 50) then cX 100 2049 (3 * x3) (if w32 (rd h 2049 (w32 (3 * x3))) = w32 x1 then cl (Md_worthTold h x0 x1 x2) (fun r3 h4 => cX 100 2049 ((3 * x3) + 1) (if w32 r3 < w32 (rd h4 2049 (w32 ((3 * x3) + 1))) then Md_isGrave_b46 k2 h4 x0 x1 x2 x3 0 else Md_isGrave_b46 k2 h4 x0 x1 x2 x3 1)) else k2 (h, x0, x1, x2, (x3 + 1))) else some (1, h))
def Md_isGrave_b2  (h : Hp) (x0 x1 x2 x3 : Int) : Option (Int × Hp) := itr (fun k s => Md_isGrave_b2_body  k s.1 s.2.1 s.2.2.1 s.2.2.2.1 s.2.2.2.2) FU (h, x0, x1, x2, x3)
def Md_isGrave  (h : Hp) (a0 a1 a2 : Int) : Option (Int × Hp) :=
  Md_isGrave_b2 h a0 a1 a2 0
def Md_isWrong  (h : Hp) (a0 a1 : Int) : Option (Int × Hp) :=
  if w32 a1 < 0 then some (0, h) else cC 10 a0 (if w32 a1 < w32 (h a0 27) then some (1, h) else some (0, h))
def Md_ask_b38_body (k22 : Hp × Int × Int × Int × Int × Int → Option (Int × Hp)) (k38 : Hp × Int × Int × Int × Int × Int × Int × Int × Int → Option (Int × Hp)) (h : Hp) (x0 x1 x2 x3 x4 x5 x6 x7 : Int) : Option (Int × Hp) :=
  if 9 < w32 x7 then if w32 x6 = 0 then some ((-1), h) else bd (if 0 ≤ w32 x5 then x5 else -x5) (fun v6 => if w32 x2 = (-1) then k22 (h, x0, x1, x4, v6, (x4 + 1)) else if w32 v6 < w32 x3 then k22 (h, x0, x1, x4, v6, (x4 + 1)) else k22 (h, x0, x1, x2, x3, (x4 + 1))) else cC 10 x0 (cl (Md_isGrave h x0 x1 x7) (fun r8 h9 => if w32 r8 = 0 then k38 (h9, x0, x1, x2, x3, x4, x5, x6, (x7 + 1)) else cl (Md_worthTold h9 x0 x1 x7) (fun r11 h12 => if w32 r11 < w32 x4 then bd (x5 + (-1)) (fun v14 => k38 (h12, x0, x1, x2, x3, x4, v14, 1, (x7 + 1))) else bd (x5 + 1) (fun v15 => k38 (h12, x0, x1, x2, x3, x4, v15, 1, (x7 + 1))))))
def Md_ask_b38 (k22 : Hp × Int × Int × Int × Int × Int → Option (Int × Hp)) (h : Hp) (x0 x1 x2 x3 x4 x5 x6 x7 : Int) : Option (Int × Hp) := itr (fun k s => Md_ask_b38_body k22 k s.1 s.2.1 s.2.2.1 s.2.2.2.1 s.2.2.2.2.1 s.2.2.2.2.2.1 s.2.2.2.2.2.2.1 s.2.2.2.2.2.2.2.1 s.2.2.2.2.2.2.2.2) FU (h, x0, x1, x2, x3, x4, x5, x6, x7)
def Md_ask_b22_body  (k22 : Hp × Int × Int × Int × Int × Int → Option (Int × Hp)) (h : Hp) (x0 x1 x2 x3 x4 : Int) : Option (Int × Hp) :=
  if 30 < w32 x4 then some (x2, h) else Md_ask_b38 k22 h x0 x1 x2 x3 x4 0 0 1
def Md_ask_b22  (h : Hp) (x0 x1 x2 x3 x4 : Int) : Option (Int × Hp) := itr (fun k s => Md_ask_b22_body  k s.1 s.2.1 s.2.2.1 s.2.2.2.1 s.2.2.2.2.1 s.2.2.2.2.2) FU (h, x0, x1, x2, x3, x4)
def Md_ask  (h : Hp) (a0 a1 : Int) : Option (Int × Hp) :=
  cC 10 a0 (pu (up h a0 0 0) (fun h2 => cl (Md_isWrong h2 a0 a1) (fun r3 h4 => if w32 r3 = 0 then some ((-1), h4) else Md_ask_b22 h4 a0 a1 (-1) 0 1)))
def Md_back_b16_body  (k16 : Hp × Int × Int → Option (Int × Hp)) (h : Hp) (x0 x1 : Int) : Option (Int × Hp) :=
  if w32 x1 < 233 then cC 10 x0 (cX 100 2052 x1 (cY 100 2032 x1 (pu (up h 2032 (w32 x1) (rd h 2052 (w32 x1))) (fun h6 => k16 (h6, x0, (x1 + 1)))))) else cC 10 x0 (pu (up h x0 42 0) (fun h8 => cX 100 2032 51 (some ((rd h8 2032 51), h8))))
def Md_back_b16  (h : Hp) (x0 x1 : Int) : Option (Int × Hp) := itr (fun k s => Md_back_b16_body  k s.1 s.2.1 s.2.2) FU (h, x0, x1)
def Md_back  (h : Hp) (a0 : Int) : Option (Int × Hp) :=
  cC 10 a0 (pu (up h a0 0 0) (fun h2 => if w32 (h2 a0 53) = 0 then some ((-1), h2) else Md_back_b16 h2 a0 0))
def Md_bytesIn_b5_body  (k5 : Hp × Int × Int × Int → Option (Int × Hp)) (h : Hp) (x0 x1 x2 : Int) : Option (Int × Hp) :=
  if w32 x2 < 0 then some (x1, h) else if w32 (iand (ishr x0 x2) 255) = 0 then bd (x1 + 0) (fun v1 => k5 (h, x0, v1, (x2 + (-8)))) else bd (x1 + 1) (fun v2 => k5 (h, x0, v2, (x2 + (-8))))
def Md_bytesIn_b5  (h : Hp) (x0 x1 x2 : Int) : Option (Int × Hp) := itr (fun k s => Md_bytesIn_b5_body  k s.1 s.2.1 s.2.2.1 s.2.2.2) FU (h, x0, x1, x2)
def Md_bytesIn  (h : Hp) (a0 : Int) : Option (Int × Hp) :=
  Md_bytesIn_b5 h a0 0 24
def Md_canPardon  (h : Hp) (a0 a1 a2 a3 : Int) : Option (Int × Hp) :=
  cC 10 a0 (cl (Md_areTwo h a0 a2 a3) (fun r2 h3 => if w32 r2 = 0 then some (0, h3) else cl (Md_owes h3 a1 a2 a3) (fun r5 h6 => if 0 < w32 r5 then cX 100 a1 49 (if w32 (rd h6 a1 49) < 4 then some (0, h6) else some (1, h6)) else some (0, h6))))
def Md_canSentence  (h : Hp) (a0 a1 a2 : Int) : Option (Int × Hp) :=
  cC 10 a0 (cl (Md_isWrong h a0 a2) (fun r2 h3 => if w32 r2 = 0 then some (0, h3) else cX 100 a1 48 (cl (Md_has h3 (rd h3 a1 48) a2) (fun r6 h7 => if w32 r6 = 0 then some (1, h7) else some (0, h7)))))
def Md_canStep  (h : Hp) (a0 a1 a2 : Int) : Option (Int × Hp) :=
  cC 10 a0 (cX 100 2024 (a2 + 1) (bd (rd h 2024 (w32 (a2 + 1))) (fun v3 => cX 100 2024 a2 (if w32 (rd h 2024 (w32 a2)) = 0 then cl (Md_canSentence h a0 a1 v3) (fun r5 h6 => some ((r5 % 2), h6)) else if w32 (rd h 2024 (w32 a2)) = 1 then cX 100 a1 51 (if w32 (rd h a1 51) < 999 then some (1, h) else some (0, h)) else if w32 (rd h 2024 (w32 a2)) = 2 then cX 100 2024 (a2 + 2) (cl (Md_canAppeal h a0 a1 v3 (rd h 2024 (w32 (a2 + 2)))) (fun r12 h13 => some ((r12 % 2), h13))) else cX 100 2024 (a2 + 2) (cl (Md_canPardon h a0 a1 v3 (rd h 2024 (w32 (a2 + 2)))) (fun r17 h18 => some ((r17 % 2), h18)))))))
def Md_isIn  (h : Hp) (a0 a2 a4 : Int) : Option (Int × Hp) :=
  if w32 (lcm a0 a2) < 0 then some (0, h) else if 0 < w32 (lcm a0 a4) then some (0, h) else some (1, h)
def Md_circle_b81_body  (k81 : Hp × Int × Int × Int × Int × Int → Option (Int × Hp)) (h : Hp) (x0 x1 x2 x3 x4 : Int) : Option (Int × Hp) :=
  cC 10 x0 (if w32 x4 < w32 (h x0 26) then if w32 x2 = 2 then cl (Md_owes h 2032 x1 x4) (fun r14 h15 => if 0 < w32 r14 then bd (ior x3 (ishl 1 x4)) (fun v17 => k81 (h15, x0, x1, x2, v17, (x4 + 1))) else bd (ior x3 0) (fun v18 => k81 (h15, x0, x1, x2, v18, (x4 + 1)))) else some (x3, h) else some (x3, h))
def Md_circle_b81  (h : Hp) (x0 x1 x2 x3 x4 : Int) : Option (Int × Hp) := itr (fun k s => Md_circle_b81_body  k s.1 s.2.1 s.2.2.1 s.2.2.2.1 s.2.2.2.2.1 s.2.2.2.2.2) FU (h, x0, x1, x2, x3, x4)
def Md_circle_b32_body  (k32 : Hp × Int × Int × Int × Int × Int → Option (Int × Hp)) (h : Hp) (x0 x1 x2 x3 x4 : Int) : Option (Int × Hp) :=
  cC 10 x0 (if w32 x4 < w32 (h x0 27) then if w32 x2 < 2 then cX 100 2022 ((3 * x4) + x2) (if w32 (rd h 2022 (w32 ((3 * x4) + x2))) = w32 x1 then bd (ior x3 (ishl 1 x4)) (fun v11 => k32 (h, x0, x1, x2, v11, (x4 + 1))) else bd (ior x3 0) (fun v12 => k32 (h, x0, x1, x2, v12, (x4 + 1)))) else Md_circle_b81 h x0 x1 x2 x3 0 else Md_circle_b81 h x0 x1 x2 x3 0)
def Md_circle_b32  (h : Hp) (x0 x1 x2 x3 x4 : Int) : Option (Int × Hp) := itr (fun k s => Md_circle_b32_body  k s.1 s.2.1 s.2.2.1 s.2.2.2.1 s.2.2.2.2.1 s.2.2.2.2.2) FU (h, x0, x1, x2, x3, x4)
def Md_circle  (h : Hp) (a0 a1 a2 : Int) : Option (Int × Hp) :=
  cC 10 a0 (pu (up h a0 0 0) (fun h2 => cl (Md_isPerson h2 a0 a1) (fun r3 h4 => if w32 r3 = 0 then some ((-1), h4) else cl (Md_isIn h4 (w32 a2) 0 2) (fun r6 h7 => if w32 r6 = 0 then some ((-1), h7) else Md_circle_b32 h7 a0 a1 a2 0 0))))
def Md_count  (h : Hp) (a0 a1 : Int) : Option (Int × Hp) :=
  cC 10 a0 (pu (up h a0 0 0) (fun h2 => if w32 a1 = 0 then some ((h2 a0 26), h2) else if w32 a1 = 1 then some ((h2 a0 27), h2) else if w32 a1 = 2 then some ((h2 a0 7), h2) else if w32 a1 = 3 then some ((h2 a0 30), h2) else if w32 a1 = 4 then some ((h2 a0 6), h2) else if w32 a1 = 5 then some ((h2 a0 34), h2) else if w32 a1 = 6 then cX 100 2032 51 (some ((rd h2 2032 51), h2)) else if w32 a1 = 7 then cX 100 2032 49 (some ((rd h2 2032 49), h2)) else if w32 a1 = 8 then if w32 (h2 a0 26) = 0 then some (0, h2) else cX 100 2018 0 (some ((rd h2 2018 0), h2)) else if w32 a1 = 9 then some ((h2 a0 35), h2) else if w32 a1 = 10 then some ((h2 a0 50), h2) else if w32 a1 = 11 then cX 100 2032 52 (some ((rd h2 2032 52), h2)) else if w32 a1 = 12 then some ((h2 a0 42), h2) else some ((-1000000), h2)))
def Md_sentencedOf_b5_body  (k5 : Hp × Int × Int × Int × Int × Int → Option (Int × Hp)) (h : Hp) (x0 x1 x2 x3 x4 : Int) : Option (Int × Hp) :=
  cC 10 x0 (if w32 x4 < w32 (h x0 27) then cX 100 2022 (3 * x4) (if w32 (rd h 2022 (w32 (3 * x4))) = w32 x2 then cX 100 x1 48 (cl (Md_has h (rd h x1 48) x4) (fun r4 h5 => if w32 r4 = 0 then bd (x3 + 0) (fun v7 => k5 (h5, x0, x1, x2, v7, (x4 + 1))) else bd (x3 + 1) (fun v8 => k5 (h5, x0, x1, x2, v8, (x4 + 1))))) else bd (x3 + 0) (fun v9 => k5 (h, x0, x1, x2, v9, (x4 + 1)))) else some (x3, h))
def Md_sentencedOf_b5  (h : Hp) (x0 x1 x2 x3 x4 : Int) : Option (Int × Hp) := itr (fun k s => Md_sentencedOf_b5_body  k s.1 s.2.1 s.2.2.1 s.2.2.2.1 s.2.2.2.2.1 s.2.2.2.2.2) FU (h, x0, x1, x2, x3, x4)
def Md_sentencedOf  (h : Hp) (a0 a1 a2 : Int) : Option (Int × Hp) :=
  Md_sentencedOf_b5 h a0 a1 a2 0 0
def Md_worthNow  (h : Hp) (a0 a1 a2 a3 a4 : Int) : Option (Int × Hp) :=
  cC 10 a0 (cX 100 2020 ((3 * a2) + 2) (cl (Md_lonely h a1 a3) (fun r3 h4 => cX 100 a1 ((36 + (2 * a3)) + 1) (cl (Md_sentencedOf h4 a0 a1 a2) (fun r7 h8 => cX 100 a1 51 (cl (Md_evenings h8 a0 a4 (rd h 2020 (w32 ((3 * a2) + 2))) r3 (rd h4 a1 (w32 ((36 + (2 * a3)) + 1))) r7 (rd h8 a1 51)) (fun r11 h12 => some (r11, h12))))))))
def Md_crime_b31_body  (k31 : Hp × Int × Int × Int × Int × Int → Option (Int × Hp)) (h : Hp) (x0 x1 x2 x3 x4 : Int) : Option (Int × Hp) :=
  if 9 < w32 x4 then some ((-1), h) else cC 10 x0 (cl (Md_worthNow h x0 2032 x1 x2 x4) (fun r10 h11 => if w32 r10 < w32 x3 then k31 (h11, x0, x1, x2, x3, (x4 + 1)) else some (x4, h11)))
def Md_crime_b31  (h : Hp) (x0 x1 x2 x3 x4 : Int) : Option (Int × Hp) := itr (fun k s => Md_crime_b31_body  k s.1 s.2.1 s.2.2.1 s.2.2.2.1 s.2.2.2.2.1 s.2.2.2.2.2) FU (h, x0, x1, x2, x3, x4)
def Md_crime  (h : Hp) (a0 a1 a2 a3 : Int) : Option (Int × Hp) :=
  cC 10 a0 (pu (up h a0 0 0) (fun h2 => cl (Md_areTwo h2 a0 a1 a2) (fun r3 h4 => if w32 r3 = 0 then some ((-1), h4) else cl (Md_isIn h4 (w32 a3) 1 30) (fun r6 h7 => if w32 r6 = 0 then some ((-1), h7) else Md_crime_b31 h7 a0 a1 a2 a3 1))))
def Md_digit  (h : Hp) (a0 : Int) : Option (Int × Hp) :=
  cC 10 a0 (cl (Md_look h a0) (fun r2 h3 => cl (Md_isDigit h3 a0) (fun r5 h6 => if w32 r5 = 0 then cl (Md_fails h6 a0) (fun r8 h9 => some (0, h9)) else pu (up h6 a0 10 ((h6 a0 10) + 1)) (fun h11 => some ((r2 - 48), h11)))))
def Md_draw  (h : Hp) (a0 a1 : Int) : Option (Int × Hp) :=
  cC 10 a0 (pu (up h a0 43 (((h a0 43) * 6364136223846793005) + 1442695040888963407)) (fun h2 => cDl (w32 a1) (some (((w64 (lushr (h2 a0 43) 33)).tmod (w64 (w32 a1))), h2))))
def Md_end  (h : Hp) (a0 a1 : Int) : Option (Int × Hp) :=
  cC 10 a0 (pu (up h a0 0 0) (fun h2 => if w32 a1 < 0 then some (0, h2) else if w32 (h2 a0 6) < w32 a1 then some (0, h2) else pu (up h2 a0 6 a1) (fun h3 => some (1, h3))))
def Md_evening  (h : Hp) (a0 : Int) : Option (Int × Hp) :=
  cC 10 a0 (pu (up h a0 0 0) (fun h2 => if w32 (h2 a0 26) = 0 then some ((-1), h2) else cX 100 2032 51 (if w32 (rd h2 2032 51) = 999 then some ((-1), h2) else cl (Md_remember h2 a0) (fun r4 h5 => cl (Md_goEvening h5 a0 2032 0) (fun r7 h8 => some (r7, h8))))))
def Md_isWhole_b2_body  (k2 : Hp × Int × Int → Option (Int × Hp)) (h : Hp) (x0 x1 : Int) : Option (Int × Hp) :=
  cC 10 x0 (if w32 x1 < w32 (h x0 29) then cX 100 2023 (3 * x1) (bd (rd h 2023 (w32 (3 * x1))) (fun v3 => cX 100 2023 ((3 * x1) + 1) (bd (rd h 2023 (w32 ((3 * x1) + 1))) (fun v5 => if w32 v3 < w32 (h x0 28) then if w32 v5 < w32 (h x0 28) then if w32 v3 = w32 v5 then some (0, h) else k2 (h, x0, (x1 + 1)) else some (0, h) else some (0, h))))) else if 1 < w32 (h x0 28) then some (1, h) else some (0, h))
def Md_isWhole_b2  (h : Hp) (x0 x1 : Int) : Option (Int × Hp) := itr (fun k s => Md_isWhole_b2_body  k s.1 s.2.1 s.2.2) FU (h, x0, x1)
def Md_isWhole  (h : Hp) (a0 : Int) : Option (Int × Hp) :=
  Md_isWhole_b2 h a0 0
def Md_leastOf_b10  (h : Hp) (x0 x1 : Int) : Option (Int × Hp) :=
  if w32 x0 = 119 then if w32 x1 = 2 then some (1, h) else some (0, h) else some (0, h)
def Md_leastOf  (h : Hp) (a0 a1 : Int) : Option (Int × Hp) :=
  if w32 a0 = 115 then if w32 a1 = 0 then some (1, h) else Md_leastOf_b10 h a0 a1 else Md_leastOf_b10 h a0 a1
def Md_mostOf  (h : Hp) (a0 a1 : Int) : Option (Int × Hp) :=
  if w32 a0 = 115 then if w32 a1 = 0 then some (30, h) else some (99, h) else if w32 a0 = 119 then if w32 a1 < 2 then some (5, h) else some (9, h) else some (9, h)
def Md_here  (h : Hp) (a0 : Int) : Option (Int × Hp) :=
  cC 10 a0 (if w32 (h a0 10) < w32 (h a0 9) then cX 101 (h a0 5) ((h a0 8) + (h a0 10)) (some ((iand (rd h (h a0 5) (w32 ((h a0 8) + (h a0 10)))) 255), h)) else some ((-1), h))
def Md_number_b67  (h : Hp) (x0 x1 x2 x4 : Int) : Option (Int × Hp) :=
  cC 10 x0 (cl (Md_isDigit h x0) (fun r17 h18 => if w32 r17 = 0 then cl (Md_isIn h18 (w32 x4) (w32 x1) (w32 x2)) (fun r20 h21 => if w32 r20 = 0 then pu (up h21 x0 10 ((h21 x0 10) - 1)) (fun h23 => cl (Md_fails h23 x0) (fun r24 h25 => some (x4, h25))) else some (x4, h21)) else cl (Md_fails h18 x0) (fun r27 h28 => some (0, h28))))
def Md_number  (h : Hp) (a0 a1 a2 : Int) : Option (Int × Hp) :=
  cC 10 a0 (cl (Md_look h a0) (fun r2 h3 => cl (Md_isDigit h3 a0) (fun r5 h6 => if w32 r5 = 0 then cl (Md_fails h6 a0) (fun r8 h9 => some (0, h9)) else bd (r2 - 48) (fun v11 => pu (up h6 a0 10 ((h6 a0 10) + 1)) (fun h12 => cl (Md_isDigit h12 a0) (fun r13 h14 => if w32 r13 = 0 then Md_number_b67 h14 a0 a1 a2 v11 else cl (Md_here h14 a0) (fun r30 h31 => bd (((10 * v11) + r30) - 48) (fun v33 => pu (up h31 a0 10 ((h31 a0 10) + 1)) (fun h34 => Md_number_b67 h34 a0 a1 a2 v33)))))))))
def Md_spotOf_b2_body  (k2 : Hp × Int × Int × Int → Option (Int × Hp)) (h : Hp) (x0 x1 x2 : Int) : Option (Int × Hp) :=
  cS x0 (if w32 x2 < w32 (sln x0) then cT x0 x2 (if w32 (sch x0 (w32 x2)) = w32 x1 then some (x2, h) else k2 (h, x0, x1, (x2 + 1))) else some ((-1), h))
def Md_spotOf_b2  (h : Hp) (x0 x1 x2 : Int) : Option (Int × Hp) := itr (fun k s => Md_spotOf_b2_body  k s.1 s.2.1 s.2.2.1 s.2.2.2) FU (h, x0, x1, x2)
def Md_spotOf  (h : Hp) (a0 a1 : Int) : Option (Int × Hp) :=
  Md_spotOf_b2 h a0 a1 0
def Md_usual  (h : Hp) (a0 a1 : Int) : Option (Int × Hp) :=
  if w32 a0 = 115 then some (20, h) else if w32 a0 = 112 then if w32 a1 = 0 then some (4, h) else if w32 a1 = 1 then some (2, h) else some (3, h) else if w32 a1 = 0 then some (0, h) else if w32 a1 = 1 then some (1, h) else some (3, h)
def Md_readItems_b45_body  (k45 : Hp × Int × Int × Int × Int × Int × Int × Int → Option (Int × Hp)) (h : Hp) (x0 x1 x2 x3 x4 x5 x6 : Int) : Option (Int × Hp) :=
  if w32 x6 = (-1) then some (0, h) else cC 10 x0 (if w32 (h x0 11) = (-1) then cl (Md_has h x5 x6) (fun r15 h16 => if w32 r15 = 0 then bd (ior x5 (ishl 1 x6)) (fun v18 => pu (up h16 x0 10 ((h16 x0 10) + 1)) (fun h19 => cl (Md_leastOf h19 x1 x6) (fun r20 h21 => cl (Md_mostOf h21 x1 x6) (fun r23 h24 => cl (Md_number h24 x0 r20 r23) (fun r26 h27 => cY 100 x2 (x3 + x6) (pu (up h27 x2 (w32 (x3 + x6)) r26) (fun h30 => if w32 (h30 x0 11) = (-1) then cl (Md_look h30 x0) (fun r31 h32 => cl (Md_spotOf h32 x4 r31) (fun r34 h35 => k45 (h35, x0, x1, x2, x3, x4, v18, r34))) else k45 (h30, x0, x1, x2, x3, x4, v18, x6)))))))) else cl (Md_fails h16 x0) (fun r37 h38 => some (0, h38))) else some (0, h))
def Md_readItems_b45  (h : Hp) (x0 x1 x2 x3 x4 x5 x6 : Int) : Option (Int × Hp) := itr (fun k s => Md_readItems_b45_body  k s.1 s.2.1 s.2.2.1 s.2.2.2.1 s.2.2.2.2.1 s.2.2.2.2.2.1 s.2.2.2.2.2.2.1 s.2.2.2.2.2.2.2) FU (h, x0, x1, x2, x3, x4, x5, x6)
def Md_readItems_b3_body  (k3 : Hp × Int × Int × Int × Int × Int × Int → Option (Int × Hp)) (h : Hp) (x0 x1 x2 x3 x4 x5 : Int) : Option (Int × Hp) :=
  cS x4 (if w32 x5 < w32 (sln x4) then cl (Md_usual h x1 x5) (fun r2 h3 => cY 100 x2 (x3 + x5) (pu (up h3 x2 (w32 (x3 + x5)) r2) (fun h6 => k3 (h6, x0, x1, x2, x3, x4, (x5 + 1))))) else cC 10 x0 (cl (Md_look h x0) (fun r8 h9 => cl (Md_spotOf h9 x4 r8) (fun r11 h12 => Md_readItems_b45 h12 x0 x1 x2 x3 x4 0 r11))))
def Md_readItems_b3  (h : Hp) (x0 x1 x2 x3 x4 x5 : Int) : Option (Int × Hp) := itr (fun k s => Md_readItems_b3_body  k s.1 s.2.1 s.2.2.1 s.2.2.2.1 s.2.2.2.2.1 s.2.2.2.2.2.1 s.2.2.2.2.2.2) FU (h, x0, x1, x2, x3, x4, x5)
def Md_readItems  (h : Hp) (a0 a1 a2 a3 a4 : Int) : Option (Int × Hp) :=
  Md_readItems_b3 h a0 a1 a2 a3 a4 0
def Md_readClause_b53  (h : Hp) (x0 x1 y0 : Int) : Option (Int × Hp) :=
  if w32 y0 = 0 then cC 10 x0 (cl (Md_fails h x0) (fun r6 h7 => some (0, h7))) else cC 10 x0 (pu (up h x0 10 ((h x0 10) + 1)) (fun h10 => if w32 x1 = 115 then pu (up h10 x0 31 1) (fun h11 => cl (Md_readItems h11 x0 x1 2019 0 13) (fun r12 h13 => some (0, h13))) else if w32 x1 = 112 then pu (up h10 x0 28 ((h10 x0 28) + 1)) (fun h15 => cl (Md_readItems h15 x0 x1 2021 (3 * ((h15 x0 28) - 1)) 14) (fun r16 h17 => some (0, h17))) else pu (up h10 x0 29 ((h10 x0 29) + 1)) (fun h19 => cl (Md_readItems h19 x0 x1 2023 (3 * ((h19 x0 29) - 1)) 15) (fun r20 h21 => some (0, h21)))))
def Md_readClause_b33  (h : Hp) (x0 x1 : Int) : Option (Int × Hp) :=
  if w32 x1 = 119 then cC 10 x0 (if w32 (h x0 29) < 8 then Md_readClause_b53 h x0 x1 1 else Md_readClause_b53 h x0 x1 0) else Md_readClause_b53 h x0 x1 0
def Md_readClause_b18  (h : Hp) (x0 x1 : Int) : Option (Int × Hp) :=
  if w32 x1 = 112 then cC 10 x0 (if w32 (h x0 28) < 6 then Md_readClause_b53 h x0 x1 1 else Md_readClause_b33 h x0 x1) else Md_readClause_b33 h x0 x1
def Md_readClause  (h : Hp) (a0 : Int) : Option (Int × Hp) :=
  cC 10 a0 (cl (Md_look h a0) (fun r2 h3 => if w32 r2 = 115 then if w32 (h3 a0 31) = 0 then Md_readClause_b53 h3 a0 r2 1 else Md_readClause_b18 h3 a0 r2 else Md_readClause_b18 h3 a0 r2))
def Md_readCounty_b125  (h : Hp) (x0 : Int) : Option (Int × Hp) :=
  cC 10 x0 (cl (Md_fails h x0) (fun r20 h21 => some (0, h21)))
def Md_readCounty_b102  (h : Hp) (x0 : Int) : Option (Int × Hp) :=
  cC 10 x0 (if w32 (h x0 11) = (-1) then cl (Md_look h x0) (fun r13 h14 => if w32 r13 = (-1) then cl (Md_isWhole h14 x0) (fun r16 h17 => if w32 r16 = 0 then Md_readCounty_b125 h17 x0 else some (0, h17)) else Md_readCounty_b125 h14 x0) else some (0, h))
def Md_readCounty_b84 (k46 : Hp × Int × Int → Option (Int × Hp)) (h : Hp) (x0 y0 : Int) : Option (Int × Hp) :=
  if w32 y0 = 0 then k46 (h, x0, y0) else cC 10 x0 (pu (up h x0 10 ((h x0 10) + 1)) (fun h31 => k46 (h31, x0, y0)))
def Md_readCounty_b46_body  (k46 : Hp × Int × Int → Option (Int × Hp)) (h : Hp) (x0 x1 : Int) : Option (Int × Hp) :=
  if w32 x1 = 0 then Md_readCounty_b102 h x0 else cC 10 x0 (if w32 (h x0 11) = (-1) then cl (Md_readClause h x0) (fun r24 h25 => if w32 (h25 x0 11) = (-1) then cl (Md_look h25 x0) (fun r27 h28 => if w32 r27 = 59 then Md_readCounty_b84 k46 h28 x0 1 else Md_readCounty_b84 k46 h28 x0 0) else Md_readCounty_b84 k46 h25 x0 0) else Md_readCounty_b102 h x0)
def Md_readCounty_b46  (h : Hp) (x0 x1 : Int) : Option (Int × Hp) := itr (fun k s => Md_readCounty_b46_body  k s.1 s.2.1 s.2.2) FU (h, x0, x1)
def Md_readCounty  (h : Hp) (a0 : Int) : Option (Int × Hp) :=
  cC 10 a0 (cl (Md_starts h a0 2001 0 (h a0 6)) (fun r2 h3 => pu (up h3 a0 28 0) (fun h5 => pu (up h5 a0 29 0) (fun h6 => pu (up h6 a0 31 0) (fun h7 => cY 100 2019 0 (pu (up h7 2019 0 20) (fun h9 => cY 100 2019 1 (pu (up h9 2019 1 20) (fun h11 => Md_readCounty_b46 h11 a0 1)))))))))
def Md_readStep  (h : Hp) (a0 a1 : Int) : Option (Int × Hp) :=
  cC 10 a0 (cl (Md_look h a0) (fun r2 h3 => cl (Md_spotOf h3 16 r2) (fun r5 h6 => if w32 r5 = (-1) then cl (Md_fails h6 a0) (fun r8 h9 => some (0, h9)) else pu (up h6 a0 10 ((h6 a0 10) + 1)) (fun h11 => cY 100 2024 a1 (pu (up h11 2024 (w32 a1) r5) (fun h13 => cY 100 2024 (a1 + 1) (pu (up h13 2024 (w32 (a1 + 1)) (-1)) (fun h15 => cY 100 2024 (a1 + 2) (pu (up h15 2024 (w32 (a1 + 2)) (-1)) (fun h17 => if w32 r5 = 1 then some (0, h17) else cl (Md_digit h17 a0) (fun r18 h19 => cY 100 2024 (a1 + 1) (pu (up h19 2024 (w32 (a1 + 1)) r18) (fun h22 => if w32 (h22 a0 11) = (-1) then if 1 < w32 r5 then cl (Md_digit h22 a0) (fun r23 h24 => cY 100 2024 (a1 + 2) (pu (up h24 2024 (w32 (a1 + 2)) r23) (fun h27 => some (0, h27)))) else some (0, h22) else some (0, h22))))))))))))))
def Md_readPlan_b74 (k17 : Hp × Int × Int × Int → Option (Int × Hp)) (h : Hp) (x0 x1 x2 : Int) : Option (Int × Hp) :=
  if w32 x2 = 0 then k17 (h, x0, x1, x2) else cC 10 x0 (pu (up h x0 10 ((h x0 10) + 1)) (fun h22 => k17 (h22, x0, x1, x2)))
def Md_readPlan_b57 (k17 : Hp × Int × Int × Int → Option (Int × Hp)) (h : Hp) (x0 x1 y0 : Int) : Option (Int × Hp) :=
  if w32 y0 = 0 then Md_readPlan_b74 k17 h x0 x1 y0 else if w32 x1 = 16 then cC 10 x0 (cl (Md_fails h x0) (fun r24 h25 => some (0, h25))) else Md_readPlan_b74 k17 h x0 x1 y0
def Md_readPlan_b17_body  (k17 : Hp × Int × Int × Int → Option (Int × Hp)) (h : Hp) (x0 x1 x2 : Int) : Option (Int × Hp) :=
  if w32 x2 = 0 then cC 10 x0 (cY 100 2025 4 (pu (up h 2025 4 x1) (fun h7 => cl (Md_look h7 x0) (fun r8 h9 => if w32 r8 = (-1) then some (0, h9) else cl (Md_fails h9 x0) (fun r11 h12 => some (0, h12)))))) else cC 10 x0 (cl (Md_readStep h x0 (3 * (64 + x1))) (fun r15 h16 => if w32 (h16 x0 11) = (-1) then cl (Md_look h16 x0) (fun r18 h19 => if w32 r18 = 59 then Md_readPlan_b57 k17 h19 x0 (x1 + 1) 1 else Md_readPlan_b57 k17 h19 x0 (x1 + 1) 0) else some (0, h16)))
def Md_readPlan_b17  (h : Hp) (x0 x1 x2 : Int) : Option (Int × Hp) := itr (fun k s => Md_readPlan_b17_body  k s.1 s.2.1 s.2.2.1 s.2.2.2) FU (h, x0, x1, x2)
def Md_readPlan  (h : Hp) (a0 : Int) : Option (Int × Hp) :=
  cC 10 a0 (cl (Md_starts h a0 2001 0 (h a0 6)) (fun r2 h3 => Md_readPlan_b17 h3 a0 0 1))
def Md_fault_b55  (h : Hp) (x0 : Int) : Option (Int × Hp) :=
  cC 10 x0 (some ((h x0 11), h))
def Md_fault_b46  (h : Hp) (x0 x1 : Int) : Option (Int × Hp) :=
  if w32 x1 = 2 then cC 10 x0 (cl (Md_readPlan h x0) (fun r14 h15 => Md_fault_b55 h15 x0)) else Md_fault_b55 h x0
def Md_fault_b28  (h : Hp) (x0 x1 : Int) : Option (Int × Hp) :=
  if w32 x1 = 1 then cC 10 x0 (cl (Md_goThrough h x0 2001 0 (h x0 6)) (fun r10 h11 => Md_fault_b46 h11 x0 x1)) else Md_fault_b46 h x0 x1
def Md_fault  (h : Hp) (a0 a1 : Int) : Option (Int × Hp) :=
  cC 10 a0 (pu (up h a0 0 0) (fun h2 => cl (Md_isIn h2 (w32 a1) 0 2) (fun r3 h4 => if w32 r3 = 0 then some ((-2), h4) else if w32 a1 = 0 then cl (Md_readCounty h4 a0) (fun r6 h7 => Md_fault_b28 h7 a0 a1) else Md_fault_b28 h4 a0 a1)))
def Md_put_b3_body  (k3 : Hp × Int × Int × Int → Option (Int × Hp)) (h : Hp) (x0 x1 x2 : Int) : Option (Int × Hp) :=
  if w32 x2 < 0 then some (0, h) else if w32 (iand (ishr x1 x2) 255) = 0 then k3 (h, x0, x1, (x2 + (-8))) else cC 10 x0 (cY 101 2001 (h x0 6) (pu (up h 2001 (w32 (h x0 6)) (w8 (w8 (ishr x1 x2)))) (fun h3 => pu (up h3 x0 6 ((h3 x0 6) + 1)) (fun h4 => k3 (h4, x0, x1, (x2 + (-8)))))))
def Md_put_b3  (h : Hp) (x0 x1 x2 : Int) : Option (Int × Hp) := itr (fun k s => Md_put_b3_body  k s.1 s.2.1 s.2.2.1 s.2.2.2) FU (h, x0, x1, x2)
def Md_put  (h : Hp) (a0 a1 : Int) : Option (Int × Hp) :=
  Md_put_b3 h a0 a1 24
def Md_feed  (h : Hp) (a0 a1 a2 a3 a4 a5 : Int) : Option (Int × Hp) :=
  cC 10 a0 (pu (up h a0 0 0) (fun h2 => cl (Md_bytesIn h2 a1) (fun r3 h4 => cl (Md_bytesIn h4 a2) (fun r6 h7 => cl (Md_bytesIn h7 a3) (fun r9 h10 => cl (Md_bytesIn h10 a4) (fun r12 h13 => cl (Md_bytesIn h13 a5) (fun r15 h16 => if 240 < w32 ((((((h2 a0 6) + r3) + r6) + r9) + r12) + r15) then some ((-1), h16) else cl (Md_put h16 a0 a1) (fun r18 h19 => cl (Md_put h19 a0 a2) (fun r21 h22 => cl (Md_put h22 a0 a3) (fun r24 h25 => cl (Md_put h25 a0 a4) (fun r27 h28 => cl (Md_put h28 a0 a5) (fun r30 h31 => some ((h31 a0 6), h31)))))))))))))
def Md_liking  (h : Hp) (a0 a1 a2 : Int) : Option (Int × Hp) :=
  cC 10 a0 (cl (Md_lonely h 2032 a1) (fun r2 h3 => cX 100 2032 ((36 + (2 * a2)) + 1) (some ((r2 - (rd h3 2032 (w32 ((36 + (2 * a2)) + 1)))), h3))))
def Md_has0  (h : Hp) (a0 a1 : Int) : Option (Int × Hp) :=
  cC 10 a0 (cX 100 2038 a1 (if w32 (rd h 2038 (w32 a1)) = 9 then some (0, h) else cX 100 2038 a1 (cl (Md_liking h a0 a1 (rd h 2038 (w32 a1))) (fun r4 h5 => some (r4, h5)))))
def Md_isFirm_b57_body (k45 : Hp × Int × Int → Option (Int × Hp)) (k57 : Hp × Int × Int × Int → Option (Int × Hp)) (h : Hp) (x0 x1 x2 : Int) : Option (Int × Hp) :=
  cC 10 x0 (if w32 x2 < w32 (h x0 26) then cX 100 2038 x1 (if w32 (rd h 2038 (w32 x1)) = w32 x2 then k57 (h, x0, x1, (x2 + 1)) else cl (Md_liking h x0 x1 x2) (fun r11 h12 => cl (Md_has0 h12 x0 x1) (fun r14 h15 => if w32 r14 < w32 r11 then cl (Md_liking h15 x0 x2 x1) (fun r17 h18 => cl (Md_has0 h18 x0 x2) (fun r20 h21 => if w32 r20 < w32 r17 then some (0, h21) else k57 (h21, x0, x1, (x2 + 1)))) else k57 (h15, x0, x1, (x2 + 1))))) else k45 (h, x0, (x1 + 1)))
def Md_isFirm_b57 (k45 : Hp × Int × Int → Option (Int × Hp)) (h : Hp) (x0 x1 x2 : Int) : Option (Int × Hp) := itr (fun k s => Md_isFirm_b57_body k45 k s.1 s.2.1 s.2.2.1 s.2.2.2) FU (h, x0, x1, x2)
def Md_isFirm_b45_body  (k45 : Hp × Int × Int → Option (Int × Hp)) (h : Hp) (x0 x1 : Int) : Option (Int × Hp) :=
  cC 10 x0 (if w32 x1 < w32 (h x0 26) then bd (x1 + 1) (fun v8 => Md_isFirm_b57 k45 h x0 x1 v8) else some (1, h))
def Md_isFirm_b45  (h : Hp) (x0 x1 : Int) : Option (Int × Hp) := itr (fun k s => Md_isFirm_b45_body  k s.1 s.2.1 s.2.2) FU (h, x0, x1)
def Md_isFirm_b2_body  (k2 : Hp × Int × Int → Option (Int × Hp)) (h : Hp) (x0 x1 : Int) : Option (Int × Hp) :=
  cC 10 x0 (if w32 x1 < w32 (h x0 26) then cX 100 2038 x1 (if w32 (rd h 2038 (w32 x1)) = 9 then k2 (h, x0, (x1 + 1)) else cX 100 2038 x1 (cl (Md_liking h x0 x1 (rd h 2038 (w32 x1))) (fun r4 h5 => if w32 r4 < 0 then some (0, h5) else k2 (h5, x0, (x1 + 1))))) else Md_isFirm_b45 h x0 0)
def Md_isFirm_b2  (h : Hp) (x0 x1 : Int) : Option (Int × Hp) := itr (fun k s => Md_isFirm_b2_body  k s.1 s.2.1 s.2.2) FU (h, x0, x1)
def Md_isFirm  (h : Hp) (a0 : Int) : Option (Int × Hp) :=
  Md_isFirm_b2 h a0 0
def Md_rowOf_b4_body  (k4 : Hp × Int × Int × Int → Option (Int × Hp)) (h : Hp) (x0 x1 x2 : Int) : Option (Int × Hp) :=
  cC 10 x0 (if w32 x2 < w32 (h x0 26) then cX 100 2038 x2 (if w32 (rd h 2038 (w32 x2)) = (-1) then bd ((10 * x1) + 9) (fun v3 => k4 (h, x0, v3, (x2 + 1))) else cX 100 2038 x2 (bd ((10 * x1) + (rd h 2038 (w32 x2))) (fun v5 => k4 (h, x0, v5, (x2 + 1))))) else some (x1, h))
def Md_rowOf_b4  (h : Hp) (x0 x1 x2 : Int) : Option (Int × Hp) := itr (fun k s => Md_rowOf_b4_body  k s.1 s.2.1 s.2.2.1 s.2.2.2) FU (h, x0, x1, x2)
def Md_rowOf  (h : Hp) (a0 : Int) : Option (Int × Hp) :=
  Md_rowOf_b4 h a0 0 0
def Md_goFirm_b61 (kf : Hp × Int × Int → Option (Int × Hp)) (h : Hp) (x0 : Int) : Option (Int × Hp) :=
  cC 10 x0 (pu (up h x0 46 ((h x0 46) + 1)) (fun h12 => some (0, h12)))
def Md_goFirm_b76_body (kf : Hp × Int × Int → Option (Int × Hp)) (k76 : Hp × Int × Int × Int → Option (Int × Hp)) (h : Hp) (x0 x2 x3 : Int) : Option (Int × Hp) :=
  cC 10 x0 (if w32 x3 < w32 (h x0 26) then cX 100 2038 x3 (if w32 (rd h 2038 (w32 x3)) = (-1) then cY 100 2038 x2 (pu (up h 2038 (w32 x2) x3) (fun h17 => cY 100 2038 x3 (pu (up h17 2038 (w32 x3) x2) (fun h19 => cl (kf (h19, x0, (x2 + 1))) (fun r20 h21 => cY 100 2038 x3 (pu (up h21 2038 (w32 x3) (-1)) (fun h24 => k76 (h24, x0, x2, (x3 + 1))))))))) else k76 (h, x0, x2, (x3 + 1))) else cY 100 2038 x2 (pu (up h 2038 (w32 x2) 9) (fun h26 => cl (kf (h26, x0, (x2 + 1))) (fun r27 h28 => cY 100 2038 x2 (pu (up h28 2038 (w32 x2) (-1)) (fun h31 => some (0, h31)))))))
def Md_goFirm_b76 (kf : Hp × Int × Int → Option (Int × Hp)) (h : Hp) (x0 x2 x3 : Int) : Option (Int × Hp) := itr (fun k s => Md_goFirm_b76_body kf k s.1 s.2.1 s.2.2.1 s.2.2.2) FU (h, x0, x2, x3)
def Md_goFirm_b26 (kf : Hp × Int × Int → Option (Int × Hp)) (h : Hp) (x0 x2 : Int) : Option (Int × Hp) :=
  cC 10 x0 (if w32 x2 = w32 (h x0 26) then cl (Md_isFirm h x0) (fun r4 h5 => if w32 r4 = 0 then some (0, h5) else if w32 (h5 x0 46) = w32 (h5 x0 47) then cl (Md_rowOf h5 x0) (fun r7 h8 => pu (up h8 x0 48 r7) (fun h10 => Md_goFirm_b61 kf h10 x0)) else Md_goFirm_b61 kf h5 x0) else bd (x2 + 1) (fun v13 => Md_goFirm_b76 kf h x0 x2 v13))
def Md_goFirm_b2_body (kf : Hp × Int × Int → Option (Int × Hp)) (k2 : Hp × Int × Int → Option (Int × Hp)) (h : Hp) (x0 x2 : Int) : Option (Int × Hp) :=
  cC 10 x0 (if w32 x2 < w32 (h x0 26) then cX 100 2038 x2 (if w32 (rd h 2038 (w32 x2)) = (-1) then Md_goFirm_b26 kf h x0 x2 else k2 (h, x0, (x2 + 1))) else Md_goFirm_b26 kf h x0 x2)
def Md_goFirm_b2 (kf : Hp × Int × Int → Option (Int × Hp)) (h : Hp) (x0 x2 : Int) : Option (Int × Hp) := itr (fun k s => Md_goFirm_b2_body kf k s.1 s.2.1 s.2.2) FU (h, x0, x2)
def Md_goFirm_body (kf : Hp × Int × Int → Option (Int × Hp)) (h : Hp) (a0 a1 : Int) : Option (Int × Hp) :=
  Md_goFirm_b2 kf h a0 a1
def Md_goFirm_f : Hp × Int × Int → Option (Int × Hp) := itr (fun k s => Md_goFirm_body k s.1 s.2.1 s.2.2) RF
def Md_goFirm (h : Hp) (a0 a1 : Int) : Option (Int × Hp) := Md_goFirm_f (h, a0, a1)
def Md_firm_b21_body  (k21 : Hp × Int × Int × Int → Option (Int × Hp)) (h : Hp) (x0 x1 x2 : Int) : Option (Int × Hp) :=
  if w32 x2 < 6 then cC 10 x0 (cY 100 2038 x2 (pu (up h 2038 (w32 x2) (-1)) (fun h5 => k21 (h5, x0, x1, (x2 + 1))))) else cC 10 x0 (pu (up h x0 46 0) (fun h7 => pu (up h7 x0 47 x1) (fun h8 => pu (up h8 x0 48 (-1)) (fun h9 => cl (Md_goFirm h9 x0 0) (fun r10 h11 => if w32 x1 = (-1) then some ((h11 x0 46), h11) else some ((h11 x0 48), h11))))))
def Md_firm_b21  (h : Hp) (x0 x1 x2 : Int) : Option (Int × Hp) := itr (fun k s => Md_firm_b21_body  k s.1 s.2.1 s.2.2.1 s.2.2.2) FU (h, x0, x1, x2)
def Md_firm  (h : Hp) (a0 a1 : Int) : Option (Int × Hp) :=
  cC 10 a0 (pu (up h a0 0 0) (fun h2 => if w32 (h2 a0 26) = 0 then some ((-1), h2) else if w32 a1 < (-1) then some ((-1), h2) else Md_firm_b21 h2 a0 a1 0))
def Md_gameOf_b65  (h : Hp) (x1 x2 x3 x4 x8 : Int) : Option (Int × Hp) :=
  if w32 x3 = w32 x2 then if w32 x4 = w32 x1 then some ((x8 + 2), h) else some (x8, h) else some (x8, h)
def Md_gameOf_b54  (h : Hp) (x1 x2 x3 x4 y0 : Int) : Option (Int × Hp) :=
  if w32 x3 = w32 x4 then Md_gameOf_b65 h x1 x2 x3 x4 (y0 + (-3)) else Md_gameOf_b65 h x1 x2 x3 x4 y0
def Md_gameOf_b23  (h : Hp) (x0 x1 x2 x3 x4 x6 y0 : Int) : Option (Int × Hp) :=
  if w32 y0 = w32 x6 then Md_gameOf_b54 h x1 x2 x3 x4 (-9) else cC 10 x0 (cl (Md_isPerson h x0 y0) (fun r2 h3 => if w32 r2 = 0 then Md_gameOf_b54 h3 x1 x2 x3 x4 (-9) else cl (Md_liking h3 x0 x6 y0) (fun r5 h6 => Md_gameOf_b54 h6 x1 x2 x3 x4 r5)))
def Md_gameOf_b10  (h : Hp) (x0 x1 x2 x3 x4 x5 y0 : Int) : Option (Int × Hp) :=
  if w32 x5 = 0 then Md_gameOf_b23 h x0 x1 x2 x3 x4 y0 x3 else Md_gameOf_b23 h x0 x1 x2 x3 x4 y0 x4
def Md_gameOf  (h : Hp) (a0 a1 a2 a3 a4 a5 : Int) : Option (Int × Hp) :=
  if w32 a5 = 0 then Md_gameOf_b10 h a0 a1 a2 a3 a4 a5 a1 else Md_gameOf_b10 h a0 a1 a2 a3 a4 a5 a2
def Md_game  (h : Hp) (a0 a1 a2 a3 a4 a5 : Int) : Option (Int × Hp) :=
  cC 10 a0 (pu (up h a0 0 0) (fun h2 => cl (Md_areTwo h2 a0 a1 a2) (fun r3 h4 => if w32 r3 = 0 then some ((-1000000), h4) else cl (Md_isIn h4 (w32 a3) 0 5) (fun r6 h7 => if w32 r6 = 0 then some ((-1000000), h7) else cl (Md_isIn h7 (w32 a4) 0 5) (fun r9 h10 => if w32 r9 = 0 then some ((-1000000), h10) else cl (Md_isIn h10 (w32 a5) 0 1) (fun r12 h13 => if w32 r12 = 0 then some ((-1000000), h13) else cl (Md_gameOf h13 a0 a1 a2 a3 a4 a5) (fun r15 h16 => some (r15, h16))))))))
def Md_give  (h : Hp) (a0 a1 : Int) : Option (Int × Hp) :=
  cC 10 a0 (pu (up h a0 0 0) (fun h2 => if w32 (h2 a0 26) = 0 then some ((-1), h2) else cl (Md_isIn h2 (w32 a1) 1 50) (fun r3 h4 => if w32 r3 = 0 then some ((-1), h4) else cX 100 2032 49 (if 999 < w32 ((rd h4 2032 49) + a1) then some ((-1), h4) else cl (Md_remember h4 a0) (fun r7 h8 => cX 100 2032 49 (cY 100 2032 49 (pu (up h8 2032 49 ((rd h8 2032 49) + a1)) (fun h12 => cX 100 2032 49 (some ((rd h12 2032 49), h12))))))))))
def Md_given_b83  (h : Hp) (x0 y0 y1 y2 : Int) : Option (Int × Hp) :=
  cY 100 y0 y1 (pu (up h y0 (w32 y1) y2) (fun h14 => cC 10 x0 (pu (up h14 x0 50 ((h14 x0 50) + 1)) (fun h16 => some ((h16 x0 50), h16)))))
def Md_given  (h : Hp) (a0 a1 a2 a3 : Int) : Option (Int × Hp) :=
  cC 10 a0 (pu (up h a0 0 0) (fun h2 => cl (Md_isWrong h2 a0 a1) (fun r3 h4 => if w32 r3 = 0 then some ((-1), h4) else cl (Md_isIn h4 (w32 a2) 1 30) (fun r6 h7 => if w32 r6 = 0 then some ((-1), h7) else if w32 (h7 a0 50) = 10 then some ((-1), h7) else cY 100 2049 (3 * (h7 a0 50)) (pu (up h7 2049 (w32 (3 * (h7 a0 50))) a1) (fun h10 => cY 100 2049 ((3 * (h10 a0 50)) + 1) (pu (up h10 2049 (w32 ((3 * (h10 a0 50)) + 1)) a2) (fun h12 => if w32 a3 = 0 then Md_given_b83 h12 a0 2049 ((3 * (h12 a0 50)) + 2) 0 else Md_given_b83 h12 a0 2049 ((3 * (h12 a0 50)) + 2) 1))))))))
def Md_goMatch_b83 (kf : Hp × Int × Int × Int → Option (Int × Hp)) (h : Hp) (x0 x2 x4 : Int) : Option (Int × Hp) :=
  cC 10 x0 (pu (up h x0 44 x4) (fun h9 => pu (up h9 x0 45 x2) (fun h10 => some (0, h10))))
def Md_goMatch_b51 (kf : Hp × Int × Int × Int → Option (Int × Hp)) (h : Hp) (x0 x2 : Int) : Option (Int × Hp) :=
  cC 10 x0 (cl (Md_rowOf h x0) (fun r5 h6 => if w32 (h6 x0 44) = (-1) then Md_goMatch_b83 kf h6 x0 x2 r5 else if w32 x2 = w32 (h6 x0 45) then if w32 r5 < w32 (h6 x0 44) then Md_goMatch_b83 kf h6 x0 x2 r5 else some (0, h6) else Md_goMatch_b83 kf h6 x0 x2 r5))
def Md_goMatch_b100_body (kf : Hp × Int × Int × Int → Option (Int × Hp)) (k100 : Hp × Int × Int × Int × Int → Option (Int × Hp)) (h : Hp) (x0 x2 x3 x4 : Int) : Option (Int × Hp) :=
  cC 10 x0 (if w32 x4 < w32 (h x0 26) then cX 100 2038 x4 (if w32 (rd h 2038 (w32 x4)) = (-1) then cl (Md_owes h 2032 x3 x4) (fun r14 h15 => if w32 r14 = 0 then k100 (h15, x0, x2, x3, (x4 + 1)) else cY 100 2038 x3 (pu (up h15 2038 (w32 x3) x4) (fun h18 => cY 100 2038 x4 (pu (up h18 2038 (w32 x4) x3) (fun h20 => cl (Md_lonely h20 2032 x3) (fun r21 h22 => cl (Md_lonely h22 2032 x4) (fun r24 h25 => cl (kf (h25, x0, (x3 + 1), ((x2 + r21) + r24))) (fun r27 h28 => cY 100 2038 x4 (pu (up h28 2038 (w32 x4) (-1)) (fun h31 => k100 (h31, x0, x2, x3, (x4 + 1)))))))))))) else k100 (h, x0, x2, x3, (x4 + 1))) else cY 100 2038 x3 (pu (up h 2038 (w32 x3) 9) (fun h33 => cl (kf (h33, x0, (x3 + 1), x2)) (fun r34 h35 => cY 100 2038 x3 (pu (up h35 2038 (w32 x3) (-1)) (fun h38 => some (0, h38)))))))
def Md_goMatch_b100 (kf : Hp × Int × Int × Int → Option (Int × Hp)) (h : Hp) (x0 x2 x3 x4 : Int) : Option (Int × Hp) := itr (fun k s => Md_goMatch_b100_body kf k s.1 s.2.1 s.2.2.1 s.2.2.2.1 s.2.2.2.2) FU (h, x0, x2, x3, x4)
def Md_goMatch_b26 (kf : Hp × Int × Int × Int → Option (Int × Hp)) (h : Hp) (x0 x2 x3 : Int) : Option (Int × Hp) :=
  cC 10 x0 (if w32 x3 = w32 (h x0 26) then if w32 (h x0 44) = (-1) then Md_goMatch_b51 kf h x0 x2 else if w32 x2 < w32 (h x0 45) then some (0, h) else Md_goMatch_b51 kf h x0 x2 else bd (x3 + 1) (fun v11 => Md_goMatch_b100 kf h x0 x2 x3 v11))
def Md_goMatch_b2_body (kf : Hp × Int × Int × Int → Option (Int × Hp)) (k2 : Hp × Int × Int × Int → Option (Int × Hp)) (h : Hp) (x0 x2 x3 : Int) : Option (Int × Hp) :=
  cC 10 x0 (if w32 x3 < w32 (h x0 26) then cX 100 2038 x3 (if w32 (rd h 2038 (w32 x3)) = (-1) then Md_goMatch_b26 kf h x0 x2 x3 else k2 (h, x0, x2, (x3 + 1))) else Md_goMatch_b26 kf h x0 x2 x3)
def Md_goMatch_b2 (kf : Hp × Int × Int × Int → Option (Int × Hp)) (h : Hp) (x0 x2 x3 : Int) : Option (Int × Hp) := itr (fun k s => Md_goMatch_b2_body kf k s.1 s.2.1 s.2.2.1 s.2.2.2) FU (h, x0, x2, x3)
def Md_goMatch_body (kf : Hp × Int × Int × Int → Option (Int × Hp)) (h : Hp) (a0 a1 a2 : Int) : Option (Int × Hp) :=
  Md_goMatch_b2 kf h a0 a2 a1
def Md_goMatch_f : Hp × Int × Int × Int → Option (Int × Hp) := itr (fun k s => Md_goMatch_body k s.1 s.2.1 s.2.2.1 s.2.2.2) RF
def Md_goMatch (h : Hp) (a0 a1 a2 : Int) : Option (Int × Hp) := Md_goMatch_f (h, a0, a1, a2)
def Md_pardons  (h : Hp) (a0 a1 a2 : Int) : Option (Int × Hp) :=
  cX 100 a0 49 (cY 100 a0 49 (pu (up h a0 49 ((rd h a0 49) - 4)) (fun h3 => cl (Md_lays h3 a0 a1 a2 0) (fun r4 h5 => some (0, h5)))))
def Md_sentences  (h : Hp) (a0 a1 a2 : Int) : Option (Int × Hp) :=
  cC 10 a0 (cX 100 2022 (3 * a2) (bd (rd h 2022 (w32 (3 * a2))) (fun v3 => cX 100 2022 ((3 * a2) + 1) (bd (rd h 2022 (w32 ((3 * a2) + 1))) (fun v5 => cX 100 2022 ((3 * a2) + 2) (cl (Md_worthNow h a0 a1 v3 v5 (rd h 2022 (w32 ((3 * a2) + 2)))) (fun r7 h8 => cl (Md_adds h8 a1 v3 v5 r7) (fun r10 h11 => cX 100 a1 48 (cY 100 a1 48 (pu (up h11 a1 48 (ior (rd h11 a1 48) (ishl 1 a2))) (fun h15 => some (0, h15))))))))))))
def Md_goStep  (h : Hp) (a0 a1 a2 : Int) : Option (Int × Hp) :=
  cC 10 a0 (cX 100 2024 (a2 + 1) (bd (rd h 2024 (w32 (a2 + 1))) (fun v3 => cX 100 2024 a2 (if w32 (rd h 2024 (w32 a2)) = 0 then cl (Md_sentences h a0 a1 v3) (fun r5 h6 => some (0, h6)) else if w32 (rd h 2024 (w32 a2)) = 1 then cl (Md_goEvening h a0 a1 0) (fun r9 h10 => some (0, h10)) else if w32 (rd h 2024 (w32 a2)) = 2 then cX 100 2024 (a2 + 2) (cl (Md_appeals h a1 v3 (rd h 2024 (w32 (a2 + 2)))) (fun r14 h15 => some (0, h15))) else cX 100 2024 (a2 + 2) (cl (Md_pardons h a1 v3 (rd h 2024 (w32 (a2 + 2)))) (fun r19 h20 => some (0, h20)))))))
def Md_graves_b25_body  (k25 : Hp × Int × Int × Int × Int × Int → Option (Int × Hp)) (h : Hp) (x0 x1 x2 x3 x4 : Int) : Option (Int × Hp) :=
  if 9 < w32 x4 then if w32 x2 = (-1) then some (x3, h) else some ((-1), h) else cC 10 x0 (cl (Md_isGrave h x0 x1 x4) (fun r7 h8 => if w32 r7 = 0 then k25 (h8, x0, x1, x2, x3, (x4 + 1)) else if w32 x3 = w32 x2 then some (x4, h8) else k25 (h8, x0, x1, x2, (x3 + 1), (x4 + 1))))
def Md_graves_b25  (h : Hp) (x0 x1 x2 x3 x4 : Int) : Option (Int × Hp) := itr (fun k s => Md_graves_b25_body  k s.1 s.2.1 s.2.2.1 s.2.2.2.1 s.2.2.2.2.1 s.2.2.2.2.2) FU (h, x0, x1, x2, x3, x4)
def Md_graves  (h : Hp) (a0 a1 a2 : Int) : Option (Int × Hp) :=
  cC 10 a0 (pu (up h a0 0 0) (fun h2 => cl (Md_isWrong h2 a0 a1) (fun r3 h4 => if w32 r3 = 0 then some ((-1), h4) else if w32 a2 < (-1) then some ((-1), h4) else Md_graves_b25 h4 a0 a1 a2 0 1)))
def Md_image_b16_body  (k16 : Hp × Int × Int → Option (Int × Hp)) (h : Hp) (x0 x1 : Int) : Option (Int × Hp) :=
  if w32 x1 < 233 then cC 10 x0 (cX 100 2032 x1 (cY 100 2052 x1 (pu (up h 2052 (w32 x1) (rd h 2032 (w32 x1))) (fun h6 => k16 (h6, x0, (x1 + 1)))))) else cC 10 x0 (pu (up h x0 53 1) (fun h8 => cX 100 2032 51 (some ((rd h8 2032 51), h8))))
def Md_image_b16  (h : Hp) (x0 x1 : Int) : Option (Int × Hp) := itr (fun k s => Md_image_b16_body  k s.1 s.2.1 s.2.2) FU (h, x0, x1)
def Md_image  (h : Hp) (a0 : Int) : Option (Int × Hp) :=
  cC 10 a0 (pu (up h a0 0 0) (fun h2 => if w32 (h2 a0 26) = 0 then some ((-1), h2) else Md_image_b16 h2 a0 0))
def Md_isPlan  (h : Hp) (a0 a1 : Int) : Option (Int × Hp) :=
  if w32 a1 < 0 then some (0, h) else cC 10 a0 (if w32 a1 < w32 (h a0 30) then some (1, h) else some (0, h))
def Md_law_b28  (h : Hp) (x0 x1 : Int) : Option (Int × Hp) :=
  cC 10 x0 (pu (up h x0 34 x1) (fun h4 => some (1, h4)))
def Md_law  (h : Hp) (a0 a1 : Int) : Option (Int × Hp) :=
  cC 10 a0 (pu (up h a0 0 0) (fun h2 => if w32 a1 = (-1) then Md_law_b28 h2 a0 a1 else cl (Md_isIn h2 (w32 a1) 0 (w32 ((h2 a0 7) - 1))) (fun r5 h6 => if w32 r5 = 0 then some (0, h6) else Md_law_b28 h6 a0 a1)))
def Md_log  (h : Hp) (a0 a1 a2 : Int) : Option (Int × Hp) :=
  cC 10 a0 (pu (up h a0 0 0) (fun h2 => cX 100 2032 52 (cl (Md_isIn h2 (w32 a1) 0 (w32 ((rd h2 2032 52) - 1))) (fun r4 h5 => if w32 r4 = 0 then some ((-1), h5) else cl (Md_isIn h5 (w32 a2) 0 2) (fun r7 h8 => if w32 r7 = 0 then some ((-1), h8) else cX 100 2032 52 (cX 100 2032 ((53 + (3 * (((rd h8 2032 52) - 1) - a1))) + a2) (some ((rd h8 2032 (w32 ((53 + (3 * (((rd h8 2032 52) - 1) - a1))) + a2))), h8))))))))
def Md_lunch  (h : Hp) (a0 a1 a2 : Int) : Option (Int × Hp) :=
  cC 10 a0 (pu (up h a0 0 0) (fun h2 => cl (Md_areTwo h2 a0 a1 a2) (fun r3 h4 => if w32 r3 = 0 then some ((-1), h4) else cl (Md_lonely h4 2032 a1) (fun r6 h7 => cl (Md_lonely h7 2032 a2) (fun r9 h10 => if w32 (r6 + r9) = 0 then some ((-1), h10) else cX 100 2032 49 (if w32 (rd h10 2032 49) < 1 then some ((-1), h10) else cl (Md_remember h10 a0) (fun r13 h14 => cX 100 2032 49 (cY 100 2032 49 (pu (up h14 2032 49 ((rd h14 2032 49) - 1)) (fun h18 => cl (Md_lonely h18 2032 a1) (fun r19 h20 => cY 100 2032 ((36 + (2 * a1)) + 0) (pu (up h20 2032 (w32 ((36 + (2 * a1)) + 0)) (if 0 < w32 (r19 - 2) then (r19 - 2) else 0)) (fun h23 => cl (Md_lonely h23 2032 a2) (fun r24 h25 => cY 100 2032 ((36 + (2 * a2)) + 0) (pu (up h25 2032 (w32 ((36 + (2 * a2)) + 0)) (if 0 < w32 (r24 - 2) then (r24 - 2) else 0)) (fun h28 => cl (Md_lonely h28 2032 a1) (fun r29 h30 => some (r29, h30))))))))))))))))))
def Md_matched_b26_body  (k26 : Hp × Int × Int × Int → Option (Int × Hp)) (h : Hp) (x0 x1 x2 : Int) : Option (Int × Hp) :=
  if w32 x2 < 6 then cC 10 x0 (cY 100 2038 x2 (pu (up h 2038 (w32 x2) (-1)) (fun h8 => k26 (h8, x0, x1, (x2 + 1))))) else cC 10 x0 (pu (up h x0 44 (-1)) (fun h10 => pu (up h10 x0 45 0) (fun h11 => cl (Md_goMatch h11 x0 0 0) (fun r12 h13 => if w32 x1 = 0 then some ((h13 x0 44), h13) else some ((h13 x0 45), h13)))))
def Md_matched_b26  (h : Hp) (x0 x1 x2 : Int) : Option (Int × Hp) := itr (fun k s => Md_matched_b26_body  k s.1 s.2.1 s.2.2.1 s.2.2.2) FU (h, x0, x1, x2)
def Md_matched  (h : Hp) (a0 a1 : Int) : Option (Int × Hp) :=
  cC 10 a0 (pu (up h a0 0 0) (fun h2 => if w32 (h2 a0 26) = 0 then some ((-1), h2) else cl (Md_isIn h2 (w32 a1) 0 1) (fun r3 h4 => if w32 r3 = 0 then some ((-1), h4) else Md_matched_b26 h4 a0 a1 0)))
def Md_oddsFrom_b108_body (kf : Hp × Int × Int × Int × Int × Int → Option (Int × Hp)) (k108 : Hp × Int × Int × Int × Int × Int × Int × Int → Option (Int × Hp)) (h : Hp) (x0 x1 x2 x3 x5 x7 x8 : Int) : Option (Int × Hp) :=
  if 52 < w32 x8 then cC 10 x0 (cl (Md_goEvening h x0 2033 (ishl 1 x1)) (fun r13 h14 => cl (Md_has h14 (h14 x0 40) x1) (fun r16 h17 => if w32 r16 = 0 then cl (kf (h17, x0, x1, (x2 - 1), x3, x5)) (fun r19 h20 => some ((x7 + r19), h20)) else some ((x7 + x5), h17)))) else cC 10 x0 (cX 100 2051 ((53 * x2) + x8) (cY 100 2033 x8 (pu (up h 2033 (w32 x8) (rd h 2051 (w32 ((53 * x2) + x8)))) (fun h25 => k108 (h25, x0, x1, x2, x3, x5, x7, (x8 + 1))))))
def Md_oddsFrom_b108 (kf : Hp × Int × Int × Int × Int × Int → Option (Int × Hp)) (h : Hp) (x0 x1 x2 x3 x5 x7 x8 : Int) : Option (Int × Hp) := itr (fun k s => Md_oddsFrom_b108_body kf k s.1 s.2.1 s.2.2.1 s.2.2.2.1 s.2.2.2.2.1 s.2.2.2.2.2.1 s.2.2.2.2.2.2.1 s.2.2.2.2.2.2.2) FU (h, x0, x1, x2, x3, x5, x7, x8)
def Md_oddsFrom_b14_body (kf : Hp × Int × Int × Int × Int × Int → Option (Int × Hp)) (k14 : Hp × Int × Int × Int × Int × Int × Int → Option (Int × Hp)) (h : Hp) (x0 x1 x2 x3 x4 x5 : Int) : Option (Int × Hp) :=
  if 52 < w32 x5 then cDl 100 (bd ((w64 ((w32 x4) * (w32 x3))).tdiv (w64 100)) (fun v1 => cC 10 x0 (cl (Md_goEvening h x0 2033 0) (fun r3 h4 => cl (Md_has h4 (h4 x0 40) x1) (fun r6 h7 => if w32 r6 = 0 then cl (kf (h7, x0, x1, (x2 - 1), x3, (x4 - v1))) (fun r9 h10 => Md_oddsFrom_b108 kf h10 x0 x1 x2 x3 v1 r9 0) else bd (x4 - v1) (fun v26 => Md_oddsFrom_b108 kf h7 x0 x1 x2 x3 v1 v26 0)))))) else cC 10 x0 (cX 100 2033 x5 (cY 100 2051 ((53 * x2) + x5) (pu (up h 2051 (w32 ((53 * x2) + x5)) (rd h 2033 (w32 x5))) (fun h30 => k14 (h30, x0, x1, x2, x3, x4, (x5 + 1))))))
def Md_oddsFrom_b14 (kf : Hp × Int × Int × Int × Int × Int → Option (Int × Hp)) (h : Hp) (x0 x1 x2 x3 x4 x5 : Int) : Option (Int × Hp) := itr (fun k s => Md_oddsFrom_b14_body kf k s.1 s.2.1 s.2.2.1 s.2.2.2.1 s.2.2.2.2.1 s.2.2.2.2.2.1 s.2.2.2.2.2.2) FU (h, x0, x1, x2, x3, x4, x5)
def Md_oddsFrom_body (kf : Hp × Int × Int × Int × Int × Int → Option (Int × Hp)) (h : Hp) (a0 a1 a2 a3 a4 : Int) : Option (Int × Hp) :=
  if w32 a2 = 0 then some (0, h) else if w32 a4 = 0 then some (0, h) else Md_oddsFrom_b14 kf h a0 a1 a2 a3 a4 0
def Md_oddsFrom_f : Hp × Int × Int × Int × Int × Int → Option (Int × Hp) := itr (fun k s => Md_oddsFrom_body k s.1 s.2.1 s.2.2.1 s.2.2.2.1 s.2.2.2.2.1 s.2.2.2.2.2) RF
def Md_oddsFrom (h : Hp) (a0 a1 a2 a3 a4 : Int) : Option (Int × Hp) := Md_oddsFrom_f (h, a0, a1, a2, a3, a4)
def Md_odds  (h : Hp) (a0 a1 a2 a3 : Int) : Option (Int × Hp) :=
  cC 10 a0 (pu (up h a0 0 0) (fun h2 => cl (Md_isPerson h2 a0 a1) (fun r3 h4 => if w32 r3 = 0 then some ((-1), h4) else cl (Md_isIn h4 (w32 a2) 0 6) (fun r6 h7 => if w32 r6 = 0 then some ((-1), h7) else cl (Md_isIn h7 (w32 a3) 0 100) (fun r9 h10 => if w32 r9 = 0 then some ((-1), h10) else cl (Md_copy h10 2032 2033) (fun r12 h13 => cl (Md_oddsFrom h13 a0 a1 a2 a3 1000000000) (fun r15 h16 => some (r15, h16))))))))
def Md_owed  (h : Hp) (a0 a1 a2 : Int) : Option (Int × Hp) :=
  cC 10 a0 (pu (up h a0 0 0) (fun h2 => cl (Md_areTwo h2 a0 a1 a2) (fun r3 h4 => if w32 r3 = 0 then some ((-1), h4) else cl (Md_owes h4 2032 a1 a2) (fun r6 h7 => some (r6, h7)))))
def Md_pardon  (h : Hp) (a0 a1 a2 : Int) : Option (Int × Hp) :=
  cC 10 a0 (pu (up h a0 0 0) (fun h2 => cl (Md_canPardon h2 a0 2032 a1 a2) (fun r3 h4 => if w32 r3 = 0 then some ((-1), h4) else cl (Md_remember h4 a0) (fun r6 h7 => cl (Md_owes h7 2032 a1 a2) (fun r9 h10 => cl (Md_pardons h10 2032 a1 a2) (fun r12 h13 => some (r9, h13)))))))
def Md_perform_b24_body  (k24 : Hp × Int × Int × Int → Option (Int × Hp)) (h : Hp) (x0 x1 x2 : Int) : Option (Int × Hp) :=
  cC 10 x0 (cX 100 2025 x1 (if w32 x2 < w32 (rd h 2025 (w32 x1)) then cl (Md_canStep h x0 2032 (3 * ((16 * x1) + x2))) (fun r8 h9 => if w32 r8 = 0 then some (x2, h9) else cl (Md_remember h9 x0) (fun r11 h12 => cl (Md_goStep h12 x0 2032 (3 * ((16 * x1) + x2))) (fun r14 h15 => k24 (h15, x0, x1, (x2 + 1))))) else some (x2, h)))
def Md_perform_b24  (h : Hp) (x0 x1 x2 : Int) : Option (Int × Hp) := itr (fun k s => Md_perform_b24_body  k s.1 s.2.1 s.2.2.1 s.2.2.2) FU (h, x0, x1, x2)
def Md_perform  (h : Hp) (a0 a1 : Int) : Option (Int × Hp) :=
  cC 10 a0 (pu (up h a0 0 0) (fun h2 => cl (Md_isPlan h2 a0 a1) (fun r3 h4 => if w32 r3 = 0 then some ((-1), h4) else if w32 (h4 a0 26) = 0 then some ((-1), h4) else Md_perform_b24 h4 a0 a1 0)))
def Md_person_b26  (h : Hp) (x0 x1 x2 y0 y1 : Int) : Option (Int × Hp) :=
  cC 10 y0 (pu (up h y0 0 y1) (fun h6 => cC 10 x0 (if 0 < w32 (h6 x0 0) then some (0, h6) else if w32 x2 = 2 then cX 100 2020 ((3 * x1) + 2) (some ((rd h6 2020 (w32 ((3 * x1) + 2))), h6)) else if w32 x2 = 3 then cl (Md_owesInAll h6 x0 x1) (fun r9 h10 => some (r9, h10)) else cX 100 2032 ((36 + (2 * x1)) + x2) (some ((rd h6 2032 (w32 ((36 + (2 * x1)) + x2))), h6)))))
def Md_person  (h : Hp) (a0 a1 a2 : Int) : Option (Int × Hp) :=
  cC 10 a0 (cl (Md_isPerson h a0 a1) (fun r2 h3 => if w32 r2 = 0 then Md_person_b26 h3 a0 a1 a2 a0 1 else cl (Md_isIn h3 (w32 a2) 0 3) (fun r13 h14 => if w32 r13 = 0 then Md_person_b26 h14 a0 a1 a2 a0 1 else Md_person_b26 h14 a0 a1 a2 a0 0)))
def Md_rests_b131 (k27 : Hp × Int × Int × Int × Int × Int × Int → Option (Int × Hp)) (k39 : Hp × Int × Int × Int × Int × Int × Int × Int → Option (Int × Hp)) (h : Hp) (x0 x1 x2 x3 x4 x5 x6 x7 : Int) : Option (Int × Hp) :=
  if w32 x7 = 0 then k39 (h, x0, x1, x2, x3, x4, x5, (x6 + 1)) else if w32 x4 = w32 x3 then some (((10 * x5) + x6), h) else k39 (h, x0, x1, x2, x3, (x4 + 1), x5, (x6 + 1))
def Md_rests_b54_body (k27 : Hp × Int × Int × Int × Int × Int × Int → Option (Int × Hp)) (k39 : Hp × Int × Int × Int × Int × Int × Int × Int → Option (Int × Hp)) (k54 : Hp × Int × Int × Int × Int × Int × Int × Int × Int × Int → Option (Int × Hp)) (h : Hp) (x0 x1 x2 x3 x4 x5 x6 x7 x8 : Int) : Option (Int × Hp) :=
  cC 10 x0 (if w32 x8 < w32 (h x0 26) then if w32 x7 = 0 then Md_rests_b131 k27 k39 h x0 x1 x2 x3 x4 x5 x6 x7 else cl (Md_gameOf h x0 x1 x2 x8 x6 0) (fun r9 h10 => cl (Md_gameOf h10 x0 x1 x2 x5 x6 0) (fun r12 h13 => if w32 r12 < w32 r9 then k54 (h13, x0, x1, x2, x3, x4, x5, x6, 0, (x8 + 1)) else cl (Md_gameOf h13 x0 x1 x2 x5 x8 1) (fun r15 h16 => cl (Md_gameOf h16 x0 x1 x2 x5 x6 1) (fun r18 h19 => if w32 r18 < w32 r15 then k54 (h19, x0, x1, x2, x3, x4, x5, x6, 0, (x8 + 1)) else k54 (h19, x0, x1, x2, x3, x4, x5, x6, 1, (x8 + 1)))))) else Md_rests_b131 k27 k39 h x0 x1 x2 x3 x4 x5 x6 x7)
def Md_rests_b54 (k27 : Hp × Int × Int × Int × Int × Int × Int → Option (Int × Hp)) (k39 : Hp × Int × Int × Int × Int × Int × Int × Int → Option (Int × Hp)) (h : Hp) (x0 x1 x2 x3 x4 x5 x6 x7 x8 : Int) : Option (Int × Hp) := itr (fun k s => Md_rests_b54_body k27 k39 k s.1 s.2.1 s.2.2.1 s.2.2.2.1 s.2.2.2.2.1 s.2.2.2.2.2.1 s.2.2.2.2.2.2.1 s.2.2.2.2.2.2.2.1 s.2.2.2.2.2.2.2.2.1 s.2.2.2.2.2.2.2.2.2) FU (h, x0, x1, x2, x3, x4, x5, x6, x7, x8)
def Md_rests_b39_body (k27 : Hp × Int × Int × Int × Int × Int × Int → Option (Int × Hp)) (k39 : Hp × Int × Int × Int × Int × Int × Int × Int → Option (Int × Hp)) (h : Hp) (x0 x1 x2 x3 x4 x5 x6 : Int) : Option (Int × Hp) :=
  cC 10 x0 (if w32 x6 < w32 (h x0 26) then Md_rests_b54 k27 k39 h x0 x1 x2 x3 x4 x5 x6 1 0 else k27 (h, x0, x1, x2, x3, x4, (x5 + 1)))
def Md_rests_b39 (k27 : Hp × Int × Int × Int × Int × Int × Int → Option (Int × Hp)) (h : Hp) (x0 x1 x2 x3 x4 x5 x6 : Int) : Option (Int × Hp) := itr (fun k s => Md_rests_b39_body k27 k s.1 s.2.1 s.2.2.1 s.2.2.2.1 s.2.2.2.2.1 s.2.2.2.2.2.1 s.2.2.2.2.2.2.1 s.2.2.2.2.2.2.2) FU (h, x0, x1, x2, x3, x4, x5, x6)
def Md_rests_b27_body  (k27 : Hp × Int × Int × Int × Int × Int × Int → Option (Int × Hp)) (h : Hp) (x0 x1 x2 x3 x4 x5 : Int) : Option (Int × Hp) :=
  cC 10 x0 (if w32 x5 < w32 (h x0 26) then Md_rests_b39 k27 h x0 x1 x2 x3 x4 x5 0 else if w32 x3 = (-1) then some (x4, h) else some ((-1), h))
def Md_rests_b27  (h : Hp) (x0 x1 x2 x3 x4 x5 : Int) : Option (Int × Hp) := itr (fun k s => Md_rests_b27_body  k s.1 s.2.1 s.2.2.1 s.2.2.2.1 s.2.2.2.2.1 s.2.2.2.2.2.1 s.2.2.2.2.2.2) FU (h, x0, x1, x2, x3, x4, x5)
def Md_rests  (h : Hp) (a0 a1 a2 a3 : Int) : Option (Int × Hp) :=
  cC 10 a0 (pu (up h a0 0 0) (fun h2 => cl (Md_areTwo h2 a0 a1 a2) (fun r3 h4 => if w32 r3 = 0 then some ((-1), h4) else if w32 a3 < (-1) then some ((-1), h4) else Md_rests_b27 h4 a0 a1 a2 a3 0 0)))
def Md_run_b98  (h : Hp) (x0 x1 x2 x3 : Int) : Option (Int × Hp) :=
  if w32 x2 = 1 then cC 10 x0 (cX 100 2033 50 (cX 100 2032 50 (some (((rd h 2033 50) - (rd h 2032 50)), h)))) else cC 10 x0 (cX 100 2025 x1 (if w32 x3 = w32 (rd h 2025 (w32 x1)) then some ((-1), h) else some (x3, h)))
def Md_run_b47_body  (k47 : Hp × Int × Int × Int × Int → Option (Int × Hp)) (h : Hp) (x0 x1 x2 x3 : Int) : Option (Int × Hp) :=
  cC 10 x0 (cX 100 2025 x1 (if w32 x3 < w32 (rd h 2025 (w32 x1)) then cl (Md_canStep h x0 2033 (3 * ((16 * x1) + x3))) (fun r14 h15 => if w32 r14 = 0 then Md_run_b98 h15 x0 x1 x2 x3 else cl (Md_goStep h15 x0 2033 (3 * ((16 * x1) + x3))) (fun r22 h23 => k47 (h23, x0, x1, x2, (x3 + 1)))) else Md_run_b98 h x0 x1 x2 x3))
def Md_run_b47  (h : Hp) (x0 x1 x2 x3 : Int) : Option (Int × Hp) := itr (fun k s => Md_run_b47_body  k s.1 s.2.1 s.2.2.1 s.2.2.2.1 s.2.2.2.2) FU (h, x0, x1, x2, x3)
def Md_run  (h : Hp) (a0 a1 a2 : Int) : Option (Int × Hp) :=
  cC 10 a0 (pu (up h a0 0 0) (fun h2 => cl (Md_isPlan h2 a0 a1) (fun r3 h4 => if w32 r3 = 0 then some ((-1000000), h4) else if w32 (h4 a0 26) = 0 then some ((-1000000), h4) else cl (Md_isIn h4 (w32 a2) 0 1) (fun r6 h7 => if w32 r6 = 0 then some ((-1000000), h7) else cl (Md_copy h7 2032 2033) (fun r9 h10 => Md_run_b47 h10 a0 a1 a2 0)))))
def Md_sentence  (h : Hp) (a0 a1 : Int) : Option (Int × Hp) :=
  cC 10 a0 (pu (up h a0 0 0) (fun h2 => cl (Md_canSentence h2 a0 2032 a1) (fun r3 h4 => if w32 r3 = 0 then some ((-1), h4) else cl (Md_remember h4 a0) (fun r6 h7 => cl (Md_sentences h7 a0 2032 a1) (fun r9 h10 => cX 100 2022 (3 * a1) (cX 100 2022 ((3 * a1) + 1) (cl (Md_owes h10 2032 (rd h10 2022 (w32 (3 * a1))) (rd h10 2022 (w32 ((3 * a1) + 1)))) (fun r14 h15 => some (r14, h15)))))))))
def Md_served_b27_body  (k27 : Hp × Int × Int → Option (Int × Hp)) (h : Hp) (x0 x1 : Int) : Option (Int × Hp) :=
  if 99 < w32 x1 then some ((-1), h) else cC 10 x0 (cl (Md_allOwed h x0 2033) (fun r7 h8 => if w32 r7 = 0 then some (x1, h8) else cl (Md_goEvening h8 x0 2033 0) (fun r10 h11 => k27 (h11, x0, (x1 + 1)))))
def Md_served_b27  (h : Hp) (x0 x1 : Int) : Option (Int × Hp) := itr (fun k s => Md_served_b27_body  k s.1 s.2.1 s.2.2) FU (h, x0, x1)
def Md_served  (h : Hp) (a0 : Int) : Option (Int × Hp) :=
  cC 10 a0 (pu (up h a0 0 0) (fun h2 => if w32 (h2 a0 26) = 0 then some ((-1), h2) else cl (Md_copy h2 2032 2033) (fun r3 h4 => Md_served_b27 h4 a0 0)))
def Md_sin  (h : Hp) (a0 a1 : Int) : Option (Int × Hp) :=
  cC 10 a0 (pu (up h a0 0 0) (fun h2 => cl (Md_isIn h2 (w32 a1) 0 9) (fun r3 h4 => if w32 r3 = 0 then some (0, h4) else if w32 a1 = w32 (h4 a0 35) then some (0, h4) else pu (up h4 a0 35 a1) (fun h6 => some (1, h6)))))
def Md_sooner_b67_body (k18 : Hp × Int × Int × Int → Option (Int × Hp)) (k52 : Hp × Int × Int × Int × Int × Int × Int → Option (Int × Hp)) (k67 : Hp × Int × Int × Int × Int × Int × Int × Int → Option (Int × Hp)) (h : Hp) (x0 x1 x2 x3 x4 x5 x6 : Int) : Option (Int × Hp) :=
  cC 10 x0 (if w32 x6 < w32 (h x0 26) then cl (Md_has h x2 x5) (fun r10 h11 => if w32 r10 = 0 then bd (x4 + 0) (fun v13 => k67 (h11, x0, x1, x2, x3, v13, x5, (x6 + 1))) else cl (Md_has h11 x2 x6) (fun r14 h15 => if w32 r14 = 0 then bd (x4 + 0) (fun v17 => k67 (h15, x0, x1, x2, x3, v17, x5, (x6 + 1))) else cl (Md_owes h15 2032 x5 x6) (fun r18 h19 => bd (x4 + r18) (fun v21 => k67 (h19, x0, x1, x2, x3, v21, x5, (x6 + 1)))))) else k52 (h, x0, x1, x2, x3, x4, (x5 + 1)))
def Md_sooner_b67 (k18 : Hp × Int × Int × Int → Option (Int × Hp)) (k52 : Hp × Int × Int × Int × Int × Int × Int → Option (Int × Hp)) (h : Hp) (x0 x1 x2 x3 x4 x5 x6 : Int) : Option (Int × Hp) := itr (fun k s => Md_sooner_b67_body k18 k52 k s.1 s.2.1 s.2.2.1 s.2.2.2.1 s.2.2.2.2.1 s.2.2.2.2.2.1 s.2.2.2.2.2.2.1 s.2.2.2.2.2.2.2) FU (h, x0, x1, x2, x3, x4, x5, x6)
def Md_sooner_b143 (k18 : Hp × Int × Int × Int → Option (Int × Hp)) (h : Hp) (x0 x2 y0 y1 : Int) : Option (Int × Hp) :=
  bd (if w32 y0 < w32 y1 then y1 else y0) (fun v22 => k18 (h, x0, v22, (x2 + 1)))
def Md_sooner_b52_body (k18 : Hp × Int × Int × Int → Option (Int × Hp)) (k52 : Hp × Int × Int × Int × Int × Int × Int → Option (Int × Hp)) (h : Hp) (x0 x1 x2 x3 x4 x5 : Int) : Option (Int × Hp) :=
  cC 10 x0 (if w32 x5 < w32 (h x0 26) then bd (x5 + 1) (fun v8 => Md_sooner_b67 k18 k52 h x0 x1 x2 x3 x4 x5 v8) else if w32 x3 = 3 then Md_sooner_b143 k18 h x0 x2 x1 x4 else cD 2 (Md_sooner_b143 k18 h x0 x2 x1 ((w32 (x4 + 1)).tdiv (w32 2))))
def Md_sooner_b52 (k18 : Hp × Int × Int × Int → Option (Int × Hp)) (h : Hp) (x0 x1 x2 x3 x4 x5 : Int) : Option (Int × Hp) := itr (fun k s => Md_sooner_b52_body k18 k s.1 s.2.1 s.2.2.1 s.2.2.2.1 s.2.2.2.2.1 s.2.2.2.2.2.1 s.2.2.2.2.2.2) FU (h, x0, x1, x2, x3, x4, x5)
def Md_sooner_b155_body  (k155 : Hp × Int × Int × Int → Option (Int × Hp)) (h : Hp) (x0 x1 x2 : Int) : Option (Int × Hp) :=
  cC 10 x0 (if w32 x2 < w32 (h x0 26) then cl (Md_owesInAll h x0 x2) (fun r24 h25 => bd (if w32 x1 < w32 r24 then r24 else x1) (fun v27 => k155 (h25, x0, v27, (x2 + 1)))) else some (x1, h))
def Md_sooner_b155  (h : Hp) (x0 x1 x2 : Int) : Option (Int × Hp) := itr (fun k s => Md_sooner_b155_body  k s.1 s.2.1 s.2.2.1 s.2.2.2) FU (h, x0, x1, x2)
def Md_sooner_b18_body  (k18 : Hp × Int × Int × Int → Option (Int × Hp)) (h : Hp) (x0 x1 x2 : Int) : Option (Int × Hp) :=
  cC 10 x0 (if w32 x2 < w32 (ishl 1 (h x0 26)) then cl (Ji_bitCount h x2) (fun r4 h5 => if w32 r4 = 3 then Md_sooner_b52 k18 h5 x0 x1 x2 r4 0 0 else if w32 r4 = 5 then Md_sooner_b52 k18 h5 x0 x1 x2 r4 0 0 else k18 (h5, x0, x1, (x2 + 1))) else Md_sooner_b155 h x0 x1 0)
def Md_sooner_b18  (h : Hp) (x0 x1 x2 : Int) : Option (Int × Hp) := itr (fun k s => Md_sooner_b18_body  k s.1 s.2.1 s.2.2.1 s.2.2.2) FU (h, x0, x1, x2)
def Md_sooner  (h : Hp) (a0 : Int) : Option (Int × Hp) :=
  cC 10 a0 (pu (up h a0 0 0) (fun h2 => if w32 (h2 a0 26) = 0 then some ((-1), h2) else Md_sooner_b18 h2 a0 0 1))
def Md_step  (h : Hp) (a0 a1 a2 a3 : Int) : Option (Int × Hp) :=
  cC 10 a0 (pu (up h a0 0 0) (fun h2 => cl (Md_isPlan h2 a0 a1) (fun r3 h4 => if w32 r3 = 0 then some ((-1000000), h4) else cX 100 2025 a1 (cl (Md_isIn h4 (w32 a2) 0 (w32 ((rd h4 2025 (w32 a1)) - 1))) (fun r7 h8 => if w32 r7 = 0 then some ((-1000000), h8) else cl (Md_isIn h8 (w32 a3) 0 2) (fun r10 h11 => if w32 r10 = 0 then some ((-1000000), h11) else cX 100 2024 ((3 * ((16 * a1) + a2)) + a3) (some ((rd h11 2024 (w32 ((3 * ((16 * a1) + a2)) + a3))), h11))))))))
def Md_teach  (h : Hp) (a0 a1 : Int) : Option (Int × Hp) :=
  cC 10 a0 (pu (up h a0 0 0) (fun h2 => cl (Md_isPerson h2 a0 a1) (fun r3 h4 => if w32 r3 = 0 then some ((-1), h4) else cX 100 2032 ((36 + (2 * a1)) + 1) (if w32 (rd h4 2032 (w32 ((36 + (2 * a1)) + 1))) = 0 then some ((-1), h4) else cX 100 2032 49 (if w32 (rd h4 2032 49) < 3 then some ((-1), h4) else cl (Md_remember h4 a0) (fun r8 h9 => cX 100 2032 49 (cY 100 2032 49 (pu (up h9 2032 49 ((rd h9 2032 49) - 3)) (fun h13 => cX 100 2032 ((36 + (2 * a1)) + 1) (cY 100 2032 ((36 + (2 * a1)) + 1) (pu (up h13 2032 (w32 ((36 + (2 * a1)) + 1)) ((rd h13 2032 (w32 ((36 + (2 * a1)) + 1))) - 1)) (fun h16 => cX 100 2032 ((36 + (2 * a1)) + 1) (some ((rd h16 2032 (w32 ((36 + (2 * a1)) + 1))), h16))))))))))))))
def Md_text_b71_body  (k71 : Hp × Int × Int × Int → Option (Int × Hp)) (h : Hp) (x0 x2 x3 : Int) : Option (Int × Hp) :=
  if w32 x3 < w32 x2 then cC 10 x0 (cX 101 2001 x3 (cY 101 2002 ((240 * (h x0 7)) + x3) (pu (up h 2002 (w32 ((240 * (h x0 7)) + x3)) (w8 (rd h 2001 (w32 x3)))) (fun h16 => k71 (h16, x0, x2, (x3 + 1)))))) else cC 10 x0 (cY 100 2003 (h x0 7) (pu (up h 2003 (w32 (h x0 7)) x2) (fun h19 => pu (up h19 x0 7 ((h19 x0 7) + 1)) (fun h20 => some (((h20 x0 7) - 1), h20)))))
def Md_text_b71  (h : Hp) (x0 x2 x3 : Int) : Option (Int × Hp) := itr (fun k s => Md_text_b71_body  k s.1 s.2.1 s.2.2.1 s.2.2.2) FU (h, x0, x2, x3)
def Md_text_b137_body  (k137 : Hp × Int × Int → Option (Int × Hp)) (h : Hp) (x0 x3 : Int) : Option (Int × Hp) :=
  if w32 x3 < 48 then cC 10 x0 (cX 100 2024 (192 + x3) (cY 100 2024 ((48 * (h x0 30)) + x3) (pu (up h 2024 (w32 ((48 * (h x0 30)) + x3)) (rd h 2024 (w32 (192 + x3)))) (fun h24 => k137 (h24, x0, (x3 + 1)))))) else cC 10 x0 (cX 100 2025 4 (cY 100 2025 (h x0 30) (pu (up h 2025 (w32 (h x0 30)) (rd h 2025 4)) (fun h28 => pu (up h28 x0 30 ((h28 x0 30) + 1)) (fun h29 => some (((h29 x0 30) - 1), h29))))))
def Md_text_b137  (h : Hp) (x0 x3 : Int) : Option (Int × Hp) := itr (fun k s => Md_text_b137_body  k s.1 s.2.1 s.2.2) FU (h, x0, x3)
def Md_text_b322_body  (k322 : Hp × Int × Int → Option (Int × Hp)) (h : Hp) (x0 x3 : Int) : Option (Int × Hp) :=
  cC 10 x0 (if w32 x3 < w32 (h x0 26) then cX 100 2020 (3 * x3) (cY 100 2032 ((36 + (2 * x3)) + 0) (pu (up h 2032 (w32 ((36 + (2 * x3)) + 0)) (rd h 2020 (w32 (3 * x3)))) (fun h50 => cX 100 2020 ((3 * x3) + 1) (cY 100 2032 ((36 + (2 * x3)) + 1) (pu (up h50 2032 (w32 ((36 + (2 * x3)) + 1)) (rd h50 2020 (w32 ((3 * x3) + 1)))) (fun h53 => k322 (h53, x0, (x3 + 1)))))))) else cX 100 2018 1 (cY 100 2032 49 (pu (up h 2032 49 (rd h 2018 1)) (fun h56 => pu (up h56 x0 50 0) (fun h57 => pu (up h57 x0 42 0) (fun h58 => pu (up h58 x0 53 0) (fun h59 => some ((h59 x0 26), h59))))))))
def Md_text_b322  (h : Hp) (x0 x3 : Int) : Option (Int × Hp) := itr (fun k s => Md_text_b322_body  k s.1 s.2.1 s.2.2) FU (h, x0, x3)
def Md_text_b300_body  (k300 : Hp × Int × Int → Option (Int × Hp)) (h : Hp) (x0 x3 : Int) : Option (Int × Hp) :=
  if w32 x3 < 233 then cC 10 x0 (cY 100 2032 x3 (pu (up h 2032 (w32 x3) 0) (fun h46 => k300 (h46, x0, (x3 + 1))))) else Md_text_b322 h x0 0
def Md_text_b300  (h : Hp) (x0 x3 : Int) : Option (Int × Hp) := itr (fun k s => Md_text_b300_body  k s.1 s.2.1 s.2.2) FU (h, x0, x3)
def Md_text_b274_body  (k274 : Hp × Int × Int → Option (Int × Hp)) (h : Hp) (x0 x3 : Int) : Option (Int × Hp) :=
  if w32 x3 < 24 then cC 10 x0 (cX 100 2023 x3 (cY 100 2022 x3 (pu (up h 2022 (w32 x3) (rd h 2023 (w32 x3))) (fun h43 => k274 (h43, x0, (x3 + 1)))))) else Md_text_b300 h x0 0
def Md_text_b274  (h : Hp) (x0 x3 : Int) : Option (Int × Hp) := itr (fun k s => Md_text_b274_body  k s.1 s.2.1 s.2.2) FU (h, x0, x3)
def Md_text_b248_body  (k248 : Hp × Int × Int → Option (Int × Hp)) (h : Hp) (x0 x3 : Int) : Option (Int × Hp) :=
  if w32 x3 < 18 then cC 10 x0 (cX 100 2021 x3 (cY 100 2020 x3 (pu (up h 2020 (w32 x3) (rd h 2021 (w32 x3))) (fun h39 => k248 (h39, x0, (x3 + 1)))))) else Md_text_b274 h x0 0
def Md_text_b248  (h : Hp) (x0 x3 : Int) : Option (Int × Hp) := itr (fun k s => Md_text_b248_body  k s.1 s.2.1 s.2.2) FU (h, x0, x3)
def Md_text_b223_body  (k223 : Hp × Int × Int → Option (Int × Hp)) (h : Hp) (x0 x3 : Int) : Option (Int × Hp) :=
  if w32 x3 < 2 then cC 10 x0 (cX 100 2019 x3 (cY 100 2018 x3 (pu (up h 2018 (w32 x3) (rd h 2019 (w32 x3))) (fun h35 => k223 (h35, x0, (x3 + 1)))))) else Md_text_b248 h x0 0
def Md_text_b223  (h : Hp) (x0 x3 : Int) : Option (Int × Hp) := itr (fun k s => Md_text_b223_body  k s.1 s.2.1 s.2.2) FU (h, x0, x3)
def Md_text_b43  (h : Hp) (x0 x1 : Int) : Option (Int × Hp) :=
  cC 10 x0 (cl (Md_fault h x0 x1) (fun r8 h9 => if w32 r8 = (-1) then bd (h9 x0 6) (fun v11 => pu (up h9 x0 6 0) (fun h12 => if w32 x1 = 1 then Md_text_b71 h12 x0 v11 0 else if w32 x1 = 2 then Md_text_b137 h12 x0 0 else pu (up h12 x0 26 (h12 x0 28)) (fun h30 => pu (up h30 x0 27 (h30 x0 29)) (fun h31 => Md_text_b223 h31 x0 0)))) else some ((-1), h9)))
def Md_text_b30  (h : Hp) (x0 x1 : Int) : Option (Int × Hp) :=
  if w32 x1 = 2 then cC 10 x0 (if w32 (h x0 30) = 4 then some ((-1), h) else Md_text_b43 h x0 x1) else Md_text_b43 h x0 x1
def Md_text  (h : Hp) (a0 a1 : Int) : Option (Int × Hp) :=
  cC 10 a0 (pu (up h a0 0 0) (fun h2 => cl (Md_isIn h2 (w32 a1) 0 2) (fun r3 h4 => if w32 r3 = 0 then some ((-1), h4) else if w32 a1 = 1 then if w32 (h4 a0 7) = 4 then some ((-1), h4) else Md_text_b30 h4 a0 a1 else Md_text_b30 h4 a0 a1)))
def Md_thrown  (h : Hp) (a0 : Int) : Option (Int × Hp) :=
  cC 10 a0 (some ((h a0 0), h))
def Md_tonight  (h : Hp) (a0 : Int) : Option (Int × Hp) :=
  cC 10 a0 (pu (up h a0 0 0) (fun h2 => if w32 (h2 a0 26) = 0 then some ((-1), h2) else cl (Md_books h2 a0 2032 0) (fun r3 h4 => cl (Md_rowOf h4 a0) (fun r6 h7 => some (r6, h7)))))
def Md_undo_b26_body  (k26 : Hp × Int × Int → Option (Int × Hp)) (h : Hp) (x0 x1 : Int) : Option (Int × Hp) :=
  if w32 x1 < 233 then cC 10 x0 (cX 100 2041 ((233 * (h x0 42)) + x1) (cY 100 2032 x1 (pu (up h 2032 (w32 x1) (rd h 2041 (w32 ((233 * (h x0 42)) + x1)))) (fun h7 => k26 (h7, x0, (x1 + 1)))))) else cC 10 x0 (some ((h x0 42), h))
def Md_undo_b26  (h : Hp) (x0 x1 : Int) : Option (Int × Hp) := itr (fun k s => Md_undo_b26_body  k s.1 s.2.1 s.2.2) FU (h, x0, x1)
def Md_undo  (h : Hp) (a0 : Int) : Option (Int × Hp) :=
  cC 10 a0 (pu (up h a0 0 0) (fun h2 => if w32 (h2 a0 42) = 0 then some ((-1), h2) else pu (up h2 a0 42 ((h2 a0 42) - 1)) (fun h3 => Md_undo_b26 h3 a0 0)))
def Md_wrong  (h : Hp) (a0 a1 a2 : Int) : Option (Int × Hp) :=
  cC 10 a0 (pu (up h a0 0 0) (fun h2 => cl (Md_isWrong h2 a0 a1) (fun r3 h4 => if w32 r3 = 0 then some ((-1), h4) else cl (Md_isIn h4 (w32 a2) 0 4) (fun r6 h7 => if w32 r6 = 0 then some ((-1), h7) else if w32 a2 < 3 then cX 100 2022 ((3 * a1) + a2) (some ((rd h7 2022 (w32 ((3 * a1) + a2))), h7)) else if w32 a2 = 3 then cX 100 2032 48 (some ((iand (ishr (rd h7 2032 48) a1) 1), h7)) else cX 100 2022 (3 * a1) (cX 100 2022 ((3 * a1) + 1) (cX 100 2022 ((3 * a1) + 2) (cl (Md_worthNow h7 a0 2032 (rd h7 2022 (w32 (3 * a1))) (rd h7 2022 (w32 ((3 * a1) + 1))) (rd h7 2022 (w32 ((3 * a1) + 2)))) (fun r14 h15 => some (r14, h15)))))))))
def Md_years_b122 (k49 : Hp × Int × Int × Int → Option (Int × Hp)) (h : Hp) (x0 x1 x4 : Int) : Option (Int × Hp) :=
  cC 10 x0 (cl (Md_goEvening h x0 2032 0) (fun r26 h27 => k49 (h27, x0, x1, (x4 + 1))))
def Md_years_b49_body  (k49 : Hp × Int × Int × Int → Option (Int × Hp)) (h : Hp) (x0 x1 x4 : Int) : Option (Int × Hp) :=
  if w32 x4 < w32 x1 then cC 10 x0 (cl (Md_remember h x0) (fun r9 h10 => cl (Md_draw h10 x0 10) (fun r12 h13 => if w32 r12 < w32 (h13 x0 35) then cl (Md_draw h13 x0 (h13 x0 26)) (fun r15 h16 => cl (Md_draw h16 x0 (h16 x0 26)) (fun r18 h19 => cl (Md_draw h19 x0 9) (fun r21 h22 => bd (r21 + 1) (fun v24 => if w32 r15 = w32 r18 then Md_years_b122 k49 h22 x0 x1 x4 else cl (Md_adds h22 2032 r15 r18 v24) (fun r29 h30 => Md_years_b122 k49 h30 x0 x1 x4))))) else Md_years_b122 k49 h13 x0 x1 x4))) else cC 10 x0 (cX 100 2032 51 (some ((rd h 2032 51), h)))
def Md_years_b49  (h : Hp) (x0 x1 x4 : Int) : Option (Int × Hp) := itr (fun k s => Md_years_b49_body  k s.1 s.2.1 s.2.2.1 s.2.2.2) FU (h, x0, x1, x4)
def Md_years  (h : Hp) (a0 a1 a2 : Int) : Option (Int × Hp) :=
  cC 10 a0 (pu (up h a0 0 0) (fun h2 => if w32 (h2 a0 26) = 0 then some ((-1), h2) else cl (Md_isIn h2 (w32 a1) 1 30) (fun r3 h4 => if w32 r3 = 0 then some ((-1), h4) else cX 100 2032 51 (if 999 < w32 ((rd h4 2032 51) + a1) then some ((-1), h4) else pu (up h4 a0 43 a2) (fun h7 => Md_years_b49 h7 a0 a1 0)))))
