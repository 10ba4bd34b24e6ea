section PureM
/-! the reference's rows -/
def mR (h : Hp) (w : Int) : Int → Int := fun k => if 0 ≤ k ∧ k < 52 then h w k else 0
def IsW (w : Int) : Prop := w = 2032 ∨ w = 2033
theorem IsW_sh {w : Int} (h : IsW w) : SH w = (100, 233) := by
  rcases h with rfl | rfl <;> decide +kernel
theorem SH2038 : SH 2038 = (100, 6) := by decide +kernel
theorem SH2000' : SH 2000 = (10, 0) := by decide +kernel
/-- a row of the reference at hand -/
def StM (h : Hp) (w : Int) (n : Nat) (f : Int → Int) : Prop := IsW w ∧ h 2000 26 = (n : Int) ∧ mR h w = f ∧ Gd n f
/-- only the row's front changes -/
def FrW (w : Int) (h h' : Hp) : Prop := (∀ a : Int, a ≠ w → h' a = h a) ∧ ∀ k : Int, 52 ≤ k → h' w k = h w k
theorem FrW.rf {w : Int} {h : Hp} : FrW w h h := ⟨fun _ _ => rfl, fun _ _ => rfl⟩
theorem FrW.tr {w : Int} {h h1 h2 : Hp} (a : FrW w h h1) (b : FrW w h1 h2) : FrW w h h2 := ⟨fun x hx => (b.1 x hx).trans (a.1 x hx), fun k hk => (b.2 k hk).trans (a.2 k hk)⟩
theorem FrW.up {w i v : Int} {h : Hp} (hi : i < 52) : FrW w h (up h w i v) := ⟨fun _ hx => up_off_row hx, fun k hk => up_off (by omega)⟩
section A
variable {h : Hp} {w : Int} {n : Nat} {f : Int → Int}
theorem mR_r {k : Int} (h0 : 0 ≤ k) (h1 : k < 52) : mR h w k = h w k := if_pos ⟨h0, h1⟩
theorem mR_up {k v : Int} (h0 : 0 ≤ k) (h1 : k < 52) : mR (up h w k v) w = ud (mR h w) k v := by
  funext j
  unfold mR
  rw [up_row]
  unfold ud
  dsimp only
  by_cases e : j = k
  · rw [if_pos (by omega), if_pos e, if_pos e]
  · rw [if_neg e, if_neg e]
theorem mR_c {h' : Hp} (r : h' w = h w) : mR h' w = mR h w := by unfold mR; rw [r]
theorem StM.w2 (M : StM h w n f) : SH w = (100, 233) ∧ 2000 < w ∧ w < 2034 := ⟨IsW_sh M.1, by rcases M.1 with q | q <;> omega, by rcases M.1 with q | q <;> omega⟩
theorem StM.rd (M : StM h w n f) {k : Int} (h0 : 0 ≤ k) (h1 : k < 52) : h w k = f k := by rw [← M.2.2.1, mR_r h0 h1]
theorem StM.ofW {h' : Hp} {f' : Int → Int} (M : StM h w n f) (F : FrW w h h') (e : mR h' w = f') (g : Gd n f') : StM h' w n f' := ⟨M.1, by rw [F.1 2000 (by have := M.w2; omega)]; exact M.2.1, e, g⟩
theorem StM.ofF {h' : Hp} {S : Int → Prop} (M : StM h w n f) (F : Fr S h h') (h0 : ¬ S 2000) (h1 : ¬ S w) : StM h' w n f := ⟨M.1, by rw [F 2000 h0]; exact M.2.1, by rw [mR_c (F w h1)]; exact M.2.2.1, M.2.2.2⟩
theorem Md_owes_e (M : StM h w n f) {a b : Int} (a0 : 0 ≤ a) (a1 : a < 6) (b0 : 0 ≤ b) (b1 : b < 6) : Md_owes h w a b = some (f (6 * a + b), h) := by
  obtain ⟨sw, w0, w1⟩ := M.w2
  unfold Md_owes
  rw [cX_s sw (by omega) (by omega) (by decide), w32_n (by omega) (by omega), rd_ge (by omega), M.rd (by omega) (by omega)]
theorem Md_lonely_e (M : StM h w n f) {p : Int} (p0 : 0 ≤ p) (p1 : p < 6) : Md_lonely h w p = some (f (36 + 2 * p), h) := by
  obtain ⟨sw, w0, w1⟩ := M.w2
  unfold Md_lonely
  rw [Int.add_zero, cX_s sw (by omega) (by omega) (by decide), w32_n (by omega) (by omega), rd_ge (by omega), M.rd (by omega) (by omega)]
theorem Md_lays_e (M : StM h w n f) {a b v : Int} (a0 : 0 ≤ a) (a1 : a < 6) (b0 : 0 ≤ b) (b1 : b < 6) : ∃ h', Md_lays h w a b v = some (0, h') ∧ FrW w h h' ∧ mR h' w = layR f a b v := by
  obtain ⟨sw, w0, w1⟩ := M.w2
  refine ⟨up (up h w (6 * a + b) v) w (6 * b + a) v, ?_, FrW.tr (FrW.up (by omega)) (FrW.up (by omega)), ?_⟩
  · unfold Md_lays
    rw [cY_s sw (by omega) (by omega) (by omega) (by decide), pu_s, cY_s sw (by omega) (by omega) (by omega) (by decide), pu_s, w32_n (by omega) (by omega), w32_n (by omega) (by omega)]
  · rw [mR_up (by omega) (by omega), mR_up (by omega) (by omega), M.2.2.1]
    rfl
theorem Md_adds_e (M : StM h w n f) {a b m : Int} (a0 : 0 ≤ a) (a1 : a < 6) (b0 : 0 ≤ b) (b1 : b < 6) (m0 : -99 ≤ m) (m1 : m ≤ 10000000) : ∃ h', Md_adds h w a b m = some (0, h') ∧ FrW w h h' ∧ mR h' w = oweR f a b m := by
  have Db := Gd_d M.2.2.2 a0 a1 b0 b1
  obtain ⟨h', e, F, q⟩ := Md_lays_e M (a := a) (b := b) (v := min 99 (f (6 * a + b) + m)) a0 a1 b0 b1
  refine ⟨h', ?_, F, q⟩
  unfold Md_adds
  have ev : (if f (6 * a + b) + m < 99 then f (6 * a + b) + m else 99) = min 99 (f (6 * a + b) + m) := by
    by_cases c : f (6 * a + b) + m < 99
    · rw [if_pos c]; omega
    · rw [if_neg c]; omega
  rw [Md_owes_e M a0 a1 b0 b1, cl_s, w32_id (x := f (6 * a + b) + m) (by omega) (by omega), ev, e, cl_s]
end A
theorem sm_chg {f g : Nat → Int} {a : Nat} : ∀ n : Nat, a < n → (∀ i, i < n → i ≠ a → g i = f i) → sm g n = sm f n - f a + g a
  | 0, h, _ => absurd h (by omega)
  | n + 1, h, k => by
    show sm g n + g n = sm f n + f n - f a + g a
    by_cases e : a = n
    · subst e
      rw [sm_c a (fun i hi => k i (by omega) (by omega))]
      omega
    · rw [sm_chg n (by omega) (fun i hi hn => k i (by omega) hn), k n (by omega) (fun q => e q.symm)]
      omega
/-- how many of six are free -/
def fc (seat : Int → Int) : Int := sm (fun p => if seat (p : Int) = 9 then 1 else 0) 6
theorem fc_pos {seat : Int → Int} {a : Nat} (ha : a < 6) (h : seat a = 9) : 0 < fc seat := by
  have e := sm_chg (f := fun p => if seat (p : Int) = 9 then 1 else 0) (g := fun p => if p = a then 0 else if seat (p : Int) = 9 then 1 else 0) (a := a) 6 ha (fun i _ hn => if_neg hn)
  have b := sm_b (f := fun p => if p = a then 0 else if seat (p : Int) = 9 then 1 else 0) (m := 1) 6 (fun i _ => by
    by_cases c : i = a
    · rw [if_pos c]; omega
    · rw [if_neg c]
      by_cases c2 : seat (i : Int) = 9
      · rw [if_pos c2]; omega
      · rw [if_neg c2]; omega)
  have e1 : (if seat (a : Int) = 9 then (1 : Int) else 0) = 1 := if_pos h
  have e2 : (if a = a then (0 : Int) else if seat (a : Int) = 9 then 1 else 0) = 0 := if_pos rfl
  rw [e2, e1] at e
  unfold fc
  omega
theorem fc_two {seat : Int → Int} {a b : Nat} (ha : a < 6) (hb : b < 6) (hab : a < b) (h1 : seat a = 9) (h2 : seat b = 9) : fc (ud (ud seat (a : Int) (b : Int)) (b : Int) (a : Int)) = fc seat - 2 := by
  have e := sm_chg (f := fun p => if seat (p : Int) = 9 then 1 else 0) (g := fun p => if ud seat (a : Int) (b : Int) (p : Int) = 9 then 1 else 0) (a := a) 6 ha (fun i _ hn => by rw [ud_ne (by omega)])
  have e' := sm_chg (f := fun p => if ud seat (a : Int) (b : Int) (p : Int) = 9 then 1 else 0) (g := fun p => if ud (ud seat (a : Int) (b : Int)) (b : Int) (a : Int) (p : Int) = 9 then 1 else 0) (a := b) 6 hb (fun i _ hn => by rw [ud_ne (by omega)])
  have q1 : (if seat (a : Int) = 9 then (1 : Int) else 0) = 1 := if_pos h1
  have q2 : (if ud seat (a : Int) (b : Int) (a : Int) = 9 then (1 : Int) else 0) = 0 := if_neg (by rw [ud_at]; omega)
  have q3 : (if ud seat (a : Int) (b : Int) (b : Int) = 9 then (1 : Int) else 0) = 1 := if_pos (by rw [ud_ne (by omega)]; exact h2)
  have q4 : (if ud (ud seat (a : Int) (b : Int)) (b : Int) (a : Int) (b : Int) = 9 then (1 : Int) else 0) = 0 := if_neg (by rw [ud_at]; omega)
  rw [q1, q2] at e
  rw [q3, q4] at e'
  unfold fc
  omega
section B
variable {h : Hp} {w : Int} {n : Nat} {f seat : Int → Int} {bed abed : Int}
def WithAt (h : Hp) (seat : Int → Int) : Prop := ∀ k : Int, 0 ≤ k → k < 6 → h 2038 k = if seat k = 9 then -1 else seat k
def AbedOK (abed bed : Int) : Prop := ∀ a : Nat, a < 6 → (w32 (iand (ishr abed (a : Int)) 1) = 1 ↔ (a : Int) = bed)
theorem with_w {k : Int} (T : WithAt h seat) (K : SeatOK n seat) (hn : n ≤ 6) (k0 : 0 ≤ k) (k1 : k < 6) : w32 (h 2038 k) = -1 ↔ seat k = 9 := by
  rw [T k k0 k1]
  by_cases c : seat k = 9
  · rw [if_pos c]; exact ⟨fun _ => c, fun _ => rfl⟩
  · rw [if_neg c]
    rcases K k k0 k1 with q | q
    · exact absurd q c
    · rw [w32_n (by omega) (by omega)]
      exact ⟨fun z => by omega, fun z => absurd z c⟩
theorem Md_has_e (A : AbedOK abed bed) {a : Nat} (ha : a < 6) (h : Hp) : Md_has h abed (a : Int) = some (if (a : Int) = bed then 1 else 0, h) := by
  unfold Md_has
  by_cases c : (a : Int) = bed
  · rw [if_pos c, if_pos ((A a ha).mpr c)]
  · rw [if_neg c, if_neg (fun q => c ((A a ha).mp q))]
def oneR (st : Int × Int × Int) : Int := if st.1 = 0 then -1 else st.2.1
def othR (st : Int × Int × Int) : Int := if st.1 = 0 then -1 else st.2.2
theorem bk_in (M : StM h w n f) (T : WithAt h seat) (K : SeatOK n seat) (A : AbedOK abed bed) {a : Nat} (ha : a < n) (k23 : Hp × Int × Int × Int × Int → Option (Int × Hp)) (k36 : Hp × Int × Int × Int × Int × Int × Int → Option (Int × Hp)) {st : Int × Int × Int} (P : PkOK n bed f seat st) :
    Md_books_b51 k23 k36 h 2000 w abed (oneR st) (othR st) (a : Int) ((a : Int) + 1) = k36 (h, 2000, w, abed, oneR (pkO n bed f seat a st), othR (pkO n bed f seat a st), (a : Int) + 1) := by
  have n6 := M.2.2.2.1
  have g := M.2.2.2
  unfold Md_books_b51
  refine itr_run (fun j : Nat => (h, 2000, w, abed, oneR (fo (pkI bed f seat a) j st), othR (fo (pkI bed f seat a) j st), (a : Int), ((a + 1 + j : Nat) : Int))) (n := n - (a + 1)) ?_ ?_ (FU_gt (by omega))
  · intro j hj k
    have Pj : PkOK n bed f seat (fo (pkI bed f seat a) j st) := fo_inv (PkOK n bed f seat) (fun i x hi hx => pkI_ok ha (by omega) hx) P
    have Pb := PkOK_b g Pj
    show Md_books_b51_body k23 k36 k h 2000 w abed (oneR (fo (pkI bed f seat a) j st)) (othR (fo (pkI bed f seat a) j st)) (a : Int) ((a + 1 + j : Nat) : Int) = k (h, 2000, w, abed, oneR (pkI bed f seat a j (fo (pkI bed f seat a) j st)), othR (pkI bed f seat a j (fo (pkI bed f seat a) j st)), (a : Int), ((a + 1 + j : Nat) : Int) + 1)
    generalize fo (pkI bed f seat a) j st = x at Pj Pb
    have hb6 : a + 1 + j < 6 := by omega
    have Db := Gd_d g (a := (a : Int)) (b := ((a + 1 + j : Nat) : Int)) (by omega) (by omega) (by omega) (by omega)
    have Wa := with_w T K n6 (k := (a : Int)) (by omega) (by omega)
    have Wb := with_w T K n6 (k := ((a + 1 + j : Nat) : Int)) (by omega) (by omega)
    unfold Md_books_b51_body pkI
    rw [cC_s SH2000' rfl, M.2.1, w32_n (x := ((a + 1 + j : Nat) : Int)) (by omega) (by omega), w32_n (x := (n : Int)) (by omega) (by omega), if_pos (by omega), cX_s SH2038 (by omega) (by omega) (by decide), w32_n (x := (a : Int)) (by omega) (by omega), rd_ge (by decide), rd_ge (by decide)]
    have skip : ∀ c9 : Prop, ¬ c9 → Md_books_b105 k23 k36 k h 2000 w abed (oneR x) (othR x) (a : Int) ((a + 1 + j : Nat) : Int) 0 = k (h, 2000, w, abed, oneR x, othR x, (a : Int), ((a + 1 + j : Nat) : Int) + 1) := by
      intro c9 _
      unfold Md_books_b105
      rw [if_pos (by decide)]
    by_cases c1 : w32 (h 2038 (a : Int)) = -1
    · rw [if_pos c1, cX_s SH2038 (by omega) (by omega) (by decide)]
      by_cases c2 : w32 (h 2038 ((a + 1 + j : Nat) : Int)) = -1
      · rw [if_pos c2, Md_has_e A (by omega), cl_s]
        by_cases c3 : (a : Int) = bed
        · rw [if_pos c3, if_neg (by decide), skip False (fun q => q), if_neg (fun q => q.2.1 c3)]
        · rw [if_neg c3, if_pos (by decide), Md_has_e A hb6, cl_s]
          by_cases c4 : ((a + 1 + j : Nat) : Int) = bed
          · rw [if_pos c4, if_neg (by decide), skip False (fun q => q), if_neg (fun q => q.2.2.2.1 c4)]
          · rw [if_neg c4, if_pos (by decide)]
            unfold Md_books_b105
            rw [if_neg (by decide), Md_owes_e M (by omega) (by omega) (by omega) (by omega), cl_s, w32_n Db.1 (by omega)]
            have fr : seat (a : Int) = 9 ∧ seat ((a + 1 + j : Nat) : Int) = 9 := ⟨Wa.mp c1, Wb.mp c2⟩
            by_cases c5 : f (6 * (a : Int) + ((a + 1 + j : Nat) : Int)) = 0
            · rw [if_pos c5, if_neg (fun q => by have := q.1; omega)]
            · rw [if_neg c5]
              rcases Pj with e | ⟨u, v, u1, u2, e, u4, -⟩
              · subst e
                have o1 : w32 (oneR (0, 0, 0)) = -1 := by decide
                rw [if_pos o1, if_pos ⟨show (0 : Int) < _ by omega, c3, fr.1, c4, fr.2⟩]
                unfold oneR othR
                rw [if_neg c5, if_neg c5]
              · have x1 : ¬ x.1 = 0 := by omega
                have o1 : oneR x = (u : Int) := by unfold oneR; rw [if_neg x1, e]
                have o2 : othR x = (v : Int) := by unfold othR; rw [if_neg x1, e]
                have xe : x.1 = f (6 * (u : Int) + (v : Int)) := by rw [e]
                rw [o1, o2, if_neg (by rw [w32_n (by omega) (by omega)]; omega), Md_owes_e M (by omega) (by omega) (by omega) (by omega), cl_s, Md_owes_e M (by omega) (by omega) (by omega) (by omega), cl_s, w32_n Db.1 (by omega), w32_n (x := f (6 * (u : Int) + (v : Int))) (by omega) (by omega), ← xe]
                by_cases c6 : x.1 < f (6 * (a : Int) + ((a + 1 + j : Nat) : Int))
                · rw [if_pos c6, if_pos ⟨c6, c3, fr.1, c4, fr.2⟩]
                  unfold oneR othR
                  rw [if_neg c5, if_neg c5]
                · rw [if_neg c6, if_neg (fun q => c6 q.1), o1, o2]
      · rw [if_neg c2, skip False (fun q => q), if_neg (fun q => c2 (Wb.mpr q.2.2.2.2))]
    · rw [if_neg c1, skip False (fun q => q), if_neg (fun q => c1 (Wa.mpr q.2.2.1))]
  · intro k
    show Md_books_b51_body k23 k36 k h 2000 w abed (oneR (fo (pkI bed f seat a) (n - (a + 1)) st)) (othR (fo (pkI bed f seat a) (n - (a + 1)) st)) (a : Int) ((a + 1 + (n - (a + 1)) : Nat) : Int) = _
    have e2 : a + 1 + (n - (a + 1)) = n := by omega
    unfold Md_books_b51_body
    rw [cC_s SH2000' rfl, M.2.1, e2, if_neg (Int.lt_irrefl _)]
    rfl
theorem bk_out (M : StM h w n f) (T : WithAt h seat) (K : SeatOK n seat) (A : AbedOK abed bed) (k23 : Hp × Int × Int × Int × Int → Option (Int × Hp)) :
    Md_books_b36 k23 h 2000 w abed (-1) (-1) 0 = Md_books_b182 k23 h 2000 w abed (oneR (pick n bed f seat)) (othR (pick n bed f seat)) (if (pick n bed f seat).1 = 0 then 0 else 1) := by
  have n6 := M.2.2.2.1
  have Pn := pick_ok n bed f seat
  unfold Md_books_b36
  refine itr_run (fun a : Nat => (h, 2000, w, abed, oneR (fo (pkO n bed f seat) a (0, 0, 0)), othR (fo (pkO n bed f seat) a (0, 0, 0)), (a : Int))) (n := n) ?_ ?_ (FU_gt (by omega))
  · intro a ha k
    have Pa : PkOK n bed f seat (fo (pkO n bed f seat) a (0, 0, 0)) := fo_inv (PkOK n bed f seat) (fun i x hi hx => pkO_ok (by omega) hx) (Or.inl rfl)
    show Md_books_b36_body k23 k h 2000 w abed (oneR (fo (pkO n bed f seat) a (0, 0, 0))) (othR (fo (pkO n bed f seat) a (0, 0, 0))) (a : Int) = k (h, 2000, w, abed, oneR (pkO n bed f seat a (fo (pkO n bed f seat) a (0, 0, 0))), othR (pkO n bed f seat a (fo (pkO n bed f seat) a (0, 0, 0))), (a : Int) + 1)
    generalize fo (pkO n bed f seat) a (0, 0, 0) = x at Pa
    unfold Md_books_b36_body
    rw [cC_s SH2000' rfl, M.2.1, w32_n (x := (a : Int)) (by omega) (by omega), w32_n (x := (n : Int)) (by omega) (by omega), if_pos (by omega), bd_s]
    exact bk_in M T K A ha k23 k Pa
  · intro k
    show Md_books_b36_body k23 k h 2000 w abed (oneR (pick n bed f seat)) (othR (pick n bed f seat)) (n : Int) = _
    unfold Md_books_b36_body
    rw [cC_s SH2000' rfl, M.2.1, if_neg (Int.lt_irrefl _)]
    rcases Pn with e | ⟨u, v, u1, u2, e, u4, -⟩
    · rw [e]
      have o1 : w32 (oneR (0, 0, 0)) = -1 := by decide
      rw [if_pos o1]
      rfl
    · have x1 : ¬ (pick n bed f seat).1 = 0 := by omega
      have o1 : oneR (pick n bed f seat) = (u : Int) := by unfold oneR; rw [if_neg x1, e]
      rw [if_neg (by rw [o1, w32_n (by omega) (by omega)]; omega), if_neg x1]
def seatJ (n : Nat) (bed : Int) (f : Int → Int) (j : Nat) : Int → Int := fo (fun _ t => seat2 n bed f t) j (fun _ => 9)
theorem seatJ_ok (n : Nat) (bed : Int) (f : Int → Int) : ∀ j, SeatOK n (seatJ n bed f j)
  | 0 => fun _ _ _ => Or.inl rfl
  | j + 1 => seat2_ok (seatJ_ok n bed f j)
theorem seatJ_st {j : Nat} (h : (pick n bed f (seatJ n bed f j)).1 = 0) (hj : j ≤ 3) : seatJ n bed f j = bkR n bed f := by
  have e : seat2 n bed f (seatJ n bed f j) = seatJ n bed f j := by
    unfold seat2
    rw [if_neg (by omega)]
  have key : ∀ d, seatJ n bed f (j + d) = seatJ n bed f j := by
    intro d
    induction d with
    | zero => rfl
    | succ d ih =>
      show seat2 n bed f (seatJ n bed f (j + d)) = _
      rw [ih, e]
  have := key (3 - j)
  rw [show j + (3 - j) = 3 by omega] at this
  rw [← this]
  rfl
theorem Md_books_e (M : StM h w n f) (A : AbedOK abed bed) : ∃ h', Md_books h 2000 w abed = some (0, h') ∧ Fr (fun x => x = 2038) h h' ∧ WithAt h' (bkR n bed f) := by
  have n6 := M.2.2.2.1
  obtain ⟨sw, w0, w1⟩ := M.w2
  have W : wp (Md_books h 2000 w abed) (fun r h' => r = 0 ∧ Fr (fun x => x = 2038) h h' ∧ WithAt h' (bkR n bed f)) := by
    unfold Md_books Md_books_b2
    refine itr_wp (fun i σ => ∃ h2, σ = (h2, 2000, w, abed, (i : Int)) ∧ Fr (fun x => x = 2038) h h2 ∧ ∀ k : Int, 0 ≤ k → k < i → h2 2038 k = -1) 6 ?_ ?_ (FU_gt (by decide)) ⟨h, rfl, Fr.rf, fun k k0 k1 => absurd k1 (by omega)⟩
    · rintro i σ k hi6 ⟨h2, rfl, F2, T2⟩ K
      show wp (Md_books_b2_body k h2 2000 w abed (i : Int)) _
      unfold Md_books_b2_body
      rw [w32_n (x := (i : Int)) (by omega) (by omega), if_pos (by omega), cC_s SH2000' rfl, cY_s SH2038 (by decide) (by omega) (by omega) (by decide), pu_s]
      refine K _ ⟨_, rfl, F2.tr (Fr.up rfl), fun k k0 k1 => ?_⟩
      rw [up_row]
      by_cases c : k = (i : Int)
      · rw [c, ud_at]
      · rw [ud_ne c]; exact T2 k k0 (by omega)
    · rintro σ k ⟨h2, rfl, F2, T2⟩
      show wp (Md_books_b2_body k h2 2000 w abed ((6 : Nat) : Int)) _
      unfold Md_books_b2_body
      rw [if_neg (by decide)]
      unfold Md_books_b23
      refine itr_wpx (fun i σ => ∃ (h3 : Hp), Fr (fun x => x = 2038) h h3 ∧ ((∃ j : Nat, j ≤ 3 ∧ i = 5 - j ∧ σ = (h3, 2000, w, abed, 1) ∧ WithAt h3 (seatJ n bed f j) ∧ fc (seatJ n bed f j) + 2 * j = 6) ∨ (i = 0 ∧ σ = (h3, 2000, w, abed, 0) ∧ WithAt h3 (bkR n bed f)))) ?_ (n := 5) (FU_gt (by decide)) ⟨h2, F2, Or.inl ⟨0, by decide, rfl, rfl, fun k k0 k1 => by rw [T2 k k0 (by omega)]; rfl, (by show fc (fun _ => 9) + 2 * ((0 : Nat) : Int) = 6; decide)⟩⟩
      rintro i σ k ⟨h3, F3, ⟨j, hj, rfl, rfl, T3, c3⟩ | ⟨rfl, rfl, T3⟩⟩ K
      · show wp (Md_books_b23_body k h3 2000 w abed 1) _
        unfold Md_books_b23_body
        have M3 := M.ofF F3 (by decide) (by omega)
        rw [if_neg (by decide), bk_out M3 T3 (seatJ_ok n bed f j) A]
        unfold Md_books_b182
        rcases pick_ok n bed f (seatJ n bed f j) with e | ⟨a, b, u1, u2, e, u4, u5, u6, -⟩
        · rw [e]
          rw [if_pos (show (0 : Int) = 0 from rfl), if_pos (by decide)]
          refine K 0 _ (by omega) ⟨h3, F3, Or.inr ⟨rfl, rfl, ?_⟩⟩
          rw [← seatJ_st (by rw [e]) hj]
          exact T3
        · have x1 : ¬ (pick n bed f (seatJ n bed f j)).1 = 0 := by omega
          have o1 : oneR (pick n bed f (seatJ n bed f j)) = (a : Int) := by unfold oneR; rw [if_neg x1, e]
          have o2 : othR (pick n bed f (seatJ n bed f j)) = (b : Int) := by unfold othR; rw [if_neg x1, e]
          have j3 : j < 3 := by
            have := fc_pos (seat := seatJ n bed f j) (a := a) (by omega) u5
            omega
          rw [if_neg x1, if_neg (by decide), o1, o2, cC_s SH2000' rfl, cY_s SH2038 (by decide) (by omega) (by omega) (by decide), pu_s, cY_s SH2038 (by decide) (by omega) (by omega) (by decide), pu_s, w32_n (x := (a : Int)) (by omega) (by omega), w32_n (x := (b : Int)) (by omega) (by omega)]
          have es : seatJ n bed f (j + 1) = ud (ud (seatJ n bed f j) (a : Int) (b : Int)) (b : Int) (a : Int) := by
            show seat2 n bed f (seatJ n bed f j) = _
            unfold seat2
            rw [if_pos u4, e]
          refine K (5 - (j + 1)) _ (by omega) ⟨_, F3.tr (fun x hx => by rw [up_off_row hx, up_off_row hx]), Or.inl ⟨j + 1, by omega, rfl, rfl, fun k k0 k1 => ?_, ?_⟩⟩
          · rw [es, up_row, up_row]
            unfold ud
            by_cases q1 : k = (b : Int)
            · rw [if_pos q1, if_pos q1, if_neg (by omega)]
            · rw [if_neg q1, if_neg q1]
              by_cases q2 : k = (a : Int)
              · rw [if_pos q2, if_pos q2, if_neg (by omega)]
              · rw [if_neg q2, if_neg q2]
                exact T3 k k0 k1
          · rw [es, fc_two (by omega) (by omega) u1 u5 u6]
            omega
      · show wp (Md_books_b23_body k h3 2000 w abed 0) _
        unfold Md_books_b23_body
        rw [if_pos (by decide)]
        exact wp_i ⟨rfl, F3, T3⟩
  obtain ⟨r, h', e, rfl, q⟩ := W
  exact ⟨h', e, q⟩
end B
end PureM
