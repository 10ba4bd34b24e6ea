section PureWq
/-! questions about what wrongs are worth: WRONG, CRIME -/
theorem mw_2 {h h' : Hp} (F : On MW h h') : On SC2 h h' := F.w (fun a k q => by
  unfold MW at q
  unfold SC2
  rcases q with q | q | q | q
  · exact Or.inl (by unfold SCA; omega)
  · exact Or.inl (by unfold SCA; omega)
  · exact Or.inr (Or.inl q)
  · exact Or.inr (Or.inr q))
section Q
variable {h h' : Hp} {n W lc sc : Nat} {f ru pd wd : Int → Int} {ly : Nat → Pw} {k sn : Int}
def isWr (W : Nat) (a : Int) : Prop := 0 ≤ a ∧ a < (W : Int)
theorem isW_1 (C : CtI h n W ru pd wd) {a : Int} (ha : ir a) (q : isWr W a) : Cc_isWrong h 20 a = some (1, h) ∧ Md_isWrong h 2000 a = some (1, h) := by
  obtain ⟨q0, q1⟩ := q
  have W8 := C.1.2.2.1
  unfold Cc_isWrong Md_isWrong
  rw [ri ha, if_neg (by omega), cC_s SH20' rfl, cC_s C.1.shc.1 rfl, C.1.2.1, w32_n (x := (W : Int)) (by omega) (by omega), if_pos q1, if_neg (by omega), cC_s SH2000' rfl, C.2.1.2.2.1, w32_n (x := (W : Int)) (by omega) (by omega), if_pos q1]
  exact ⟨rfl, rfl⟩
theorem isW_0 (C : CtI h n W ru pd wd) {a : Int} (ha : ir a) (q : ¬ isWr W a) : Cc_isWrong h 20 a = some (0, h) ∧ Md_isWrong h 2000 a = some (0, h) := by
  have q : ¬ (0 ≤ a ∧ a < (W : Int)) := q
  have W8 := C.1.2.2.1
  unfold Cc_isWrong Md_isWrong
  rw [ri ha, cC_s SH20' rfl, cC_s C.1.shc.1 rfl, C.1.2.1, w32_n (x := (W : Int)) (by omega) (by omega), cC_s SH2000' rfl, C.2.1.2.2.1, w32_n (x := (W : Int)) (by omega) (by omega)]
  by_cases z : a < 0
  · rw [if_pos z]; exact ⟨rfl, rfl⟩
  · rw [if_neg z, if_neg (by omega)]; exact ⟨rfl, rfl⟩
theorem c_who (C : CtA h n W ru pd wd) {a : Int} (q : isWr W a) : Cy_whoOf h (h 20 1) a = some (wd (3 * a), h) ∧ Cy_whomOf h (h 20 1) a = some (wd (3 * a + 1), h) ∧ Cy_graveOf h (h 20 1) a = some (wd (3 * a + 2), h) := by
  obtain ⟨q0, q1⟩ := q
  obtain ⟨s0, s1, s2, s3, s4⟩ := C.shc
  have W8 := C.2.2.1
  unfold Cy_whoOf Cy_whomOf Cy_graveOf
  rw [cC_s s0 rfl, at_eq s3 (by omega) (by omega) (by omega) (by omega), cl_s, C.2.2.2.2.2 _ (by omega) (by omega), cC_s s0 rfl, at_eq s3 (by omega) (by omega) (by omega) (by omega), cl_s, C.2.2.2.2.2 _ (by omega) (by omega), cC_s s0 rfl, at_eq s3 (by omega) (by omega) (by omega) (by omega), cl_s, C.2.2.2.2.2 _ (by omega) (by omega)]
  exact ⟨rfl, rfl, rfl⟩
theorem kok_now (b : CyB n W ru pd wd) (g0 : Gd n f) (fb : FB W f) (W8 : W ≤ 8) {who whom g : Int} (p0 : 0 ≤ who) (p1 : who < n) (q0 : 0 ≤ whom) (q1 : whom < n) (g1 : 0 ≤ g) (g2 : g ≤ 9) : KOk g (pd (3 * who + 2)) (f (36 + 2 * whom)) (f (37 + 2 * whom)) (scV W wd (f 48) who) (f 51) := by
  have n6 := g0.1
  have l := Gd_l g0 q0 (by omega)
  have bo := Gd_b g0 q0 (by omega)
  have s := scV_b (wd := wd) W8 (f 48) who
  exact ⟨⟨g1, g2⟩, b.2.1 _ (by omega) (by omega), l, bo, s, fb.2.2⟩
/-- what one wrong would be worth now -/
def wkV (W : Nat) (ru pd wd f : Int → Int) (ly : Nat → Pw) (k who whom g : Int) : Int := mwV (ru 0) (woV ly k g (pd (3 * who + 2)) (f (36 + 2 * whom)) (f (37 + 2 * whom)) (scV W wd (f 48) who) (f 51))
theorem wk_c (I : IvP h n W lc sc ru pd wd f ly k sn) {who whom g : Int} (p0 : 0 ≤ who) (p1 : who < n) (q0 : 0 ≤ whom) (q1 : whom < n) (g1 : 0 ≤ g) (g2 : g ≤ 9) : ∃ h', Cc_worthBy h 20 110 who whom g = some (wkV W ru pd wd f ly k who whom g, h') ∧ On SCA h h' := by
  obtain ⟨Tp, Ct, Lw, Lh, Mm, Ss, Sn, Nw, -⟩ := I
  obtain ⟨h1, e1, F1⟩ := c_worth Ct.1 Nw.1 Lw Lh (Ct.2.2.1.1 (by omega)).2.1 Nw.2.2.1 p0 p1 q0 q1 (kok_now Ct.2.2.1 Nw.1.2.2.2 Nw.2.2 Ct.1.2.2.1 p0 p1 q0 q1 g1 g2)
  exact ⟨h1, e1, wc_sc F1⟩
theorem wk_m (I : IvP h n W lc sc ru pd wd f ly k sn) {who whom g : Int} (p0 : 0 ≤ who) (p1 : who < n) (q0 : 0 ≤ whom) (q1 : whom < n) (g1 : 0 ≤ g) (g2 : g ≤ 9) : ∃ h', Md_worthNow h 2000 2032 who whom g = some (wkV W ru pd wd f ly k who whom g, h') ∧ On SC2 h h' ∧ IvP h' n W lc sc ru pd wd f ly k sn := by
  have J := I
  obtain ⟨Tp, Ct, Lw, Lh, Mm, Ss, Sn, Nw, -⟩ := J
  obtain ⟨h1, e1, F1, Mm1⟩ := m_worthNow Ct.2.1 Nw.2.1 Lw Mm Lh (Ct.2.2.1.1 (by omega)).2.1 p0 p1 q0 q1 (kok_now Ct.2.2.1 Nw.1.2.2.2 Nw.2.2 Ct.1.2.2.1 p0 p1 q0 q1 g1 g2)
  exact ⟨h1, e1, mw_2 F1, I.q (mw_2 F1) Mm1⟩
theorem wk_b (r1 : 1 ≤ ru 0 ∧ ru 0 ≤ 30) {who whom g : Int} : 1 ≤ wkV W ru pd wd f ly k who whom g ∧ wkV W ru pd wd f ly k who whom g ≤ 30 := by
  have := mwV_b (x := woV ly k g (pd (3 * who + 2)) (f (36 + 2 * whom)) (f (37 + 2 * whom)) (scV W wd (f 48) who) (f 51)) r1.1
  unfold wkV
  omega
end Q
theorem So_wrong : S_wrong Inv := by
  intro h a1 a2 I i1 i2
  have K := I
  obtain ⟨n, W, lc, sc, ru, pd, wd, f, ly, k0, sn, J⟩ := K
  have J' := J
  obtain ⟨Tp, Ct, Lw, Lh, Mm, Ss, Sn, Nw, -⟩ := J'
  have J0 := J.qs (h' := up h 2000 0 0) t0_sc
  have Ct0 := J0.2.1
  have M0 := J0.2.2.2.2.2.2.2.1.2.1
  have W8 := Ct.1.2.2.1
  unfold Cc_wrong Md_wrong
  rw [cC_s SH20' rfl]
  by_cases q : isWr W a1
  · have q' := q
    obtain ⟨q0, q1⟩ := q'
    have cw := c_who Ct.1 q
    have wb := Ct.2.2.1.2.2.1 a1 q0 q1
    have mi : ∀ j : Int, 0 ≤ j → j < 3 → rd (up h 2000 0 0) 2022 (w32 (3 * a1 + j)) = wd (3 * a1 + j) := fun j j0 j1 => by
      rw [rd_ge (by decide), w32_n (by omega) (by omega)]
      exact Ct0.2.1.2.2.2.2.2.2 _ (by omega) (by omega)
    have mi0 : rd (up h 2000 0 0) 2022 (w32 (3 * a1)) = wd (3 * a1) := by
      have := mi 0 (by omega) (by omega)
      rw [Int.add_zero] at this
      exact this
    rw [(isW_1 Ct i1 q).1, cl_s, if_neg wn1, ri i2]
    by_cases c0 : a2 = 0
    · subst c0
      rw [if_pos rfl, cC_s Ct.1.shc.1 rfl, cw.1, cl_s]
      refine so_s ?_
      rw [cC_s SH2000' rfl, pu_s, (isW_1 Ct0 i1 q).2, cl_s, if_neg wn1, isIn1 I01.1 I01.1 I01.2.2.2.2.1 ⟨by decide, by decide⟩, cl_s, if_neg wn1, if_pos (by decide), cX_s SH2022 (by omega) (by omega) (by decide), mi 0 (by decide) (by decide), Int.add_zero]
      exact ⟨_, _, rfl, rfl, Inv.qs I t0_sc⟩
    rw [if_neg c0]
    by_cases c1 : a2 = 1
    · subst c1
      rw [if_pos rfl, cC_s Ct.1.shc.1 rfl, cw.2.1, cl_s]
      refine so_s ?_
      rw [cC_s SH2000' rfl, pu_s, (isW_1 Ct0 i1 q).2, cl_s, if_neg wn1, isIn1 I01.2.1 I01.1 I01.2.2.2.2.1 ⟨by decide, by decide⟩, cl_s, if_neg wn1, if_pos (by decide), cX_s SH2022 (by omega) (by omega) (by decide), mi 1 (by decide) (by decide)]
      exact ⟨_, _, rfl, rfl, Inv.qs I t0_sc⟩
    rw [if_neg c1]
    by_cases c2 : a2 = 2
    · subst c2
      rw [if_pos rfl, cC_s Ct.1.shc.1 rfl, cw.2.2, cl_s]
      refine so_s ?_
      rw [cC_s SH2000' rfl, pu_s, (isW_1 Ct0 i1 q).2, cl_s, if_neg wn1, isIn1 I01.2.2.1 I01.1 I01.2.2.2.2.1 ⟨by decide, by decide⟩, cl_s, if_neg wn1, if_pos (by decide), cX_s SH2022 (by omega) (by omega) (by decide), mi 2 (by decide) (by decide)]
      exact ⟨_, _, rfl, rfl, Inv.qs I t0_sc⟩
    rw [if_neg c2]
    by_cases c3 : a2 = 3
    · subst c3
      have f48 := Nw.2.2.1
      have hp := p2_8 W8
      obtain ⟨x, hx⟩ : ∃ x : Nat, f 48 = (x : Int) := ⟨(f 48).toNat, by omega⟩
      obtain ⟨i, hi⟩ : ∃ i : Nat, a1 = (i : Int) := ⟨a1.toNat, by omega⟩
      have bt := bit_8 x (by omega) i (by omega)
      have e5 : h 110 5 = f 48 := by rw [← Nw.1.2.2.1]; exact cR_48.symm
      unfold St_isSentenced
      rw [← hi, ← hx] at bt
      rw [if_pos rfl, cC_s (IsS_sh Nw.1.1).1 rfl, cC_s (IsS_sh Nw.1.1).1 rfl, e5, Cc_holds_e, cl_s, cl_s]
      by_cases z : x.testBit i = true
      · rw [if_pos (bt.1.mpr z), if_neg (by decide)]
        refine so_s ?_
        rw [cC_s SH2000' rfl, pu_s, (isW_1 Ct0 i1 q).2, cl_s, if_neg wn1, isIn1 I01.2.2.2.1 I01.1 I01.2.2.2.2.1 ⟨by decide, by decide⟩, cl_s, if_neg wn1, if_neg (by decide), if_pos rfl, cX_s SH2032' (by decide) (by decide) (by decide), rd_ge (by decide), M0.rd (by decide) (by decide), bt.2, if_pos z]
        exact ⟨_, _, rfl, rfl, Inv.qs I t0_sc⟩
      · rw [if_neg (fun y => z (bt.1.mp y)), if_pos (by decide)]
        refine so_s ?_
        rw [cC_s SH2000' rfl, pu_s, (isW_1 Ct0 i1 q).2, cl_s, if_neg wn1, isIn1 I01.2.2.2.1 I01.1 I01.2.2.2.2.1 ⟨by decide, by decide⟩, cl_s, if_neg wn1, if_neg (by decide), if_pos rfl, cX_s SH2032' (by decide) (by decide) (by decide), rd_ge (by decide), M0.rd (by decide) (by decide), bt.2, if_neg z]
        exact ⟨_, _, rfl, rfl, Inv.qs I t0_sc⟩
    rw [if_neg c3]
    by_cases c4 : a2 = 4
    · subst c4
      obtain ⟨h1, e1, F1⟩ := wk_c J wb.1.1 wb.1.2 wb.2.1.1 wb.2.1.2 (g := wd (3 * a1 + 2)) (by omega) (by omega)
      have J1 := (J.qs F1).qs (h' := up h1 2000 0 0) t0_sc
      have Ct1 := J1.2.1
      have mi1 : ∀ j : Int, 0 ≤ j → j < 3 → rd (up h1 2000 0 0) 2022 (w32 (3 * a1 + j)) = wd (3 * a1 + j) := fun j j0 j1 => by
        rw [rd_ge (by decide), w32_n (by omega) (by omega)]
        exact Ct1.2.1.2.2.2.2.2.2 _ (by omega) (by omega)
      have mi10 : rd (up h1 2000 0 0) 2022 (w32 (3 * a1)) = wd (3 * a1) := by
        have := mi1 0 (by omega) (by omega)
        rw [Int.add_zero] at this
        exact this
      obtain ⟨h2, e2, F2, J2⟩ := wk_m J1 wb.1.1 wb.1.2 wb.2.1.1 wb.2.1.2 (g := wd (3 * a1 + 2)) (by omega) (by omega)
      rw [if_pos rfl, cC_s Ct.1.shc.1 rfl, cw.1, cl_s, cC_s Ct.1.shc.1 rfl, cw.2.1, cl_s, cC_s Ct.1.shc.1 rfl, cw.2.2, cl_s, e1, cl_s]
      refine ⟨_, h1, wkV W ru pd wd f ly k0 (wd (3 * a1)) (wd (3 * a1 + 1)) (wd (3 * a1 + 2)), h2, rfl, ?_, rfl, ⟨n, W, lc, sc, ru, pd, wd, f, ly, k0, sn, J2⟩⟩
      · rw [cC_s SH2000' rfl, pu_s, (isW_1 Ct1 i1 q).2, cl_s, if_neg wn1, isIn1 I01.2.2.2.2.1 I01.1 I01.2.2.2.2.1 ⟨by decide, by decide⟩, cl_s, if_neg wn1, if_neg (by decide), if_neg (by decide), cX_s SH2022 (by omega) (by omega) (by decide), cX_s SH2022 (by omega) (by omega) (by decide), cX_s SH2022 (by omega) (by omega) (by decide), mi10, mi1 1 (by decide) (by decide), mi1 2 (by decide) (by decide), e2, cl_s]
    rw [if_neg c4]
    refine so_s ?_
    rw [cC_s SH2000' rfl, pu_s, (isW_1 Ct0 i1 q).2, cl_s, if_neg wn1, isIn0 i2 I01.1 I01.2.2.2.2.1 (by omega), cl_s, if_pos wz0]
    exact ⟨_, _, rfl, rfl, Inv.qs I t0_sc⟩
  · rw [(isW_0 Ct i1 q).1, cl_s, if_pos wz0]
    refine so_s ?_
    rw [cC_s SH2000' rfl, pu_s, (isW_0 Ct0 i1 q).2, cl_s, if_pos wz0]
    exact ⟨_, _, rfl, rfl, Inv.qs I t0_sc⟩
def crF (v : Int → Int) (t : Int) : Nat → Int → Int
  | 0, _ => -1
  | d + 1, g => if v g < t then crF v t d (g + 1) else g
theorem So_crime : S_crime Inv := by
  intro h a1 a2 a3 I i1 i2 i3
  have K := I
  obtain ⟨n, W, lc, sc, ru, pd, wd, f, ly, k0, sn, J⟩ := K
  have J' := J
  obtain ⟨Tp, Ct, Lw, Lh, Mm, Ss, Sn, Nw, -⟩ := J'
  have J0 := J.qs (h' := up h 2000 0 0) t0_sc
  have n6 := Ct.1.1.2.2
  have no : ∃ (r2 : Int) (h2 : Hp), some ((-1 : Int), up h 2000 0 0) = some (r2, h2) ∧ w32 (-1) = w32 r2 ∧ Inv h2 := ⟨_, _, rfl, rfl, Inv.qs I t0_sc⟩
  by_cases q : isT n a1 a2
  · have q' := q
    obtain ⟨⟨p0, p1⟩, ⟨r0, r1⟩, -⟩ := q'
    by_cases c : 1 ≤ a3 ∧ a3 ≤ 30
    · have rb := (Ct.2.2.1.1 (by omega)).2.1
      have Wc : wp (Cc_crime_b25 h 20 a1 a2 a3 1) (fun r h' => r = crF (wkV W ru pd wd f ly k0 a1 a2) a3 9 1 ∧ On SCA h h') := by
        generalize hV : crF (wkV W ru pd wd f ly k0 a1 a2) a3 9 1 = V
        unfold Cc_crime_b25
        refine itr_wpx (fun d σ => ∃ (h2 : Hp) (g : Int), σ = (h2, 20, a1, a2, a3, g) ∧ g + (d : Int) = 10 ∧ 1 ≤ g ∧ On SCA h h2 ∧ crF (wkV W ru pd wd f ly k0 a1 a2) a3 d g = V) ?_ (n := 9) (FU_gt (by decide)) ⟨h, 1, rfl, by omega, by omega, On.rf, hV⟩
        rintro d σ k ⟨h2, g, rfl, hd, g1, F2, v⟩ K
        show wp (Cc_crime_b25_body k h2 20 a1 a2 a3 g) _
        unfold Cc_crime_b25_body
        rw [w32_n (x := g) (by omega) (by omega)]
        cases d with
        | zero => rw [if_pos (by omega)]; exact wp_i ⟨v, F2⟩
        | succ d =>
          obtain ⟨h3, e3, F3⟩ := wk_c (J.qs F2) p0 p1 r0 r1 (g := g) (by omega) (by omega)
          have wb := wk_b (W := W) (pd := pd) (wd := wd) (f := f) (ly := ly) (k := k0) (who := a1) (whom := a2) (g := g) rb
          have v' : (if wkV W ru pd wd f ly k0 a1 a2 g < a3 then crF (wkV W ru pd wd f ly k0 a1 a2) a3 d (g + 1) else g) = V := v
          rw [if_neg (by omega), cC_s SH20' rfl, e3, cl_s, w32_n (x := wkV W ru pd wd f ly k0 a1 a2 g) (by omega) (by omega), ri i3]
          by_cases z : wkV W ru pd wd f ly k0 a1 a2 g < a3
          · rw [if_pos z] at v' ⊢
            exact K d _ (by omega) ⟨h3, g + 1, rfl, by omega, by omega, F2.tr F3, v'⟩
          · rw [if_neg z] at v' ⊢
            exact wp_i ⟨v', F2.tr F3⟩
      obtain ⟨r, h1, e1, rfl, F1⟩ := Wc
      have J1 := (J.qs F1).qs (h' := up h1 2000 0 0) t0_sc
      have Wm : wp (Md_crime_b31 (up h1 2000 0 0) 2000 a1 a2 a3 1) (fun r h' => r = crF (wkV W ru pd wd f ly k0 a1 a2) a3 9 1 ∧ IvP h' n W lc sc ru pd wd f ly k0 sn) := by
        generalize hV : crF (wkV W ru pd wd f ly k0 a1 a2) a3 9 1 = V
        unfold Md_crime_b31
        refine itr_wpx (fun d σ => ∃ (h2 : Hp) (g : Int), σ = (h2, 2000, a1, a2, a3, g) ∧ g + (d : Int) = 10 ∧ 1 ≤ g ∧ IvP h2 n W lc sc ru pd wd f ly k0 sn ∧ crF (wkV W ru pd wd f ly k0 a1 a2) a3 d g = V) ?_ (n := 9) (FU_gt (by decide)) ⟨_, 1, rfl, by omega, by omega, J1, hV⟩
        rintro d σ k ⟨h2, g, rfl, hd, g1, J2, v⟩ K
        show wp (Md_crime_b31_body k h2 2000 a1 a2 a3 g) _
        unfold Md_crime_b31_body
        rw [w32_n (x := g) (by omega) (by omega)]
        cases d with
        | zero => rw [if_pos (by omega)]; exact wp_i ⟨v, J2⟩
        | succ d =>
          obtain ⟨h3, e3, -, J3⟩ := wk_m J2 p0 p1 r0 r1 (g := g) (by omega) (by omega)
          have wb := wk_b (W := W) (pd := pd) (wd := wd) (f := f) (ly := ly) (k := k0) (who := a1) (whom := a2) (g := g) rb
          have v' : (if wkV W ru pd wd f ly k0 a1 a2 g < a3 then crF (wkV W ru pd wd f ly k0 a1 a2) a3 d (g + 1) else g) = V := v
          rw [if_neg (by omega), cC_s SH2000' rfl, e3, cl_s, w32_n (x := wkV W ru pd wd f ly k0 a1 a2 g) (by omega) (by omega), ri i3]
          by_cases z : wkV W ru pd wd f ly k0 a1 a2 g < a3
          · rw [if_pos z] at v' ⊢
            exact K d _ (by omega) ⟨h3, g + 1, rfl, by omega, by omega, J3, v'⟩
          · rw [if_neg z] at v' ⊢
            exact wp_i ⟨v', J3⟩
      obtain ⟨r2, h2, e2, rfl, J2⟩ := Wm
      refine ⟨crF (wkV W ru pd wd f ly k0 a1 a2) a3 9 1, h1, crF (wkV W ru pd wd f ly k0 a1 a2) a3 9 1, h2, ?_, ?_, rfl, ⟨n, W, lc, sc, ru, pd, wd, f, ly, k0, sn, J2⟩⟩
      · unfold Cc_crime
        rw [cC_s SH20' rfl, c_T1 Ct.1.1 i1 i2 q, cl_s, if_neg wn1, ri i3, if_neg (by omega), if_neg (by omega)]
        exact e1
      · unfold Md_crime
        rw [cC_s SH2000' rfl, pu_s, m_T1 J1.2.1.2.1.1 n6 i1 i2 q, cl_s, if_neg wn1, ri i3, isIn1 i3 I01.2.1 I01.2.2.2.2.2.2.2.1 c, cl_s, if_neg wn1]
        exact e2
    · unfold Cc_crime Md_crime
      rw [cC_s SH20' rfl, c_T1 Ct.1.1 i1 i2 q, cl_s, if_neg wn1, ri i3]
      by_cases z : a3 < 1
      · rw [if_pos z]
        refine so_s ?_
        rw [cC_s SH2000' rfl, pu_s, m_T1 J0.2.1.2.1.1 n6 i1 i2 q, cl_s, if_neg wn1, isIn0 i3 I01.2.1 I01.2.2.2.2.2.2.2.1 c, cl_s, if_pos wz0]
        exact no
      · rw [if_neg z, if_pos (by omega)]
        refine so_s ?_
        rw [cC_s SH2000' rfl, pu_s, m_T1 J0.2.1.2.1.1 n6 i1 i2 q, cl_s, if_neg wn1, isIn0 i3 I01.2.1 I01.2.2.2.2.2.2.2.1 c, cl_s, if_pos wz0]
        exact no
  · unfold Cc_crime Md_crime
    rw [cC_s SH20' rfl, c_T0 Ct.1.1 i1 i2 q, cl_s, if_pos wz0]
    refine so_s ?_
    rw [cC_s SH2000' rfl, pu_s, m_T0 J0.2.1.2.1.1 n6 i1 i2 q, cl_s, if_pos wz0]
    exact no
def Tgv (a k : Int) : Prop := (a = 65 ∧ k = 4) ∨ a = 66 ∨ a = 67 ∨ a = 68 ∨ (a = 2000 ∧ (k = 0 ∨ k = 50)) ∨ a = 2049
theorem SHgv : SH 66 = (100, 10) ∧ SH 67 = (100, 10) ∧ SH 68 = (103, 10) ∧ SH 2049 = (100, 30) := by decide +kernel
theorem So_given : S_given Inv := by
  intro h a1 a2 a3 I i1 i2 i3
  have K := I
  obtain ⟨n, W, lc, sc, ru, pd, wd, f, ly, k0, sn, Tp, Ct, Lw, Lh, Mm, Ss, Sn, Nw, Lg, Td, Im, Pa, Gv, Rw⟩ := K
  have Gv0 := Gv
  obtain ⟨gc, g1, g2, g3, g4⟩ := Gv0
  have Ct0 : CtI (up h 2000 0 0) n W ru pd wd := Ct.e (t0_sc.e (fun a k t c => sd_Ct Ct.1.1.1 a k (Or.inl t) c))
  have no : ∃ (r2 : Int) (h2 : Hp), some ((-1 : Int), up h 2000 0 0) = some (r2, h2) ∧ w32 (-1) = w32 r2 ∧ Inv h2 := ⟨_, _, rfl, rfl, Inv.qs I t0_sc⟩
  unfold Cc_given Md_given
  rw [cC_s SH20' rfl]
  by_cases q : isWr W a1
  · rw [(isW_1 Ct i1 q).1, cl_s, if_neg wn1, ri i2]
    have o50 : up h 2000 0 0 2000 50 = (gc : Int) := by rw [up_off (by decide)]; exact g2
    by_cases c : 1 ≤ a2 ∧ a2 ≤ 30
    · rw [if_neg (by omega), if_neg (by omega), cC_s SH65 rfl, g1, w32_n (x := (gc : Int)) (by omega) (by omega)]
      by_cases z : gc = 10
      · rw [if_neg (by omega)]
        refine so_s ?_
        rw [cC_s SH2000' rfl, pu_s, (isW_1 Ct0 i1 q).2, cl_s, if_neg wn1, isIn1 i2 I01.2.1 I01.2.2.2.2.2.2.2.1 c, cl_s, if_neg wn1, o50, w32_n (x := (gc : Int)) (by omega) (by omega), if_pos (by omega)]
        exact no
      · rw [if_pos (by omega)]
        have ec : Gv_add h 65 a1 a2 a3 = some (0, up (up (up (up h 66 (gc : Int) a1) 67 (gc : Int) a2) 68 (gc : Int) (a3 % 2)) 65 4 ((gc : Int) + 1)) := by
          unfold Gv_add
          rw [cC_s SH65 rfl, g1, w32_n (x := (gc : Int)) (by omega) (by omega), if_neg (by omega), if_pos (by omega), cY_s SHgv.1 (by decide) (by omega) (by omega) (by decide), pu_s, up_ne (a := 66) (b := 65) (by decide), g1, cY_s SHgv.2.1 (by decide) (by omega) (by omega) (by decide), pu_s, w32_n (x := (gc : Int)) (by omega) (by omega), up_ne (a := 67) (b := 65) (by decide), up_ne (a := 66) (b := 65) (by decide), g1, cY_s SHgv.2.2.1 (by decide) (by omega) (by omega) (by decide), pu_s, pu_s, w32_n (x := (gc : Int)) (by omega) (by omega), up_ne (a := 68) (b := 65) (by decide), up_ne (a := 67) (b := 65) (by decide), up_ne (a := 66) (b := 65) (by decide), g1]
        have em3 : a3 % 2 = a3 := by rcases i3 with e | e <;> rw [e] <;> rfl
        rw [em3] at ec
        rw [ec, cl_s, up_at]
        have e0 : up (up (up (up (up h 66 (gc : Int) a1) 67 (gc : Int) a2) 68 (gc : Int) a3) 65 4 ((gc : Int) + 1)) 2000 0 0 2000 50 = (gc : Int) := by rw [up_off (by decide), up_ne (by decide), up_ne (by decide), up_ne (by decide), up_ne (by decide)]; exact g2
        have Fc : On Tgv h (up (up (up (up (up h 66 (gc : Int) a1) 67 (gc : Int) a2) 68 (gc : Int) a3) 65 4 ((gc : Int) + 1)) 2000 0 0) := ((((On.up (Or.inr (Or.inl rfl))).tr (On.up (Or.inr (Or.inr (Or.inl rfl))))).tr (On.up (Or.inr (Or.inr (Or.inr (Or.inl rfl)))))).tr (On.up (Or.inl ⟨rfl, rfl⟩))).tr (On.up (Or.inr (Or.inr (Or.inr (Or.inr (Or.inl ⟨rfl, Or.inl rfl⟩))))))
        have Ct1 : CtI (up (up (up (up (up h 66 (gc : Int) a1) 67 (gc : Int) a2) 68 (gc : Int) a3) 65 4 ((gc : Int) + 1)) 2000 0 0) n W ru pd wd := Ct.e (Fc.e (fun a k t c => by have z := Ct.1.1.1; unfold Tgv at t; unfold CtC at c; omega))
        refine ⟨_, _, (gc : Int) + 1, ?_, rfl, ?_, rfl, ?_⟩
        · exact up (up (up (up (up (up (up (up (up h 66 (gc : Int) a1) 67 (gc : Int) a2) 68 (gc : Int) a3) 65 4 ((gc : Int) + 1)) 2000 0 0) 2049 (3 * (gc : Int)) a1) 2049 (3 * (gc : Int) + 1) a2) 2049 (3 * (gc : Int) + 2) a3) 2000 50 ((gc : Int) + 1)
        · rw [cC_s SH2000' rfl, pu_s, (isW_1 Ct1 i1 q).2, cl_s, if_neg wn1, isIn1 i2 I01.2.1 I01.2.2.2.2.2.2.2.1 c, cl_s, if_neg wn1, e0, w32_n (x := (gc : Int)) (by omega) (by omega), if_neg (by omega), cY_s SHgv.2.2.2 (by decide) (by omega) (by omega) (by decide), pu_s, w32_n (x := 3 * (gc : Int)) (by omega) (by omega), up_ne (a := 2049) (b := 2000) (by decide), e0, cY_s SHgv.2.2.2 (by decide) (by omega) (by omega) (by decide), pu_s, w32_n (x := 3 * (gc : Int) + 1) (by omega) (by omega), up_ne (a := 2049) (b := 2000) (by decide), up_ne (a := 2049) (b := 2000) (by decide), e0]
          have e50 : up (up (up (up (up (up (up (up h 66 (gc : Int) a1) 67 (gc : Int) a2) 68 (gc : Int) a3) 65 4 ((gc : Int) + 1)) 2000 0 0) 2049 (3 * (gc : Int)) a1) 2049 (3 * (gc : Int) + 1) a2) 2049 (3 * (gc : Int) + 2) a3 2000 50 = (gc : Int) := by rw [up_ne (by decide), up_ne (by decide), up_ne (by decide)]; exact e0
          have b83 : ∀ v : Int, v = a3 → Md_given_b83 (up (up (up (up (up (up (up h 66 (gc : Int) a1) 67 (gc : Int) a2) 68 (gc : Int) a3) 65 4 ((gc : Int) + 1)) 2000 0 0) 2049 (3 * (gc : Int)) a1) 2049 (3 * (gc : Int) + 1) a2) 2000 2049 (3 * (gc : Int) + 2) v = some ((gc : Int) + 1, up (up (up (up (up (up (up (up (up h 66 (gc : Int) a1) 67 (gc : Int) a2) 68 (gc : Int) a3) 65 4 ((gc : Int) + 1)) 2000 0 0) 2049 (3 * (gc : Int)) a1) 2049 (3 * (gc : Int) + 1) a2) 2049 (3 * (gc : Int) + 2) a3) 2000 50 ((gc : Int) + 1)) := by
            intro v hv
            unfold Md_given_b83
            rw [hv, cY_s SHgv.2.2.2 (by decide) (by omega) (by omega) (by decide), pu_s, w32_n (x := 3 * (gc : Int) + 2) (by omega) (by omega), cC_s SH2000' rfl, e50, pu_s, up_at]
          rcases i3 with e | e
          · rw [if_pos (by rw [e]; decide), b83 0 e.symm]
          · rw [if_neg (by rw [e]; decide), b83 1 e.symm]
        · have F : On Tgv h (up (up (up (up (up (up (up (up (up h 66 (gc : Int) a1) 67 (gc : Int) a2) 68 (gc : Int) a3) 65 4 ((gc : Int) + 1)) 2000 0 0) 2049 (3 * (gc : Int)) a1) 2049 (3 * (gc : Int) + 1) a2) 2049 (3 * (gc : Int) + 2) a3) 2000 50 ((gc : Int) + 1)) := (((Fc.tr (On.up (Or.inr (Or.inr (Or.inr (Or.inr (Or.inr rfl))))))).tr (On.up (Or.inr (Or.inr (Or.inr (Or.inr (Or.inr rfl))))))).tr (On.up (Or.inr (Or.inr (Or.inr (Or.inr (Or.inr rfl))))))).tr (On.up (Or.inr (Or.inr (Or.inr (Or.inr (Or.inl ⟨rfl, Or.inr rfl⟩))))))
          have R : ∀ (b : Int), b ≠ 2000 → b ≠ 2049 → b ≠ 65 → up (up (up (up (up (up (up (up (up h 66 (gc : Int) a1) 67 (gc : Int) a2) 68 (gc : Int) a3) 65 4 ((gc : Int) + 1)) 2000 0 0) 2049 (3 * (gc : Int)) a1) 2049 (3 * (gc : Int) + 1) a2) 2049 (3 * (gc : Int) + 2) a3) 2000 50 ((gc : Int) + 1) b = up (up (up h 66 (gc : Int) a1) 67 (gc : Int) a2) 68 (gc : Int) a3 b := fun b b1 b2 b3 => by rw [up_off_row b1, up_off_row b2, up_off_row b2, up_off_row b2, up_off_row b1, up_off_row b3]
          have gvn : GvI (up (up (up (up (up (up (up (up (up h 66 (gc : Int) a1) 67 (gc : Int) a2) 68 (gc : Int) a3) 65 4 ((gc : Int) + 1)) 2000 0 0) 2049 (3 * (gc : Int)) a1) 2049 (3 * (gc : Int) + 1) a2) 2049 (3 * (gc : Int) + 2) a3) 2000 50 ((gc : Int) + 1)) W := by
            refine ⟨gc + 1, ?_, by rw [up_at]; rfl, by omega, fun i j0 j1 => ?_⟩
            · rw [up_ne (by decide), up_ne (by decide), up_ne (by decide), up_ne (by decide), up_ne (by decide), up_at]; rfl
            · have m49 : ∀ x : Int, up (up (up (up (up (up (up (up (up h 66 (gc : Int) a1) 67 (gc : Int) a2) 68 (gc : Int) a3) 65 4 ((gc : Int) + 1)) 2000 0 0) 2049 (3 * (gc : Int)) a1) 2049 (3 * (gc : Int) + 1) a2) 2049 (3 * (gc : Int) + 2) a3) 2000 50 ((gc : Int) + 1) 2049 x = if x = 3 * (gc : Int) + 2 then a3 else if x = 3 * (gc : Int) + 1 then a2 else if x = 3 * (gc : Int) then a1 else h 2049 x := by
                intro x
                rw [up_ne (by decide)]
                by_cases x2 : x = 3 * (gc : Int) + 2
                · rw [if_pos x2, x2, up_at]
                · rw [if_neg x2, up_off x2]
                  by_cases x1 : x = 3 * (gc : Int) + 1
                  · rw [if_pos x1, x1, up_at]
                  · rw [if_neg x1, up_off x1]
                    by_cases x0 : x = 3 * (gc : Int)
                    · rw [if_pos x0, x0, up_at]
                    · rw [if_neg x0, up_off x0, up_ne (by decide), up_ne (by decide), up_ne (by decide), up_ne (by decide), up_ne (by decide)]
              rw [m49, m49, m49, R 66 (by decide) (by decide) (by decide), R 67 (by decide) (by decide) (by decide), R 68 (by decide) (by decide) (by decide), up_off_row (a := 68) (b := 66) (by decide), up_off_row (a := 67) (b := 66) (by decide), up_off_row (a := 68) (b := 67) (by decide)]
              by_cases e : i = (gc : Int)
              · subst e
                rw [up_at, up_at, up_at, if_neg (by omega), if_neg (by omega), if_pos rfl, if_neg (by omega), if_pos rfl, if_pos rfl]
                exact ⟨⟨rfl, q⟩, ⟨rfl, c⟩, rfl, i3⟩
              · have hi := g4 i j0 (by omega)
                rw [up_off e, up_off e, up_off e, if_neg (by omega), if_neg (by omega), if_neg (by omega), if_neg (by omega), if_neg (by omega), if_neg (by omega), if_neg (by omega), if_neg (by omega), if_neg (by omega), up_ne (by decide), up_ne (by decide), up_ne (by decide)]
                exact hi
          exact ⟨n, W, lc, sc, ru, pd, wd, f, ly, k0, sn, Tp.e (F.e (fun a k t c => by unfold Tgv at t; unfold TpC at c; omega)), Ct.e (F.e (fun a k t c => by have z := Ct.1.1.1; unfold Tgv at t; unfold CtC at c; omega)), Lw.e (F.e (fun a k t c => by have z := Lw.2.2.1; unfold Tgv at t; unfold LwC at c; omega)), Lh.e (F.e (fun a k t c => by unfold Tgv at t; unfold LhC at c; omega)), MmI.e Mm (F.e (fun a k t c => by unfold Tgv at t; unfold MmC at c; omega)), Ss.e (F.e (fun a k t c => by have z := Ss.2.2.1; unfold Tgv at t; unfold SsC at c; omega)), Sn.e (F.e (fun a k t c => by unfold Tgv at t; unfold SnC at c; omega)), Nw.e (F.e (fun a k t c => by unfold Tgv at t; unfold NwC at c; omega)), lg_on F (fun a k t c => by unfold Tgv at t; unfold LgC at c; omega) Lg, Td.e (F.e (fun a k t c => by unfold Tgv at t; unfold TdC at c; omega)), Im.e (F.e (fun a k t c => by unfold Tgv at t; unfold ImC at c; omega)), Pa.e (F.e (fun a k t c => by unfold Tgv at t; unfold PaC at c; omega)), gvn, Rw.e (F.e (fun a k t c => by unfold Tgv at t; unfold RwC at c; omega))⟩
    · by_cases z : a2 < 1
      · rw [if_pos z]
        refine so_s ?_
        rw [cC_s SH2000' rfl, pu_s, (isW_1 Ct0 i1 q).2, cl_s, if_neg wn1, isIn0 i2 I01.2.1 I01.2.2.2.2.2.2.2.1 c, cl_s, if_pos wz0]
        exact no
      · rw [if_neg z, if_pos (by omega)]
        refine so_s ?_
        rw [cC_s SH2000' rfl, pu_s, (isW_1 Ct0 i1 q).2, cl_s, if_neg wn1, isIn0 i2 I01.2.1 I01.2.2.2.2.2.2.2.1 c, cl_s, if_pos wz0]
        exact no
  · rw [(isW_0 Ct i1 q).1, cl_s, if_pos wz0]
    refine so_s ?_
    rw [cC_s SH2000' rfl, pu_s, (isW_0 Ct0 i1 q).2, cl_s, if_pos wz0]
    exact no
end PureWq
