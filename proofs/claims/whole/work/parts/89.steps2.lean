section PureSteps2
/-! A SESSION'S STEPS: the reference's side -/
section C
variable {h h' : Hp} {n W lc sc : Nat} {f ru pd wd : Int → Int} {ly : Nat → Pw} {k sn w : Int}
theorem stm_49w (M : StM h w n f) {v : Int} (v0 : 0 ≤ v) (v1 : v ≤ 999) : StM (up h w 49 v) w n (ud f 49 v) := ⟨M.1, by rw [up_ne (by have := M.w2; omega)]; exact M.2.1, by rw [mR_up (by decide) (by decide), M.2.2.1], Gd_49 M.2.2.2 v0 v1⟩
theorem stm_48w (M : StM h w n f) {v : Int} (v0 : 0 ≤ v) (v1 : v < 256) : StM (up h w 48 v) w n (ud f 48 v) := ⟨M.1, by rw [up_ne (by have := M.w2; omega)]; exact M.2.1, by rw [mR_up (by decide) (by decide), M.2.2.1], Gd_48 M.2.2.2 v0 v1⟩
theorem FrW.aw (F : FrW w h h') : On (fun a k => a = w ∧ k < 52) h h' := fun a k t => by
  by_cases z : a = w
  · subst z
    exact F.2 k (Int.not_lt.mp (fun e => t ⟨rfl, e⟩))
  · rw [F.1 a z]
theorem mse (C : CtI h n W ru pd wd) (M : StM h w n f) (Lw : LwI h lc ly) (Mm : MmI h lc ly) (Lh : LhI h lc k) (fb : FB W f) {a : Int} (q : isWr W a) : ∃ h', Md_sentences h 2000 w a = some (0, h') ∧ On (fun x y => (x = w ∧ y < 52) ∨ MW x y) h h' ∧ StM h' w n (seR W ru pd wd f ly k a) ∧ MmI h' lc ly := by
  have W8 := C.1.2.2.1
  have n6 := C.1.1.2.2
  obtain ⟨sw, w2, w3'⟩ := M.w2
  have q' := q
  obtain ⟨q0, q1⟩ := q'
  obtain ⟨w1, w2', w3, w4⟩ := C.2.2.1.2.2.1 a q0 q1
  have rb := (C.2.2.1.1 (n_pos C.2.2.1 q)).2.1
  obtain ⟨h1, e1, F1, Mm1⟩ := m_worthNow C.2.1 M Lw Mm Lh rb w1.1 w1.2 w2'.1 w2'.2 (kok_now C.2.2.1 M.2.2.2 fb W8 w1.1 w1.2 w2'.1 w2'.2 (g := wd (3 * a + 2)) (by omega) (by omega))
  have e1' : Md_worthNow h 2000 w (wd (3 * a)) (wd (3 * a + 1)) (wd (3 * a + 2)) = some (wkV W ru pd wd f ly k (wd (3 * a)) (wd (3 * a + 1)) (wd (3 * a + 2)), h1) := e1
  have wb := wk_b (W := W) (pd := pd) (wd := wd) (f := f) (ly := ly) (k := k) (who := wd (3 * a)) (whom := wd (3 * a + 1)) (g := wd (3 * a + 2)) rb
  have M1 : StM h1 w n f := ⟨M.1, by rw [F1 2000 26 (by unfold MW; omega)]; exact M.2.1, by rw [mR_e (h := h) (fun k _ _ => F1 w k (by unfold MW; rcases M.1 with z | z <;> omega))]; exact M.2.2.1, M.2.2.2⟩
  have db := Gd_d M.2.2.2 w1.1 (show wd (3 * a) < 6 by omega) w2'.1 (show wd (3 * a + 1) < 6 by omega)
  obtain ⟨h2, e2, F2, m2⟩ := Md_adds_e M1 (a := wd (3 * a)) (b := wd (3 * a + 1)) (m := wkV W ru pd wd f ly k (wd (3 * a)) (wd (3 * a + 1)) (wd (3 * a + 2))) w1.1 (by omega) w2'.1 (by omega) (by omega) (by omega)
  have M2 := M1.ofW F2 m2 (Gd_owe M.2.2.2 w1.1 (by omega) w2'.1 (by omega) w3 (by omega))
  obtain ⟨x, hx⟩ : ∃ x : Nat, f 48 = (x : Int) := ⟨(f 48).toNat, by have := fb.1; omega⟩
  have p8 : 2 ^ W ≤ 2 ^ 8 := Nat.pow_le_pow_right (by decide) W8
  have sb := sen_b (x := x) W8 (by have := fb.1; omega) q
  rw [← hx] at sb
  have r48 : oweR f (wd (3 * a)) (wd (3 * a + 1)) (wkV W ru pd wd f ly k (wd (3 * a)) (wd (3 * a + 1)) (wd (3 * a + 2))) 48 = f 48 := owe_hi w1.1 (by omega) w2'.1 (by omega) (by decide)
  have e48 : h2 w 48 = f 48 := by rw [M2.rd (by decide) (by decide)]; exact r48
  have M3 := stm_48w M2 (v := ior (f 48) (ishl 1 a)) sb.1 (by omega)
  have Fx : On (fun x y => (x = w ∧ y < 52) ∨ MW x y) h (up h2 w 48 (ior (f 48) (ishl 1 a))) := ((F1.w (fun x y t => Or.inr t)).tr ((FrW.aw F2).w (fun x y t => Or.inl t))).tr (On.up (Or.inl ⟨rfl, by decide⟩))
  have E2 : Eq2 MmC h1 (up h2 w 48 (ior (f 48) (ishl 1 a))) := (((FrW.aw F2).tr (On.up (h := h2) (a := w) (i := 48) (v := ior (f 48) (ishl 1 a)) ⟨rfl, by decide⟩))).e (fun x y t c => by unfold MmC at c; omega)
  refine ⟨up h2 w 48 (ior (f 48) (ishl 1 a)), ?_, Fx, M3, MmI.e Mm1 E2⟩
  unfold Md_sentences
  rw [cC_s SH2000' rfl, cX_s SH2022 (by omega) (by omega) (by decide), bd_s, cX_s SH2022 (by omega) (by omega) (by decide), bd_s, cX_s SH2022 (by omega) (by omega) (by decide), rd_ge (by decide), rd_ge (by decide), rd_ge (by decide), w32_n (x := 3 * a) (by omega) (by omega), w32_n (x := 3 * a + 1) (by omega) (by omega), w32_n (x := 3 * a + 2) (by omega) (by omega), C.2.1.2.2.2.2.2.2 _ (by omega) (by omega), C.2.1.2.2.2.2.2.2 _ (by omega) (by omega), C.2.1.2.2.2.2.2.2 _ (by omega) (by omega), e1', cl_s, e2, cl_s, cX_s sw (by decide) (by decide) (by decide), cY_s sw (by omega) (by decide) (by decide) (by decide), rd_ge (by omega), e48, pu_s]
/-- may this step be? -/
theorem m_can (X : Cx h n W lc sc ru pd wd ly k) (M : StM h w n f) (fb : FB W f) {T t x y : Int} (m0 : h 2024 T = t) (m1 : h 2024 (T + 1) = x) (m2 : h 2024 (T + 2) = y) (T0 : 0 ≤ T) (T1 : T + 2 < 240) (tb : (0 ≤ t ∧ t ≤ 3) ∧ (-1 ≤ x ∧ x ≤ 9) ∧ -1 ≤ y ∧ y ≤ 9) : (okS n W f t x y → Md_canStep h 2000 w T = some (1, h)) ∧ (¬ okS n W f t x y → Md_canStep h 2000 w T = some (0, h)) := by
  obtain ⟨Ct, Lw, Lh, Ss⟩ := X
  have n6 := Ct.1.1.2.2
  have W8 := Ct.1.2.2.1
  obtain ⟨sw, w2, w3'⟩ := M.w2
  have ix : ir x := ⟨by omega, by omega⟩
  have iy : ir y := ⟨by omega, by omega⟩
  have o1 : (1 : Int) % 2 = 1 := by decide
  have o0 : (0 : Int) % 2 = 0 := by decide
  have b2 := fb.2.1
  have b3 := fb.2.2
  have r48 : h w 48 = f 48 := M.rd (by decide) (by decide)
  have r49 : h w 49 = f 49 := M.rd (by decide) (by decide)
  have r51 : h w 51 = f 51 := M.rd (by decide) (by decide)
  have r24 : ∀ i : Int, rd h 2024 i = h 2024 i := rd_ge (by decide)
  unfold Md_canStep
  rw [cC_s SH2000' rfl, cX_s SH2024 (by omega) (by omega) (by decide), bd_s, cX_s SH2024 (by omega) (by omega) (by decide), r24, r24, r24, w32_n (x := T) (by omega) (by omega), w32_n (x := T + 1) (by omega) (by omega), w32_n (x := T + 2) (by omega) (by omega), m0, m1, m2, w32_n (x := t) (by omega) (by omega)]
  unfold okS
  by_cases t0 : t = 0
  · unfold Md_canSentence
    rw [if_pos t0, cC_s SH2000' rfl]
    by_cases q : isWr W x
    · rw [(isW_1 Ct ix q).2, cl_s, if_neg wn1, cX_s sw (by decide) (by decide) (by decide), rd_ge (by omega), r48, Md_has_p, cl_s]
      by_cases z : w32 (iand (ishr (f 48) x) 1) = 1
      · rw [if_pos z, if_neg wn1, cl_s, o0]
        refine ⟨fun v => ?_, fun _ => rfl⟩
        rcases v with v | v | v | v
        · exact absurd z v.2.2
        · omega
        · omega
        · omega
      · rw [if_neg z, if_pos wz0, cl_s, o1]
        exact ⟨fun _ => rfl, fun v => absurd (Or.inl ⟨t0, q, z⟩) v⟩
    · rw [(isW_0 Ct ix q).2, cl_s, if_pos wz0, cl_s, o0]
      refine ⟨fun v => ?_, fun _ => rfl⟩
      rcases v with v | v | v | v
      · exact absurd v.2.1 q
      · omega
      · omega
      · omega
  · rw [if_neg t0]
    by_cases t1 : t = 1
    · rw [if_pos t1, cX_s sw (by decide) (by decide) (by decide), rd_ge (by omega), r51, w32_n (x := f 51) (by omega) (by omega)]
      by_cases c : f 51 < 999
      · rw [if_pos c]
        exact ⟨fun _ => rfl, fun v => absurd (Or.inr (Or.inl ⟨t1, c⟩)) v⟩
      · rw [if_neg c]
        refine ⟨fun v => ?_, fun _ => rfl⟩
        rcases v with v | v | v | v
        · omega
        · omega
        · omega
        · omega
    · rw [if_neg t1]
      by_cases t2 : t = 2
      · rw [if_pos t2, cX_s SH2024 (by omega) (by omega) (by decide)]
        unfold Md_canAppeal
        rw [cC_s SH2000' rfl]
        by_cases q : isT n x y
        · have q' := q
          obtain ⟨⟨p0, p1⟩, ⟨r0, r1⟩, hab⟩ := q'
          have db := Gd_d M.2.2.2 p0 (show x < 6 by omega) r0 (show y < 6 by omega)
          rw [m_T1 Ct.2.1.1 n6 ix iy q, cl_s, if_neg wn1, Md_owes_e M p0 (by omega) r0 (by omega), cl_s, w32_n (x := f (6 * x + y)) (by omega) (by omega)]
          by_cases c : f (6 * x + y) < 2
          · rw [if_pos c, cl_s, o0]
            refine ⟨fun v => ?_, fun _ => rfl⟩
            rcases v with v | v | v | v
            · omega
            · omega
            · have := v.2.2.1; omega
            · omega
          · rw [if_neg c, cX_s sw (by decide) (by decide) (by decide), rd_ge (by omega), r49, w32_n (x := f 49) (by omega) (by omega)]
            by_cases d : f 49 < 2
            · rw [if_pos d, cl_s, o0]
              refine ⟨fun v => ?_, fun _ => rfl⟩
              rcases v with v | v | v | v
              · omega
              · omega
              · have := v.2.2.2; omega
              · omega
            · rw [if_neg d, cl_s, o1]
              exact ⟨fun _ => rfl, fun v => absurd (Or.inr (Or.inr (Or.inl ⟨t2, q, by omega, by omega⟩))) v⟩
        · rw [m_T0 Ct.2.1.1 n6 ix iy q, cl_s, if_pos wz0, cl_s, o0]
          refine ⟨fun v => ?_, fun _ => rfl⟩
          rcases v with v | v | v | v
          · omega
          · omega
          · exact absurd v.2.1 q
          · omega
      · have t3 : t = 3 := by omega
        rw [if_neg t2, cX_s SH2024 (by omega) (by omega) (by decide)]
        unfold Md_canPardon
        rw [cC_s SH2000' rfl]
        by_cases q : isT n x y
        · have q' := q
          obtain ⟨⟨p0, p1⟩, ⟨r0, r1⟩, hab⟩ := q'
          have db := Gd_d M.2.2.2 p0 (show x < 6 by omega) r0 (show y < 6 by omega)
          rw [m_T1 Ct.2.1.1 n6 ix iy q, cl_s, if_neg wn1, Md_owes_e M p0 (by omega) r0 (by omega), cl_s, w32_n (x := f (6 * x + y)) (by omega) (by omega)]
          by_cases c : 0 < f (6 * x + y)
          · rw [if_pos c, cX_s sw (by decide) (by decide) (by decide), rd_ge (by omega), r49, w32_n (x := f 49) (by omega) (by omega)]
            by_cases d : f 49 < 4
            · rw [if_pos d, cl_s, o0]
              refine ⟨fun v => ?_, fun _ => rfl⟩
              rcases v with v | v | v | v
              · omega
              · omega
              · omega
              · have := v.2.2.2; omega
            · rw [if_neg d, cl_s, o1]
              exact ⟨fun _ => rfl, fun v => absurd (Or.inr (Or.inr (Or.inr ⟨t3, q, by omega, by omega⟩))) v⟩
          · rw [if_neg c, cl_s, o0]
            refine ⟨fun v => ?_, fun _ => rfl⟩
            rcases v with v | v | v | v
            · omega
            · omega
            · omega
            · have := v.2.2.1; omega
        · rw [m_T0 Ct.2.1.1 n6 ix iy q, cl_s, if_pos wz0, cl_s, o0]
          refine ⟨fun v => ?_, fun _ => rfl⟩
          rcases v with v | v | v | v
          · omega
          · omega
          · omega
          · exact absurd v.2.1 q
def Tgs (w a k : Int) : Prop := a = w ∨ (a = 2000 ∧ (k = 39 ∨ k = 40)) ∨ a = 2038 ∨ MW a k
/-- a step of the reference -/
theorem m_go (X : Cx h n W lc sc ru pd wd ly k) (M : StM h w n f) (Mm : MmI h lc ly) (fb : FB W f) (L : 0 ≤ h w 52 ∧ h w 52 ≤ 60) {T t x y : Int} (m0 : h 2024 T = t) (m1 : h 2024 (T + 1) = x) (m2 : h 2024 (T + 2) = y) (T0 : 0 ≤ T) (T1 : T + 2 < 240) (q : okS n W f t x y) (tb : (0 ≤ t ∧ t ≤ 3) ∧ (-1 ≤ x ∧ x ≤ 9) ∧ -1 ≤ y ∧ y ≤ 9) : ∃ h', Md_goStep h 2000 w T = some (0, h') ∧ On (Tgs w) h h' ∧ StM h' w n (stS n W ru pd wd f ly k t x y) ∧ MmI h' lc ly ∧ (¬ t = 1 → ∀ v : Int, 52 ≤ v → h' w v = h w v) ∧ (t = 1 → LogStep h h' w (psC n (-1) f) (psR n (-1) f).2 (allD n (psR n (-1) f).1)) := by
  obtain ⟨Ct, Lw, Lh, Ss⟩ := X
  have n6 := Ct.1.1.2.2
  have W8 := Ct.1.2.2.1
  have w2 := M.w2
  obtain ⟨sw, wl, wh⟩ := w2
  have wc : w = 2032 ∨ w = 2033 := M.1
  have ix : ir x := ⟨by omega, by omega⟩
  have iy : ir y := ⟨by omega, by omega⟩
  have b2 := fb.2.1
  have b3 := fb.2.2
  have r49 : h w 49 = f 49 := M.rd (by decide) (by decide)
  have r24 : ∀ i : Int, rd h 2024 i = h 2024 i := rd_ge (by decide)
  unfold Md_goStep
  rw [cC_s SH2000' rfl, cX_s SH2024 (by omega) (by omega) (by decide), bd_s, cX_s SH2024 (by omega) (by omega) (by decide), r24, r24, r24, w32_n (x := T) (by omega) (by omega), w32_n (x := T + 1) (by omega) (by omega), w32_n (x := T + 2) (by omega) (by omega), m0, m1, m2, w32_n (x := t) (by omega) (by omega)]
  unfold stS
  rcases q with ⟨q0, q1, q2⟩ | ⟨q0, q1⟩ | ⟨q0, q1, q2, q3⟩ | ⟨q0, q1, q2, q3⟩
  · obtain ⟨h', e, F, M', Mm'⟩ := mse Ct M Lw Mm Lh fb q1
    rw [if_pos q0, if_pos q0, e, cl_s]
    refine ⟨h', rfl, F.w (fun a j u => ?_), M', Mm', fun _ v v52 => F w v (fun u => ?_), fun z => absurd z (by omega)⟩
    · unfold Tgs
      rcases u with u | u
      · exact Or.inl u.1
      · exact Or.inr (Or.inr (Or.inr u))
    · rcases u with u | u
      · omega
      · unfold MW at u; omega
  · obtain ⟨h', e, F, M', -, -, -, L'⟩ := Md_goEvening_e M Abed0 L
    have F' : On (Tgs w) h h' := fun a j u => by
      by_cases z : a = 2000
      · subst z
        exact F.2 j (fun e => u (by unfold Tgs; omega)) (fun e => u (by unfold Tgs; omega))
      · rw [F.1 a (fun e => u (by unfold Tgs; omega)) (fun e => u (by unfold Tgs; omega)) z]
    rw [if_neg (show ¬ t = 0 by omega), if_neg (show ¬ t = 0 by omega), if_pos q0, if_pos q0, e, cl_s]
    exact ⟨h', rfl, F', M', MmI.e Mm (fun a j c => by unfold MmC at c; rw [F.1 a (by omega) (by omega) (by omega)]), fun z => absurd q0 z, fun _ => L'⟩
  · have q' := q1
    obtain ⟨⟨p0, p1⟩, ⟨r0, r1⟩, hab⟩ := q'
    have db := Gd_d M.2.2.2 p0 (show x < 6 by omega) r0 (show y < 6 by omega)
    have tD : (f (6 * x + y)).tdiv 2 = f (6 * x + y) / 2 := Int.tdiv_eq_ediv_of_nonneg (by omega)
    have w22 : w32 2 = 2 := by decide
    have d2 : ∀ A : Option (Int × Hp), cD 2 A = A := fun A => cD_2 A
    have M6 := stm_49w M (v := f 49 - 2) (by omega) (by omega)
    have uD : ud f 49 (f 49 - 2) (6 * x + y) = f (6 * x + y) := ud_ne (by omega)
    generalize hf2 : ud f 49 (f 49 - 2) = f2 at M6 uD
    obtain ⟨h8, e8, F8, m8⟩ := Md_lays_e M6 (a := x) (b := y) (v := f (6 * x + y) - f (6 * x + y) / 2) p0 (by omega) r0 (by omega)
    have M8 := M6.ofW F8 m8 (Gd_lay M6.2.2.2 p0 (by omega) r0 (by omega) hab (by omega) (by omega))
    have Fw : On (fun a j => a = w ∧ j < 52) h h8 := (On.up ⟨rfl, by decide⟩).tr (FrW.aw F8)
    unfold Md_appeals
    rw [if_neg (show ¬ t = 0 by omega), if_neg (show ¬ t = 0 by omega), if_neg (show ¬ t = 1 by omega), if_neg (show ¬ t = 1 by omega), if_pos q0, if_pos q0, cX_s SH2024 (by omega) (by omega) (by decide), cX_s sw (by decide) (by decide) (by decide), cY_s sw (by omega) (by decide) (by decide) (by decide), rd_ge (by omega), r49, pu_s, Md_owes_e M6 p0 (by omega) r0 (by omega), cl_s, Md_owes_e M6 p0 (by omega) r0 (by omega), cl_s, uD, w32_n (x := f (6 * x + y)) (by omega) (by omega), w22, tD, d2, e8, cl_s, cl_s]
    exact ⟨h8, rfl, Fw.w (fun a j u => Or.inl u.1), M8, MmI.e Mm (Fw.e (fun a j u c => by unfold MmC at c; omega)), fun _ v v52 => Fw w v (fun u => by omega), fun z => absurd z (by omega)⟩
  · have q' := q1
    obtain ⟨⟨p0, p1⟩, ⟨r0, r1⟩, hab⟩ := q'
    have db := Gd_d M.2.2.2 p0 (show x < 6 by omega) r0 (show y < 6 by omega)
    have M6 := stm_49w M (v := f 49 - 4) (by omega) (by omega)
    generalize hf2 : ud f 49 (f 49 - 4) = f2 at M6
    obtain ⟨h8, e8, F8, m8⟩ := Md_lays_e M6 (a := x) (b := y) (v := 0) p0 (by omega) r0 (by omega)
    have M8 := M6.ofW F8 m8 (Gd_lay M6.2.2.2 p0 (by omega) r0 (by omega) hab (by decide) (by decide))
    have Fw : On (fun a j => a = w ∧ j < 52) h h8 := (On.up ⟨rfl, by decide⟩).tr (FrW.aw F8)
    unfold Md_pardons
    rw [if_neg (show ¬ t = 0 by omega), if_neg (show ¬ t = 0 by omega), if_neg (show ¬ t = 1 by omega), if_neg (show ¬ t = 1 by omega), if_neg (show ¬ t = 2 by omega), if_neg (show ¬ t = 2 by omega), cX_s SH2024 (by omega) (by omega) (by decide), cX_s sw (by decide) (by decide) (by decide), cY_s sw (by omega) (by decide) (by decide) (by decide), rd_ge (by omega), r49, pu_s, e8, cl_s, cl_s]
    exact ⟨h8, rfl, Fw.w (fun a j u => Or.inl u.1), M8, MmI.e Mm (Fw.e (fun a j u c => by unfold MmC at c; omega)), fun _ v v52 => Fw w v (fun u => by omega), fun z => absurd z (by omega)⟩
end C
end PureSteps2
