section PureLunch
/-! LUNCH -/
theorem two_l {x : Int} (x0 : 0 ≤ x) (x1 : x ≤ 9) : (if 0 < w32 (x - 2) then (x - 2) else 0) = max 0 (x - 2) := by
  rw [w32_id (x := x - 2) (by omega) (by omega)]
  by_cases c : 0 < x - 2
  · rw [if_pos c]; omega
  · rw [if_neg c]; omega
theorem stm_lon {h : Hp} {n : Nat} {f : Int → Int} (M : StM h 2032 n f) {p v : Int} (p0 : 0 ≤ p) (p1 : p < 6) (v0 : 0 ≤ v) (v1 : v ≤ 9) : StM (up h 2032 (36 + 2 * p) v) 2032 n (ud f (36 + 2 * p) v) := ⟨M.1, by rw [up_ne (by decide)]; exact M.2.1, by rw [mR_up (by omega) (by omega), M.2.2.1], Gd_lon M.2.2.2 p0 p1 v0 v1⟩
theorem So_lunch : S_lunch Inv := by
  intro h a1 a2 I i1 i2
  obtain ⟨n, W, lc, sc, ru, pd, wd, f, ly, k0, sn, J⟩ := I
  have J0 := J.qs (h' := up h 2000 0 0) t0_sc
  have Ct := J.2.1
  have Nw := J.2.2.2.2.2.2.2.1
  have Nw0 := J0.2.2.2.2.2.2.2.1
  have n6 := Ct.1.1.2.2
  have s7 := (IsS_sh Nw.1.1).1
  have fb := Nw.2.2
  have f49 := fb.2.1
  have e6 : h 110 6 = f 49 := by rw [← Nw.1.2.2.1]; exact cR_49.symm
  have no : ∃ (r2 : Int) (h2 : Hp), some ((-1 : Int), up h 2000 0 0) = some (r2, h2) ∧ w32 (-1) = w32 r2 ∧ Inv h2 := ⟨_, _, rfl, rfl, ⟨n, W, lc, sc, ru, pd, wd, f, ly, k0, sn, J0⟩⟩
  have o26 : up h 2000 0 0 2000 26 = (n : Int) := by rw [up_off (by decide)]; exact Ct.2.1.1
  have o49 : up h 2000 0 0 2032 49 = f 49 := by rw [up_ne (by decide)]; exact Nw.2.1.rd (by decide) (by decide)
  unfold Cc_lunch Md_lunch
  rw [cC_s SH20' rfl]
  by_cases q : isT n a1 a2
  · have q' := q
    obtain ⟨⟨p0, p1⟩, ⟨r0, r1⟩, -⟩ := q'
    have l1 := Gd_l Nw.1.2.2.2 p0 (by omega)
    have l2 := Gd_l Nw.1.2.2.2 r0 (by omega)
    rw [c_T1 Ct.1.1 i1 i2 q, cl_s, if_neg wn1, cC_s s7 rfl, e6, w32_n (x := f 49) (by omega) (by omega)]
    by_cases c : f 49 < 1
    · rw [if_pos c]
      refine so_s ?_
      rw [cC_s SH2000' rfl, pu_s, m_T1 o26 n6 i1 i2 q, cl_s, if_neg wn1, Md_lonely_e Nw0.2.1 p0 (by omega), cl_s, Md_lonely_e Nw0.2.1 r0 (by omega), cl_s, w32_n (x := f (36 + 2 * a1) + f (36 + 2 * a2)) (by omega) (by omega)]
      by_cases d : f (36 + 2 * a1) + f (36 + 2 * a2) = 0
      · rw [if_pos d]; exact no
      · rw [if_neg d, cX_s SH2032' (by decide) (by decide) (by decide), rd_ge (by decide), o49, w32_n (x := f 49) (by omega) (by omega), if_pos c]
        exact no
    · rw [if_neg c, St_lonelyOf_e Nw.1 p0 p1, cl_s, St_lonelyOf_e Nw.1 r0 r1, cl_s, w32_n (x := f (36 + 2 * a1) + f (36 + 2 * a2)) (by omega) (by omega)]
      by_cases d : f (36 + 2 * a1) + f (36 + 2 * a2) = 0
      · rw [if_pos d]
        refine so_s ?_
        rw [cC_s SH2000' rfl, pu_s, m_T1 o26 n6 i1 i2 q, cl_s, if_neg wn1, Md_lonely_e Nw0.2.1 p0 (by omega), cl_s, Md_lonely_e Nw0.2.1 r0 (by omega), cl_s, w32_n (x := f (36 + 2 * a1) + f (36 + 2 * a2)) (by omega) (by omega), if_pos d]
        exact no
      · obtain ⟨fst, acts, PF, h1, e1, J1, X, A1⟩ := act_open J
        have Nw1 := J1.2.2.2.2.2.2.2.1
        have Ct1 := J1.2.1
        obtain ⟨h3, e3, F3, y1, y2⟩ := keep_e2 X.1 X.2.1 X.2.2.2.1 X.2.2.2.2.1
        have S3 : StA h3 110 n f := Nw1.1.c (fun k _ _ => F3 110 k (by omega)) (fun j j0 j1 => F3.row (fun k => by omega))
        have e63 : h3 110 6 = f 49 := by rw [← S3.2.2.1]; exact cR_49.symm
        have S4 := sta_49 S3 (v := f 49 - 1) (by omega) (by omega)
        have ua : ud f 49 (f 49 - 1) 51 = f 51 ∧ ud f 49 (f 49 - 1) 48 = f 48 ∧ ud f 49 (f 49 - 1) 49 = f 49 - 1 := ⟨ud_ne (by decide), ud_ne (by decide), ud_at⟩
        generalize hf4 : ud f 49 (f 49 - 1) = f4 at S4 ua
        obtain ⟨h5, e5, F5, c5⟩ := St_cheer_e S4 p0 p1 (m := 2) (by decide) (by decide)
        have m4 := Gd_l S4.2.2.2 p0 (by omega)
        have S5 : StA h5 110 n (ud f4 (36 + 2 * a1) (max 0 (f4 (36 + 2 * a1) - 2))) := ⟨S4.1, by rw [F5 110 (by omega)]; exact S4.2.1, c5, Gd_lon S4.2.2.2 p0 (by omega) (by omega) (by omega)⟩
        have ub : ud f4 (36 + 2 * a1) (max 0 (f4 (36 + 2 * a1) - 2)) 51 = f 51 ∧ ud f4 (36 + 2 * a1) (max 0 (f4 (36 + 2 * a1) - 2)) 48 = f 48 ∧ ud f4 (36 + 2 * a1) (max 0 (f4 (36 + 2 * a1) - 2)) 49 = f 49 - 1 := ⟨by rw [ud_ne (by omega)]; exact ua.1, by rw [ud_ne (by omega)]; exact ua.2.1, by rw [ud_ne (by omega)]; exact ua.2.2⟩
        generalize hf5 : ud f4 (36 + 2 * a1) (max 0 (f4 (36 + 2 * a1) - 2)) = f5 at S5 ub
        obtain ⟨h6, e6', F6, c6⟩ := St_cheer_e S5 r0 r1 (m := 2) (by decide) (by decide)
        have m5 := Gd_l S5.2.2.2 r0 (by omega)
        have S6 : StA h6 110 n (ud f5 (36 + 2 * a2) (max 0 (f5 (36 + 2 * a2) - 2))) := ⟨S5.1, by rw [F6 110 (by omega)]; exact S5.2.1, c6, Gd_lon S5.2.2.2 r0 (by omega) (by omega) (by omega)⟩
        have uc : ud f5 (36 + 2 * a2) (max 0 (f5 (36 + 2 * a2) - 2)) 51 = f 51 ∧ ud f5 (36 + 2 * a2) (max 0 (f5 (36 + 2 * a2) - 2)) 48 = f 48 ∧ ud f5 (36 + 2 * a2) (max 0 (f5 (36 + 2 * a2) - 2)) 49 = f 49 - 1 := ⟨by rw [ud_ne (by omega)]; exact ub.1, by rw [ud_ne (by omega)]; exact ub.2.1, by rw [ud_ne (by omega)]; exact ub.2.2⟩
        rw [if_neg d, cC_s SH55 rfl, e1, cl_s, e3, cl_s, e63, pu_s, e5, cl_s, e6', cl_s, St_lonelyOf_e S6 p0 p1, cl_s]
        have Fc : On (fun a k => (110 ≤ a ∧ a ≤ 114) ∨ (a = 55 ∧ (k = 1 ∨ k = 2)) ∨ (a = 2000 ∧ k = 0)) h1 (up h6 2000 0 0) := ((((F3.w (fun a k q => by omega)).tr (On.up (by omega))).tr (F5.on (fun a q k => by omega))).tr (F6.on (fun a q k => by omega))).tr (On.up (by omega))
        have S7 : StA (up h6 2000 0 0) 110 n (ud f5 (36 + 2 * a2) (max 0 (f5 (36 + 2 * a2) - 2))) := S6.c (fun k _ _ => up_ne (by decide) k) (fun j j0 j1 => up_off_row (by omega))
        have x1 : ∀ k : Int, up h6 2000 0 0 55 k = h3 55 k := fun k => by rw [up_ne (by decide), F6 55 (by omega), F5 55 (by omega), up_ne (by decide)]
        generalize hg : up h6 2000 0 0 = g0 at Fc S7 x1
        obtain ⟨h7, e7, F7, y42, r41, s41⟩ := remember_e (h := g0) (acts := acts) (by rw [Fc 2000 42 (by omega)]; exact X.2.2.1) X.2.2.2.2.1
        have q32 : ∀ k : Int, h7 2032 k = h1 2032 k := fun k => by rw [F7 2032 k (by omega), Fc 2032 k (by omega)]
        have M5 : StM h7 2032 n f := ⟨Nw1.2.1.1, by rw [F7 2000 26 (by omega), Fc 2000 26 (by omega)]; exact Nw1.2.1.2.1, by rw [mR_e (h := h1) (fun k _ _ => q32 k)]; exact Nw1.2.1.2.2.1, Nw1.2.1.2.2.2⟩
        have Mg : StM g0 2032 n f := ⟨Nw1.2.1.1, by rw [Fc 2000 26 (by omega)]; exact Nw1.2.1.2.1, by rw [mR_e (h := h1) (fun k _ _ => Fc 2032 k (by omega))]; exact Nw1.2.1.2.2.1, Nw1.2.1.2.2.2⟩
        have M6 := stm_49 M5 (v := f 49 - 1) (by omega) (by omega)
        rw [hf4] at M6
        have M7 := stm_lon M6 (p := a1) (v := max 0 (f4 (36 + 2 * a1) - 2)) p0 (by omega) (by omega) (by omega)
        rw [hf5] at M7
        have M8 := stm_lon M7 (p := a2) (v := max 0 (f5 (36 + 2 * a2) - 2)) r0 (by omega) (by omega) (by omega)
        refine so_s ⟨_, _, ?_, rfl, ⟨n, W, lc, sc, ru, pd, wd, _, ly, k0, sn, act_plain J1 X A1 Fc (by rw [x1]; exact y1) (by rw [x1]; exact y2) S7 F7 y42 r41 s41 (((On.up (h := h7) (a := 2032) (i := 49) (v := f 49 - 1) ⟨rfl, by decide⟩).tr (On.up (a := 2032) (i := 36 + 2 * a1) (v := max 0 (f4 (36 + 2 * a1) - 2)) ⟨rfl, by omega⟩)).tr (On.up (a := 2032) (i := 36 + 2 * a2) (v := max 0 (f5 (36 + 2 * a2) - 2)) ⟨rfl, by omega⟩)) M8 ⟨by rw [uc.2.1]; exact fb.1, by rw [uc.2.2]; omega, by rw [uc.1]; exact fb.2.2⟩ uc.1⟩⟩
        rw [cC_s SH2000' rfl, hg, pu_s, m_T1 (by rw [Fc 2000 26 (by omega)]; exact Ct1.2.1.1) n6 i1 i2 q, cl_s, if_neg wn1, Md_lonely_e Mg p0 (by omega), cl_s, Md_lonely_e Mg r0 (by omega), cl_s, w32_n (x := f (36 + 2 * a1) + f (36 + 2 * a2)) (by omega) (by omega), if_neg d, cX_s SH2032' (by decide) (by decide) (by decide), rd_ge (by decide), Mg.rd (by decide) (by decide), w32_n (x := f 49) (by omega) (by omega), if_neg c, e7, cl_s, cX_s SH2032' (by decide) (by decide) (by decide), cY_s SH2032' (by decide) (by decide) (by decide) (by decide), rd_ge (by decide), M5.rd (by decide) (by decide), pu_s, Md_lonely_e M6 p0 (by omega), cl_s, Int.add_zero, cY_s SH2032' (by decide) (by omega) (by omega) (by decide), w32_n (x := 36 + 2 * a1) (by omega) (by omega), two_l m4.1 m4.2, pu_s, Md_lonely_e M7 r0 (by omega), cl_s, Int.add_zero, cY_s SH2032' (by decide) (by omega) (by omega) (by decide), w32_n (x := 36 + 2 * a2) (by omega) (by omega), two_l m5.1 m5.2, pu_s, Md_lonely_e M8 p0 (by omega), cl_s]
  · rw [c_T0 Ct.1.1 i1 i2 q, cl_s, if_pos wz0]
    refine so_s ?_
    rw [cC_s SH2000' rfl, pu_s, m_T0 o26 n6 i1 i2 q, cl_s, if_pos wz0]
    exact no
end PureLunch
