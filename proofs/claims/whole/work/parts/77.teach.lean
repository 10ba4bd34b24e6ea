section PureTeach
/-! TEACH -/
theorem Gd_bor {n : Nat} {f : Int → Int} (g : Gd n f) {p v : Int} (p0 : 0 ≤ p) (p1 : p < 6) (v0 : 0 ≤ v) (v1 : v ≤ 9) : Gd n (ud f (37 + 2 * p) v) := by
  obtain ⟨g1, g2, g3, g4, g5, g6, g7⟩ := g
  refine ⟨g1, fun k k0 k1 => ?_, fun c d c0 c1 d0 d1 => ?_, fun c c0 c1 => ?_, fun q q0 q1 => ?_, ?_, ?_⟩
  · rw [ud_ne (by omega)]; exact g2 k k0 k1
  · rw [ud_ne (by omega), ud_ne (by omega)]; exact g3 c d c0 c1 d0 d1
  · rw [ud_ne (by omega)]; exact g4 c c0 c1
  · rw [ud_ne (j := 36 + 2 * q) (by omega)]
    have h5 := g5 q q0 q1
    by_cases e : q = p
    · subst e
      rw [ud_at]
      exact ⟨h5.1, h5.2.1, v0, v1⟩
    · rw [ud_ne (by omega)]; exact h5
  · rw [ud_ne (by omega)]; exact g6
  · rw [ud_ne (by omega)]; exact g7
theorem So_teach : S_teach Inv := by
  intro h a1 I i1
  obtain ⟨n, W, lc, sc, ru, pd, wd, f, ly, k0, sn, J⟩ := I
  have J0 := J.qs (h' := up h 2000 0 0) t0_sc
  have Ct := J.2.1
  have Nw := J.2.2.2.2.2.2.2.1
  have n6 := Ct.1.1.2.2
  have s7 := (IsS_sh Nw.1.1).1
  have fb := Nw.2.2
  have f49 := fb.2.1
  have e6 : h 110 6 = f 49 := by rw [← Nw.1.2.2.1]; exact cR_49.symm
  have no : ∃ (r2 : Int) (h2 : Hp), some ((-1 : Int), up h 2000 0 0) = some (r2, h2) ∧ w32 (-1) = w32 r2 ∧ Inv h2 := ⟨_, _, rfl, rfl, ⟨n, W, lc, sc, ru, pd, wd, f, ly, k0, sn, J0⟩⟩
  have o26 : up h 2000 0 0 2000 26 = (n : Int) := by rw [up_off (by decide)]; exact Ct.2.1.1
  have o49 : up h 2000 0 0 2032 49 = f 49 := by rw [up_ne (by decide)]; exact Nw.2.1.rd (by decide) (by decide)
  unfold Cc_teach Md_teach
  rw [cC_s SH20' rfl]
  by_cases q : isP n a1
  · have q' : 0 ≤ a1 ∧ a1 < (n : Int) := q
    have bo := Gd_b Nw.1.2.2.2 q'.1 (by omega)
    have oB : up h 2000 0 0 2032 (37 + 2 * a1) = f (37 + 2 * a1) := by rw [up_ne (by decide)]; exact Nw.2.1.rd (by omega) (by omega)
    have ix : 36 + 2 * a1 + 1 = 37 + 2 * a1 := by omega
    rw [c_isP1 Ct.1.1 i1 q, cl_s, if_neg wn1, cC_s s7 rfl, e6, w32_n (x := f 49) (by omega) (by omega)]
    by_cases c : f 49 < 3
    · rw [if_pos c]
      refine so_s ?_
      rw [cC_s SH2000' rfl, pu_s, m_isP1 o26 n6 i1 q, cl_s, if_neg wn1, ix, cX_s SH2032' (by omega) (by omega) (by decide), rd_ge (by decide), w32_n (x := 37 + 2 * a1) (by omega) (by omega), oB, w32_n (x := f (37 + 2 * a1)) (by omega) (by omega)]
      by_cases d : f (37 + 2 * a1) = 0
      · rw [if_pos d]; exact no
      · rw [if_neg d, cX_s SH2032' (by decide) (by decide) (by decide), rd_ge (by decide), o49, w32_n (x := f 49) (by omega) (by omega), if_pos c]
        exact no
    · rw [if_neg c, St_boreOf_e Nw.1 q'.1 q'.2, cl_s, w32_n (x := f (37 + 2 * a1)) (by omega) (by omega)]
      by_cases d : f (37 + 2 * a1) = 0
      · rw [if_pos d]
        refine so_s ?_
        rw [cC_s SH2000' rfl, pu_s, m_isP1 o26 n6 i1 q, cl_s, if_neg wn1, ix, cX_s SH2032' (by omega) (by omega) (by decide), rd_ge (by decide), w32_n (x := 37 + 2 * a1) (by omega) (by omega), oB, w32_n (x := f (37 + 2 * a1)) (by omega) (by omega), if_pos d]
        exact no
      · obtain ⟨fst, acts, PF, h1, e1, J1, X, A1⟩ := act_open J
        have Nw1 := J1.2.2.2.2.2.2.2.1
        have Ct1 := J1.2.1
        obtain ⟨h3, e3, F3, y1, y2⟩ := keep_e2 X.1 X.2.1 X.2.2.2.1 X.2.2.2.2.1
        have S3 : StA h3 110 n f := Nw1.1.c (fun k _ _ => F3 110 k (by omega)) (fun j j0 j1 => F3.row (fun k => by omega))
        have e63 : h3 110 6 = f 49 := by rw [← S3.2.2.1]; exact cR_49.symm
        have S4 := sta_49 S3 (v := f 49 - 3) (by omega) (by omega)
        have ub : ud f 49 (f 49 - 3) (37 + 2 * a1) = f (37 + 2 * a1) := ud_ne (by omega)
        have S5 : StA (up (up h3 110 6 (f 49 - 3)) 113 a1 (f (37 + 2 * a1) - 1)) 110 n (ud (ud f 49 (f 49 - 3)) (37 + 2 * a1) (f (37 + 2 * a1) - 1)) := ⟨S4.1, by rw [up_ne (by decide)]; exact S4.2.1, by
          have cu := cR_ub (h := up h3 110 6 (f 49 - 3)) (s := 110) (p := a1) (v := f (37 + 2 * a1) - 1) q'.1 (by omega) (by rw [S4.2.1]; exact q'.2)
          have e113 : (110 : Int) + 3 = 113 := rfl
          rw [e113] at cu
          rw [cu, S4.2.2.1], Gd_bor S4.2.2.2 q'.1 (by omega) (by omega) (by omega)⟩
        have e113 : (110 : Int) + 3 = 113 := rfl
        have s113 : SH 113 = (100, 6) := (IsS_sh Nw.1.1).2.2.2.1
        rw [if_neg d, cC_s SH55 rfl, e1, cl_s, e3, cl_s, e63, pu_s, St_boreOf_e S4 q'.1 q'.2, cl_s, ub, e113, put_eq s113 (by decide) q'.1 (by omega) (by decide), cl_s, St_boreOf_e S5 q'.1 q'.2, cl_s, ud_at]
        have Fc : On (fun a k => (110 ≤ a ∧ a ≤ 114) ∨ (a = 55 ∧ (k = 1 ∨ k = 2)) ∨ (a = 2000 ∧ k = 0)) h1 (up (up (up h3 110 6 (f 49 - 3)) 113 a1 (f (37 + 2 * a1) - 1)) 2000 0 0) := (((F3.w (fun a k q => by omega)).tr (On.up (by omega))).tr (On.up (by omega))).tr (On.up (by omega))
        have S6 : StA (up (up (up h3 110 6 (f 49 - 3)) 113 a1 (f (37 + 2 * a1) - 1)) 2000 0 0) 110 n (ud (ud f 49 (f 49 - 3)) (37 + 2 * a1) (f (37 + 2 * a1) - 1)) := S5.c (fun k _ _ => up_ne (by decide) k) (fun j j0 j1 => up_off_row (by omega))
        have x1 : up (up (up h3 110 6 (f 49 - 3)) 113 a1 (f (37 + 2 * a1) - 1)) 2000 0 0 55 1 = h3 55 1 := by rw [up_ne (by decide), up_ne (by decide), up_ne (by decide)]
        have x2 : up (up (up h3 110 6 (f 49 - 3)) 113 a1 (f (37 + 2 * a1) - 1)) 2000 0 0 55 2 = h3 55 2 := by rw [up_ne (by decide), up_ne (by decide), up_ne (by decide)]
        generalize hg : up (up (up h3 110 6 (f 49 - 3)) 113 a1 (f (37 + 2 * a1) - 1)) 2000 0 0 = g0 at Fc S6 x1 x2
        obtain ⟨h5, e5, F5, y42, r41, s41⟩ := remember_e (h := g0) (acts := acts) (by rw [Fc 2000 42 (by omega)]; exact X.2.2.1) X.2.2.2.2.1
        have q32 : ∀ k : Int, h5 2032 k = h1 2032 k := fun k => by rw [F5 2032 k (by omega), Fc 2032 k (by omega)]
        have M5 : StM h5 2032 n f := ⟨Nw1.2.1.1, by rw [F5 2000 26 (by omega), Fc 2000 26 (by omega)]; exact Nw1.2.1.2.1, by rw [mR_e (h := h1) (fun k _ _ => q32 k)]; exact Nw1.2.1.2.2.1, Nw1.2.1.2.2.2⟩
        have gk : ∀ k : Int, 0 ≤ k → k < 52 → g0 2032 k = f k := fun k k0 k1 => by rw [Fc 2032 k (by omega)]; exact Nw1.2.1.rd k0 k1
        have M6 := stm_49 M5 (v := f 49 - 3) (by omega) (by omega)
        have M7 : StM (up (up h5 2032 49 (f 49 - 3)) 2032 (37 + 2 * a1) (f (37 + 2 * a1) - 1)) 2032 n (ud (ud f 49 (f 49 - 3)) (37 + 2 * a1) (f (37 + 2 * a1) - 1)) := ⟨M6.1, by rw [up_ne (by decide)]; exact M6.2.1, by rw [mR_up (by omega) (by omega), M6.2.2.1], Gd_bor M6.2.2.2 q'.1 (by omega) (by omega) (by omega)⟩
        refine so_s ⟨f (37 + 2 * a1) - 1, up (up h5 2032 49 (f 49 - 3)) 2032 (37 + 2 * a1) (f (37 + 2 * a1) - 1), ?_, rfl, ⟨n, W, lc, sc, ru, pd, wd, _, ly, k0, sn, act_plain J1 X A1 Fc (by rw [x1]; exact y1) (by rw [x2]; exact y2) S6 F5 y42 r41 s41 ((On.up ⟨rfl, by decide⟩).tr (On.up ⟨rfl, by omega⟩)) M7 ⟨by rw [ud_ne (by omega), ud_ne (by decide)]; exact fb.1, by rw [ud_ne (by omega), ud_at]; omega, by rw [ud_ne (by omega), ud_ne (by decide)]; exact fb.2.2⟩ (by rw [ud_ne (by omega), ud_ne (by decide)])⟩⟩
        have M6b : up h5 2032 49 (f 49 - 3) 2032 (37 + 2 * a1) = f (37 + 2 * a1) := by rw [up_off (by omega)]; exact M5.rd (by omega) (by omega)
        rw [cC_s SH2000' rfl, hg, pu_s, m_isP1 (by rw [Fc 2000 26 (by omega)]; exact Ct1.2.1.1) n6 i1 q, cl_s, if_neg wn1, ix, cX_s SH2032' (by omega) (by omega) (by decide), rd_ge (by decide), w32_n (x := 37 + 2 * a1) (by omega) (by omega), gk _ (by omega) (by omega), w32_n (x := f (37 + 2 * a1)) (by omega) (by omega), if_neg d, cX_s SH2032' (by decide) (by decide) (by decide), rd_ge (by decide), gk 49 (by decide) (by decide), w32_n (x := f 49) (by omega) (by omega), if_neg c, e5, cl_s, cX_s SH2032' (by decide) (by decide) (by decide), cY_s SH2032' (by decide) (by decide) (by decide) (by decide), rd_ge (by decide), M5.rd (by decide) (by decide), pu_s, cX_s SH2032' (by omega) (by omega) (by decide), cY_s SH2032' (by decide) (by omega) (by omega) (by decide), rd_ge (by decide), M6b, pu_s, cX_s SH2032' (by omega) (by omega) (by decide), rd_ge (by decide), up_at]
  · rw [c_isP0 Ct.1.1 i1 q, cl_s, if_pos wz0]
    refine so_s ?_
    rw [cC_s SH2000' rfl, pu_s, m_isP0 o26 n6 i1 q, cl_s, if_pos wz0]
    exact no
end PureTeach
