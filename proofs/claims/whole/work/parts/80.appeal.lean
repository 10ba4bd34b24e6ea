section PureAppeal
/-! APPEAL -/
theorem So_appeal : S_appeal Inv := by
  intro h a1 a2 I i1 i2
  obtain ⟨n, W, lc, sc, ru, pd, wd, f, ly, k0, sn, J⟩ := I
  have Nw := J.2.2.2.2.2.2.2.1
  have n6 := J.2.1.1.1.2.2
  obtain ⟨fst, acts, PF, h1, e1, J1, X, A1⟩ := act_open J
  have J10 := J1.qs (h' := up h1 2000 0 0) t0_sc
  have Nw1 := J1.2.2.2.2.2.2.2.1
  have Nw10 := J10.2.2.2.2.2.2.2.1
  have Ct1 := J1.2.1
  have s7 := (IsS_sh Nw.1.1).1
  have fb := Nw.2.2
  have f49 := fb.2.1
  have e6 : h1 110 6 = f 49 := by rw [← Nw1.1.2.2.1]; exact cR_49.symm
  have no : ∃ (r2 : Int) (h2 : Hp), some ((-1 : Int), up h1 2000 0 0) = some (r2, h2) ∧ w32 (-1) = w32 r2 ∧ Inv h2 := ⟨_, _, rfl, rfl, ⟨n, W, lc, sc, ru, pd, wd, f, ly, k0, sn, J10⟩⟩
  have o26 : up h1 2000 0 0 2000 26 = (n : Int) := by rw [up_off (by decide)]; exact Ct1.2.1.1
  have o49 : up h1 2000 0 0 2032 49 = f 49 := Nw10.2.1.rd (by decide) (by decide)
  unfold Cc_appeal Md_appeal Cc_appealIn Md_canAppeal
  rw [cC_s SH20' rfl, cC_s SH55 rfl, e1, cl_s, cC_s SH20' rfl]
  by_cases q : isT n a1 a2
  · have q' := q
    obtain ⟨⟨p0, p1⟩, ⟨r0, r1⟩, hab⟩ := q'
    have db := Gd_d Nw.1.2.2.2 p0 (show a1 < 6 by omega) r0 (show a2 < 6 by omega)
    have tD : (f (6 * a1 + a2)).tdiv 2 = f (6 * a1 + a2) / 2 := Int.tdiv_eq_ediv_of_nonneg (by omega)
    have w2 : w32 2 = 2 := by decide
    have d2 : ∀ A : Option (Int × Hp), cD 2 A = A := fun A => cD_2 A
    rw [c_T1 Ct1.1.1 i1 i2 q, cl_s, if_neg wn1, cC_s s7 rfl, St_owes_e Nw1.1 p0 (by omega) r0 (by omega), cl_s, w32_n (x := f (6 * a1 + a2)) (by omega) (by omega)]
    by_cases c : f (6 * a1 + a2) < 2
    · rw [if_pos c, cl_s, if_pos wz0]
      refine so_s ?_
      rw [cC_s SH2000' rfl, pu_s, cC_s SH2000' rfl, m_T1 o26 n6 i1 i2 q, cl_s, if_neg wn1, Md_owes_e Nw10.2.1 p0 (by omega) r0 (by omega), cl_s, w32_n (x := f (6 * a1 + a2)) (by omega) (by omega), if_pos c, cl_s, if_pos wz0]
      exact no
    · rw [if_neg c, e6, w32_n (x := f 49) (by omega) (by omega)]
      by_cases d : f 49 < 2
      · rw [if_pos d, cl_s, if_pos wz0]
        refine so_s ?_
        rw [cC_s SH2000' rfl, pu_s, cC_s SH2000' rfl, m_T1 o26 n6 i1 i2 q, cl_s, if_neg wn1, Md_owes_e Nw10.2.1 p0 (by omega) r0 (by omega), cl_s, w32_n (x := f (6 * a1 + a2)) (by omega) (by omega), if_neg c, cX_s SH2032' (by decide) (by decide) (by decide), rd_ge (by decide), o49, w32_n (x := f 49) (by omega) (by omega), if_pos d, cl_s, if_pos wz0]
        exact no
      · have S2 := sta_49 Nw1.1 (v := f 49 - 2) (by omega) (by omega)
        have uD : ud f 49 (f 49 - 2) (6 * a1 + a2) = f (6 * a1 + a2) := ud_ne (by omega)
        have ua : ud f 49 (f 49 - 2) 51 = f 51 ∧ ud f 49 (f 49 - 2) 48 = f 48 ∧ ud f 49 (f 49 - 2) 49 = f 49 - 2 := ⟨ud_ne (by decide), ud_ne (by decide), ud_at⟩
        generalize hf2 : ud f 49 (f 49 - 2) = f2 at S2 uD ua
        obtain ⟨h3, e3, F3, c3⟩ := St_owe_e S2 (a := a1) (b := a2) (m := -(f (6 * a1 + a2) / 2)) p0 (by omega) r0 (by omega) (by omega) (by omega)
        have eo : oweR f2 a1 a2 (-(f (6 * a1 + a2) / 2)) = layR f2 a1 a2 (f (6 * a1 + a2) - f (6 * a1 + a2) / 2) := by
          unfold oweR
          rw [uD, show min 99 (f (6 * a1 + a2) + -(f (6 * a1 + a2) / 2)) = f (6 * a1 + a2) - f (6 * a1 + a2) / 2 by omega]
        have S3 : StA h3 110 n (layR f2 a1 a2 (f (6 * a1 + a2) - f (6 * a1 + a2) / 2)) := ⟨S2.1, by rw [F3 110 (by omega)]; exact S2.2.1, c3.trans eo, Gd_lay S2.2.2.2 p0 (by omega) r0 (by omega) hab (by omega) (by omega)⟩
        obtain ⟨h4, e4, F4, y1, y2⟩ := keep_e2 (h := h3) (fst := fst) (acts := acts) (by rw [F3 55 (by omega), up_ne (by decide)]; exact X.1) (by rw [F3 55 (by omega), up_ne (by decide)]; exact X.2.1) X.2.2.2.1 X.2.2.2.2.1
        have S4 : StA h4 110 n (layR f2 a1 a2 (f (6 * a1 + a2) - f (6 * a1 + a2) / 2)) := S3.c (fun k _ _ => F4 110 k (by omega)) (fun j j0 j1 => F4.row (fun k => by omega))
        rw [if_neg d, pu_s, St_owes_e S2 p0 (by omega) r0 (by omega), cl_s, uD, w32_n (x := f (6 * a1 + a2)) (by omega) (by omega), w2, tD, d2, e3, cl_s, cl_s, if_neg wn1, e4, cl_s, cC_s s7 rfl, St_owes_e S4 p0 (by omega) r0 (by omega), cl_s]
        have Fc : On (fun a k => (110 ≤ a ∧ a ≤ 114) ∨ (a = 55 ∧ (k = 1 ∨ k = 2)) ∨ (a = 2000 ∧ k = 0)) h1 (up h4 2000 0 0) := (((On.up (h := h1) (a := 110) (i := 6) (v := f 49 - 2) (by omega)).tr (F3.on (fun a q k => by omega))).tr (F4.w (fun a k q => by omega))).tr (On.up (by omega))
        have S7 : StA (up h4 2000 0 0) 110 n (layR f2 a1 a2 (f (6 * a1 + a2) - f (6 * a1 + a2) / 2)) := S3.c (fun k _ _ => by rw [up_ne (by decide), F4 110 k (by omega)]) (fun j j0 j1 => by rw [up_off_row (by omega)]; exact F4.row (fun k => by omega))
        have x1 : ∀ k : Int, up h4 2000 0 0 55 k = h4 55 k := fun k => up_ne (by decide) k
        generalize hg : up h4 2000 0 0 = g0 at Fc S7 x1
        obtain ⟨h7, e7, F7, y42, r41, s41⟩ := remember_e (h := g0) (acts := acts) (by rw [Fc 2000 42 (by omega)]; exact X.2.2.1) X.2.2.2.2.1
        have q32 : ∀ k : Int, h7 2032 k = h1 2032 k := fun k => by rw [F7 2032 k (by omega), Fc 2032 k (by omega)]
        have M5 : StM h7 2032 n f := ⟨Nw1.2.1.1, by rw [F7 2000 26 (by omega), Fc 2000 26 (by omega)]; exact Nw1.2.1.2.1, by rw [mR_e (h := h1) (fun k _ _ => q32 k)]; exact Nw1.2.1.2.2.1, Nw1.2.1.2.2.2⟩
        have Mg : StM g0 2032 n f := ⟨Nw1.2.1.1, by rw [Fc 2000 26 (by omega)]; exact Nw1.2.1.2.1, by rw [mR_e (h := h1) (fun k _ _ => Fc 2032 k (by omega))]; exact Nw1.2.1.2.2.1, Nw1.2.1.2.2.2⟩
        have M6 := stm_49 M5 (v := f 49 - 2) (by omega) (by omega)
        rw [hf2] at M6
        obtain ⟨h8, e8, F8, m8⟩ := Md_lays_e M6 (a := a1) (b := a2) (v := f (6 * a1 + a2) - f (6 * a1 + a2) / 2) p0 (by omega) r0 (by omega)
        have M8 := M6.ofW F8 m8 (Gd_lay M6.2.2.2 p0 (by omega) r0 (by omega) hab (by omega) (by omega))
        have hh : ∀ k : Int, 36 ≤ k → layR f2 a1 a2 (f (6 * a1 + a2) - f (6 * a1 + a2) / 2) k = f2 k := fun k hk => lay_hi p0 (by omega) r0 (by omega) hk
        refine so_s ⟨_, h8, ?_, rfl, ⟨n, W, lc, sc, ru, pd, wd, _, ly, k0, sn, act_plain J1 X A1 Fc (by rw [x1]; exact y1) (by rw [x1]; exact y2) S7 F7 y42 r41 s41 ((On.up ⟨rfl, by decide⟩).tr (FrW.ac F8)) M8 ⟨by rw [hh 48 (by decide), ua.2.1]; exact fb.1, by rw [hh 49 (by decide), ua.2.2]; omega, by rw [hh 51 (by decide), ua.1]; exact fb.2.2⟩ ((hh 51 (by decide)).trans ua.1)⟩⟩
        unfold Md_appeals
        rw [cC_s SH2000' rfl, hg, pu_s, cC_s SH2000' rfl, m_T1 (by rw [Fc 2000 26 (by omega)]; exact Ct1.2.1.1) n6 i1 i2 q, cl_s, if_neg wn1, Md_owes_e Mg p0 (by omega) r0 (by omega), cl_s, w32_n (x := f (6 * a1 + a2)) (by omega) (by omega), if_neg c, cX_s SH2032' (by decide) (by decide) (by decide), rd_ge (by decide), Mg.rd (by decide) (by decide), w32_n (x := f 49) (by omega) (by omega), if_neg d, cl_s, if_neg wn1, e7, cl_s, cX_s SH2032' (by decide) (by decide) (by decide), cY_s SH2032' (by decide) (by decide) (by decide) (by decide), rd_ge (by decide), M5.rd (by decide) (by decide), pu_s, Md_owes_e M6 p0 (by omega) r0 (by omega), cl_s, Md_owes_e M6 p0 (by omega) r0 (by omega), cl_s, uD, w32_n (x := f (6 * a1 + a2)) (by omega) (by omega), w2, tD, d2, e8, cl_s, cl_s, Md_owes_e M8 p0 (by omega) r0 (by omega), cl_s]
  · rw [c_T0 Ct1.1.1 i1 i2 q, cl_s, if_pos wz0, cl_s, if_pos wz0]
    refine so_s ?_
    rw [cC_s SH2000' rfl, pu_s, cC_s SH2000' rfl, m_T0 o26 n6 i1 i2 q, cl_s, if_pos wz0, cl_s, if_pos wz0]
    exact no
end PureAppeal
