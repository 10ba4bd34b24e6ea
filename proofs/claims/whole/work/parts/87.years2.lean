section PureYears2
/-! YEARS: all of them -/
section Q
variable {n W lc sc : Nat} {ru pd wd : Int → Int} {ly : Nat → Pw} {k sn : Int}
theorem yrs (n0 : 0 < n) (s0 : 0 ≤ sn ∧ sn ≤ 9) {a1 : Int} (a30 : a1 ≤ 30) : ∀ (m : Nat) (i s : Int) (h : Hp) (f : Int → Int) (fst acts : Nat), StA h 110 n f → h 20 8 = sn → h 20 19 = s → h 55 1 = (fst : Int) → h 55 2 = (acts : Int) → fst < 41 → acts ≤ 40 → 0 ≤ i → i + (m : Int) = a1 → 0 ≤ f 51 → f 51 + (m : Int) ≤ 999 → ∀ N, m < N → ∃ (h' : Hp) (r : Int), itr (fun k s => Cc_years_b43_body k s.1 s.2.1 s.2.2.1 s.2.2.2) N (h, 20, a1, i) = some (r, h') ∧ (∀ a : Int, 2000 ≤ a → h' a = h a) ∧ ∀ g : Hp, IvP (mx h g) n W lc sc ru pd wd f ly k sn → g 2000 43 = s → ∀ N', m < N' → ∃ (g' : Hp) (f' : Int → Int), itr (fun k s => Md_years_b49_body k s.1 s.2.1 s.2.2.1 s.2.2.2) N' (g, 2000, a1, i) = some (r, g') ∧ (∀ a : Int, a < 2000 → g' a = g a) ∧ IvP (mx h' g') n W lc sc ru pd wd f' ly k sn := by
  intro m
  induction m with
  | zero =>
    intro i s h f fst acts A h8 h19 p1 p2 p4 p5 i0 im f0 f9 N hN
    obtain ⟨N, rfl⟩ : ∃ N' : Nat, N = N' + 1 := ⟨N - 1, by omega⟩
    refine ⟨h, f 51, ?_, fun a _ => rfl, fun g I g43 N' hN' => ?_⟩
    · rw [itr_s]
      show Cc_years_b43_body _ h 20 a1 i = _
      unfold Cc_years_b43_body
      rw [if_neg (by rw [w32_n (x := i) (by omega) (by omega), w32_n (x := a1) (by omega) (by omega)]; omega), cC_s SH20' rfl, cC_s (IsS_sh A.1).1 rfl, sta_e A]
    · obtain ⟨N', rfl⟩ : ∃ N2 : Nat, N' = N2 + 1 := ⟨N' - 1, by omega⟩
      have M : StM g 2032 n f := sm_mx (by decide) I.2.2.2.2.2.2.2.1.2.1
      refine ⟨g, f, ?_, fun a _ => rfl, I⟩
      rw [itr_s]
      show Md_years_b49_body _ g 2000 a1 i = _
      unfold Md_years_b49_body
      rw [if_neg (by rw [w32_n (x := i) (by omega) (by omega), w32_n (x := a1) (by omega) (by omega)]; omega), cC_s SH2000' rfl, cX_s SH2032' (by decide) (by decide) (by decide), rd_ge (by decide), M.rd (by decide) (by decide)]
  | succ m ih =>
    intro i s h f fst acts A h8 h19 p1 p2 p4 p5 i0 im f0 f9 N hN
    obtain ⟨N, rfl⟩ : ∃ N' : Nat, N = N' + 1 := ⟨N - 1, by omega⟩
    have n6 := A.2.2.2.1
    have hx : w32 i < w32 a1 := by rw [w32_n (x := i) (by omega) (by omega), w32_n (x := a1) (by omega) (by omega)]; omega
    obtain ⟨h1, hh, v, e1, F1, S1, Fc, y19, A', y1, y2, en, c61⟩ := yr_c A n0 h8 s0 p1 p2 p4 p5 ⟨f0, by omega⟩ hx
    rw [h19] at y19 A' en
    have kk := yrR_k (f := f) (sn := sn) (s := s) n0 n6
    have b := paA_b fst acts
    have F20 : hh 20 8 = sn := by rw [Fc 20 8 (by unfold Tyc; omega), F1 20 (by omega)]; exact h8
    have f41 : (if acts = 40 then (fst + 1) % 41 else fst) < 41 := by
      by_cases c : acts = 40
      · rw [if_pos c]; exact Nat.mod_lt _ (by decide)
      · rw [if_neg c]; exact p4
    have a40 : (if acts = 40 then 40 else acts + 1) ≤ 40 := by
      by_cases c : acts = 40
      · rw [if_pos c]; exact Nat.le_refl _
      · rw [if_neg c]; omega
    obtain ⟨h', r, e2, G2, R⟩ := ih (i + 1) (siV n sn s f).1 hh (yrR n sn s f) _ _ A' F20 y19 y1 y2 f41 a40 (by omega) (by omega) (by rw [kk.2.2]; omega) (by rw [kk.2.2]; omega) N (by omega)
    refine ⟨h', r, ?_, fun a a0 => ?_, fun g I g43 N' hN' => ?_⟩
    · rw [itr_s]
      show Cc_years_b43_body _ h 20 a1 i = _
      rw [e1]
      exact e2
    · rw [G2 a a0]
      funext k
      rw [Fc a k (by unfold Tyc; omega), F1 a (by omega)]
    · obtain ⟨N', rfl⟩ : ∃ N2 : Nat, N' = N2 + 1 := ⟨N' - 1, by omega⟩
      have M : StM g 2032 n f := sm_mx (by decide) I.2.2.2.2.2.2.2.1.2.1
      have fb := I.2.2.2.2.2.2.2.1.2.2
      have Lg : LG (h 61) (g 2032) (f 51) := by
        have t := I.2.2.2.2.2.2.2.2.1
        rw [mx_lo (by decide), mx_hi (by decide)] at t
        exact t
      obtain ⟨PF, X⟩ := pax_of I (fst := fst) (acts := acts) (by rw [mx_lo (by decide)]; exact p1) (by rw [mx_lo (by decide)]; exact p2)
      have p42 : g 2000 42 = (acts : Int) := by
        have t := X.2.2.1
        rw [mx_hi (by decide)] at t
        exact t
      have g35 : g 2000 35 = sn := by
        have t := I.2.2.2.2.2.2.1.2.1
        rw [mx_hi (by decide)] at t
        exact t
      obtain ⟨g1, e3, G3, z43, M3, z42, r41, s41, L3⟩ := yr_m (x1 := a1) (x4 := i) M n0 g35 s0 p42 p5 ⟨f0, by omega⟩ Lg.1 hx
      rw [g43] at z43 M3 L3
      have r61 : ∀ x : Int, x ≤ f 51 → hh 61 x = h1 61 x := fun x hx => by rw [c61, if_neg (by omega)]
      have r61' : ∀ x : Int, h1 61 x = h 61 x := fun x => by rw [F1 61 (by omega)]
      have lg : LG (hh 61) (g1 2032) (yrR n sn s f 51) := by
        rw [kk.2.2]
        exact L3 (h 61) (hh 61) Lg (by rw [c61, if_pos rfl]; exact en) (fun x hx => by rw [r61 x hx, r61'])
      have Mm1 : MmI (mx hh g1) lc ly := MmI.e I.2.2.2.2.1 (fun a k c => by
        have c' := c
        unfold MmC at c'
        rw [mx_hi (by omega), mx_hi (by omega), G3 a k (by unfold Tym; omega)])
      have I1 : IvP (mx hh g1) n W lc sc ru pd wd (yrR n sn s f) ly k sn := act_mx I p1 p2 F1 S1 (Fc.w (fun a k t => by
        unfold Tyc at t
        by_cases c : a = 20
        · exact Or.inr (Or.inl (by unfold SCA; omega))
        · exact Or.inl (by unfold Tac; omega))) (G3.w (fun a k t => by
        unfold Tym at t
        by_cases c : a = 2000 ∧ k = 43
        · exact Or.inr (Or.inl (by unfold SCA; omega))
        · exact Or.inl (by unfold Tac; omega))) Mm1 A' M3 ⟨by rw [kk.1]; exact fb.1, by rw [kk.2.1]; exact fb.2.1, by rw [kk.2.2]; omega⟩ lg y1 y2 z42 r41 s41 r61 (by rw [kk.2.2]; omega)
      obtain ⟨g', f', e4, G4, I4⟩ := R g1 I1 z43 N' (by omega)
      refine ⟨g', f', ?_, fun a a0 => ?_, I4⟩
      · rw [itr_s]
        show Md_years_b49_body _ g 2000 a1 i = _
        rw [e3]
        exact e4
      · rw [G4 a a0]
        funext k
        rw [G3 a k (by unfold Tym; omega)]
end Q
theorem So_years : S_years Inv := by
  intro h a1 a2 I i1 i2
  obtain ⟨n, W, lc, sc, ru, pd, wd, f, ly, k0, sn, J⟩ := I
  have Ct := J.2.1
  have Nw := J.2.2.2.2.2.2.2.1
  have Sn := J.2.2.2.2.2.2.1
  have n6 := Ct.1.1.2.2
  have s7 := (IsS_sh Nw.1.1).1
  have e8 : h 110 8 = f 51 := sta_e Nw.1
  have fb := Nw.2.2
  have f51 := fb.2.2
  have J0 := J.qs (h' := up h 2000 0 0) t0_sc
  have no : ∃ (r2 : Int) (h2 : Hp), some ((-1 : Int), up h 2000 0 0) = some (r2, h2) ∧ w32 (-1) = w32 r2 ∧ Inv h2 := ⟨_, _, rfl, rfl, ⟨n, W, lc, sc, ru, pd, wd, f, ly, k0, sn, J0⟩⟩
  have o26 : up h 2000 0 0 2000 26 = (n : Int) := by rw [up_off (by decide)]; exact Ct.2.1.1
  have o51 : up h 2000 0 0 2032 51 = f 51 := by rw [up_ne (by decide)]; exact Nw.2.1.rd (by decide) (by decide)
  have i30 : ∀ g : Hp, ir 1 ∧ ir 30 := fun _ => ⟨⟨by decide, by decide⟩, ⟨by decide, by decide⟩⟩
  unfold Cc_years Md_years
  rw [cC_s SH20' rfl]
  by_cases z : n = 0
  · rw [told0 Ct.1.1 z, cl_s, if_pos wz0]
    refine so_s ?_
    rw [cC_s SH2000' rfl, pu_s, o26, w32_n (x := (n : Int)) (by omega) (by omega), if_pos (by omega)]
    exact no
  · rw [told1 Ct.1.1 z, cl_s, if_neg wn1, ri i1]
    by_cases c : 1 ≤ a1 ∧ a1 ≤ 30
    · rw [if_neg (by omega), if_neg (by omega), cC_s s7 rfl, e8, w32_n (x := f 51 + a1) (by omega) (by omega)]
      by_cases d : 999 < f 51 + a1
      · rw [if_pos d]
        refine so_s ?_
        rw [cC_s SH2000' rfl, pu_s, o26, w32_n (x := (n : Int)) (by omega) (by omega), if_neg (by omega), isIn1 i1 (i30 h).1 (i30 h).2 c, cl_s, if_neg wn1, cX_s SH2032' (by decide) (by decide) (by decide), rd_ge (by decide), o51, w32_n (x := f 51 + a1) (by omega) (by omega), if_pos d]
        exact no
      · obtain ⟨m, hm⟩ : ∃ m : Nat, (m : Int) = a1 := ⟨a1.toNat, by omega⟩
        have J2 := J.qs (h' := up h 20 19 a2) (On.up (by unfold SCA; omega))
        obtain ⟨fst, acts, PF, X⟩ := J2.2.2.2.2.2.2.2.2.2.2.2.1
        obtain ⟨h', r, e1, G1, R⟩ := yrs (n := n) (W := W) (lc := lc) (sc := sc) (ru := ru) (pd := pd) (wd := wd) (ly := ly) (k := k0) (sn := sn) (by omega) Sn.2.2 c.2 m 0 a2 (up h 20 19 a2) f fst acts J2.2.2.2.2.2.2.2.1.1 J2.2.2.2.2.2.2.1.1 up_at X.1 X.2.1 X.2.2.2.1 X.2.2.2.2.1 (by decide) (by omega) fb.2.2.1 (by omega) FU (FU_gt (by omega))
        rw [if_neg d, pu_s]
        unfold Cc_years_b43
        rw [e1]
        have o26' : up h' 2000 0 0 2000 26 = (n : Int) := by rw [up_off (by decide), G1 2000 (by decide)]; exact J2.2.1.2.1.1
        have o51' : up h' 2000 0 0 2032 51 = f 51 := by rw [up_ne (by decide), G1 2032 (by decide)]; exact J2.2.2.2.2.2.2.2.1.2.1.rd (by decide) (by decide)
        have Ig : IvP (mx (up h 20 19 a2) (up (up h' 2000 0 0) 2000 43 a2)) n W lc sc ru pd wd f ly k0 sn := J2.qs (fun a k t => by
          by_cases c : a < 2000
          · rw [mx_lo c]
          · rw [mx_hi (by omega)]
            by_cases e : a = 2000
            · subst e
              rw [up_off (fun e => t (by unfold SCA; omega)), up_off (fun e => t (by unfold SCA; omega)), G1 2000 (by decide)]
            · rw [up_ne e, up_ne e, G1 a (by omega)])
        obtain ⟨g', f', e2, G2, I2⟩ := R (up (up h' 2000 0 0) 2000 43 a2) Ig up_at FU (FU_gt (by omega))
        refine so_s ⟨r, g', ?_, rfl, ⟨n, W, lc, sc, ru, pd, wd, f', ly, k0, sn, ?_⟩⟩
        · rw [cC_s SH2000' rfl, pu_s, o26', w32_n (x := (n : Int)) (by omega) (by omega), if_neg (by omega), isIn1 i1 (i30 h).1 (i30 h).2 c, cl_s, if_neg wn1, cX_s SH2032' (by decide) (by decide) (by decide), rd_ge (by decide), o51', w32_n (x := f 51 + a1) (by omega) (by omega), if_neg d, pu_s]
          unfold Md_years_b49
          exact e2
        · rw [mx_re (h := h') (g := g') (fun a a0 => by rw [G2 a a0, up_off_row (by omega), up_off_row (by omega)])] at I2
          exact I2
    · have no2 : (if a1 < 1 then some ((-1 : Int), h) else if 30 < a1 then some ((-1 : Int), h) else cC 7 110 (if 999 < w32 ((h 110 8) + a1) then some ((-1), h) else pu (up h 20 19 a2) (fun h6 => Cc_years_b43 h6 20 a1 0))) = some ((-1 : Int), h) := by
        by_cases d : a1 < 1
        · rw [if_pos d]
        · rw [if_neg d, if_pos (by omega)]
      rw [no2]
      refine so_s ?_
      rw [cC_s SH2000' rfl, pu_s, o26, w32_n (x := (n : Int)) (by omega) (by omega), if_neg (by omega), isIn0 i1 (i30 h).1 (i30 h).2 c, cl_s, if_pos wz0]
      exact no
end PureYears2
