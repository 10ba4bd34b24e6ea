section PureRun
/-! RUN: a session gone through apart -/
section Q
variable {n W lc sc : Nat} {ru pd wd f0 : Int → Int} {ly : Nat → Pw} {k sn : Int}
theorem SsA.on {T : Int → Int → Prop} {h h' : Hp} {a : Int} {st : Sst} (S : SsA h a st) (F : On T h h') (d : ∀ j, ¬ T a j ∧ ¬ T (a + 1) j) : SsA h' a st := ⟨by rw [F a 1 (d 1).1]; exact S.1, fun j j0 j1 => by rw [F (a + 1) j (d j).2]; exact S.2 j j0 j1⟩
theorem wx_sc {x y : Int} (u : WC x y) : SCA x y := by
  rcases u with u | ⟨u1, u2, u3⟩
  · exact Or.inr (Or.inr (Or.inr (Or.inl u)))
  · exact Or.inr (Or.inr (Or.inr (Or.inr (Or.inr (Or.inr (Or.inr (Or.inr (Or.inl ⟨u1, u2, u3⟩))))))))
theorem sca_cx {h h' : Hp} (X : Cx h n W lc sc ru pd wd ly k) (F : On SC2 h h') : Cx h' n W lc sc ru pd wd ly k := X.on (F.w (fun _ _ t => Or.inr (Or.inl t)))
theorem tgs_sc : ∀ a j, Tgs 2033 a j → SC2 a j := fun a j t => by
  unfold Tgs MW at t
  unfold SC2
  rcases t with t | t | t | t | t | t | t
  · exact Or.inl (by unfold SCA; omega)
  · exact Or.inl (by unfold SCA; omega)
  · exact Or.inl (by unfold SCA; omega)
  · exact Or.inl (by unfold SCA; omega)
  · exact Or.inl (by unfold SCA; omega)
  · exact Or.inr (Or.inl t)
  · exact Or.inr (Or.inr t)
theorem stm_sc {h h' : Hp} {f : Int → Int} (M : StM h 2032 n f) (F : On SC2 h h') : StM h' 2032 n f := ⟨M.1, by rw [F 2000 26 (by unfold SC2 SCA; omega)]; exact M.2.1, by rw [mR_e (h := h) (fun j _ _ => F 2032 j (by unfold SC2 SCA; omega))]; exact M.2.2.1, M.2.2.2⟩
theorem runs (n0 : 0 < n) {a a1 what : Int} {st : Sst} (iN : IsN a) (sb : SsB st) (q0 : 0 ≤ a1) (q1 : a1 < 5) : ∀ (m i : Nat) (h : Hp) (f : Int → Int), i + m = st.1 → StA h 110 n f0 → StA h 130 n f → FB W f → Cx h n W lc sc ru pd wd ly k → SsA h a st → ∀ N, m < N → ∃ (h' : Hp) (r : Int), itr (fun k s => Cc_run_b55_body k s.1 s.2.1 s.2.2.1 s.2.2.2.1 s.2.2.2.2.1 s.2.2.2.2.2.1 s.2.2.2.2.2.2) N (h, 20, what, a, 130, (i : Int), (i : Int)) = some (r, h') ∧ On SCA h h' ∧ ∀ g : Hp, StM g 2032 n f0 → StM g 2033 n f → Cx g n W lc sc ru pd wd ly k → MmI g lc ly → (0 ≤ g 2033 52 ∧ g 2033 52 ≤ 60) → (∀ j : Int, 0 ≤ j → j < 3 * (st.1 : Int) → g 2024 (48 * a1 + j) = st.2 j) → g 2025 a1 = (st.1 : Int) → ∀ N', m < N' → ∃ g' : Hp, itr (fun k s => Md_run_b47_body k s.1 s.2.1 s.2.2.1 s.2.2.2.1 s.2.2.2.2) N' (g, 2000, a1, what, (i : Int)) = some (r, g') ∧ On SC2 g g' ∧ MmI g' lc ly := by
  have s16 := sb.1
  have c85 : ∀ (h : Hp) (f : Int → Int) (i : Nat), i ≤ st.1 → StA h 110 n f0 → StA h 130 n f → SsA h a st → Cc_run_b85 h 20 what a 130 (i : Int) = some (if w32 what = 1 then f 50 - f0 50 else if i = st.1 then -1 else (i : Int), h) := fun h f i hi A0 A S => by
    have x1 : h 130 7 = f 50 := by rw [← A.2.2.1]; exact cR_50.symm
    have x0 : h 110 7 = f0 50 := by rw [← A0.2.2.1]; exact cR_50.symm
    unfold Cc_run_b85
    by_cases c : w32 what = 1
    · rw [if_pos c, if_pos c, cC_s (IsS_sh A.1).1 rfl, cC_s SH20' rfl, cC_s (IsS_sh A0.1).1 rfl, x1, x0]
    · rw [if_neg c, if_neg c, cC_s (IsN_sh iN).1 rfl, S.1, w32_n (x := (i : Int)) (by omega) (by omega), w32_n (x := (st.1 : Int)) (by omega) (by omega)]
      by_cases e : i = st.1
      · rw [if_pos e, if_pos (by omega)]
      · rw [if_neg e, if_neg (by omega)]
  have m98 : ∀ (g : Hp) (f : Int → Int) (i : Nat), i ≤ st.1 → StM g 2032 n f0 → StM g 2033 n f → g 2025 a1 = (st.1 : Int) → Md_run_b98 g 2000 a1 what (i : Int) = some (if w32 what = 1 then f 50 - f0 50 else if i = st.1 then -1 else (i : Int), g) := fun g f i hi M0 M e25 => by
    unfold Md_run_b98
    by_cases c : w32 what = 1
    · rw [if_pos c, if_pos c, cC_s SH2000' rfl, cX_s SH2033 (by decide) (by decide) (by decide), cX_s SH2032' (by decide) (by decide) (by decide), rd_ge (by decide), rd_ge (by decide), M.rd (by decide) (by decide), M0.rd (by decide) (by decide)]
    · rw [if_neg c, if_neg c, cC_s SH2000' rfl, cX_s SH2025 q0 (by omega) (by decide), rd_ge (by decide), w32_n (x := a1) q0 (by omega), e25, w32_n (x := (i : Int)) (by omega) (by omega), w32_n (x := (st.1 : Int)) (by omega) (by omega)]
      by_cases e : i = st.1
      · rw [if_pos e, if_pos (by omega)]
      · rw [if_neg e, if_neg (by omega)]
  intro m
  induction m with
  | zero =>
    intro i h f im A0 A fb X S N hN
    obtain ⟨N, rfl⟩ : ∃ N' : Nat, N = N' + 1 := ⟨N - 1, by omega⟩
    refine ⟨h, (if w32 what = 1 then f 50 - f0 50 else if i = st.1 then -1 else (i : Int)), ?_, On.rf, fun g M0 M Xg Mm L e24 e25 N' hN' => ?_⟩
    · rw [itr_s]
      show Cc_run_b55_body _ h 20 what a 130 (i : Int) (i : Int) = _
      unfold Cc_run_b55_body
      rw [cC_s (IsN_sh iN).1 rfl, S.1, w32_n (x := (i : Int)) (by omega) (by omega), w32_n (x := (st.1 : Int)) (by omega) (by omega), if_neg (by omega)]
      exact c85 h f i (by omega) A0 A S
    · obtain ⟨N', rfl⟩ : ∃ N2 : Nat, N' = N2 + 1 := ⟨N' - 1, by omega⟩
      refine ⟨g, ?_, On.rf, Mm⟩
      rw [itr_s]
      show Md_run_b47_body _ g 2000 a1 what (i : Int) = _
      unfold Md_run_b47_body
      rw [cC_s SH2000' rfl, cX_s SH2025 q0 (by omega) (by decide), rd_ge (by decide), w32_n (x := a1) q0 (by omega), e25, w32_n (x := (i : Int)) (by omega) (by omega), w32_n (x := (st.1 : Int)) (by omega) (by omega), if_neg (by omega)]
      exact m98 g f i (by omega) M0 M e25
  | succ m ih =>
    intro i h f im A0 A fb X S N hN
    obtain ⟨N, rfl⟩ : ∃ N' : Nat, N = N' + 1 := ⟨N - 1, by omega⟩
    have hi : i < st.1 := by omega
    have tb : (0 ≤ st.2 (3 * (i : Int) + 0) ∧ st.2 (3 * (i : Int) + 0) ≤ 3) ∧ (-1 ≤ st.2 (3 * (i : Int) + 1) ∧ st.2 (3 * (i : Int) + 1) ≤ 9) ∧ (-1 ≤ st.2 (3 * (i : Int) + 2) ∧ st.2 (3 * (i : Int) + 2) ≤ 9) := sb.2 i hi
    have ei : ((i : Int) + 1) = ((i + 1 : Nat) : Int) := by omega
    have eT : 3 * (16 * a1 + (i : Int)) = 48 * a1 + (3 * (i : Int) + 0) := by omega
    have eT1 : 48 * a1 + (3 * (i : Int) + 0) + 1 = 48 * a1 + (3 * (i : Int) + 1) := by omega
    have eT2 : 48 * a1 + (3 * (i : Int) + 0) + 2 = 48 * a1 + (3 * (i : Int) + 2) := by omega
    by_cases q : okS n W f (st.2 (3 * (i : Int) + 0)) (st.2 (3 * (i : Int) + 1)) (st.2 (3 * (i : Int) + 2))
    · obtain ⟨h1, e1, F1, A1, -⟩ := c_step1 X n0 A fb iN S sb hi q
      have kk := stS_k (k := k) (ly := ly) X.1 A.2.2.2 fb q
      have F1' : On SCA h h1 := F1.w (fun x y t => t.elim (fun u => Or.inl (by unfold InS at u; omega)) (fun u => wx_sc u))
      have iN' := iN
      unfold IsN at iN'
      obtain ⟨h', r, e2, F2, R⟩ := ih (i + 1) h1 _ (by omega) (A0.on (Or.inr (Or.inl rfl)) F1') A1 kk.1 (sca_cx X (F1'.w (fun _ _ t => Or.inl t))) (S.on F1' (fun j => ⟨by unfold SCA; omega, by unfold SCA; omega⟩)) N (by omega)
      refine ⟨h', r, ?_, F1'.tr F2, fun g M0 M Xg Mm L e24 e25 N' hN' => ?_⟩
      · rw [itr_s]
        show Cc_run_b55_body _ h 20 what a 130 (i : Int) (i : Int) = _
        unfold Cc_run_b55_body
        rw [cC_s (IsN_sh iN).1 rfl, S.1, w32_n (x := (i : Int)) (by omega) (by omega), w32_n (x := (st.1 : Int)) (by omega) (by omega), if_pos (by omega), cC_s SH20' rfl, e1, cl_s, if_neg wn1, ei]
        exact e2
      · obtain ⟨N', rfl⟩ : ∃ N2 : Nat, N' = N2 + 1 := ⟨N' - 1, by omega⟩
        have m0 := e24 (3 * (i : Int) + 0) (by omega) (by omega)
        have m1 := e24 (3 * (i : Int) + 1) (by omega) (by omega)
        have m2 := e24 (3 * (i : Int) + 2) (by omega) (by omega)
        rw [← eT1] at m1
        rw [← eT2] at m2
        obtain ⟨g1, x1, G1, M1, Mm1, l0, l1⟩ := m_go Xg M Mm fb L m0 m1 m2 (by omega) (by omega) q tb
        have xc := (m_can Xg M fb m0 m1 m2 (by omega) (by omega) tb).1 q
        have G1' : On SC2 g g1 := G1.w tgs_sc
        have L1 : 0 ≤ g1 2033 52 ∧ g1 2033 52 ≤ 60 := by
          by_cases c : st.2 (3 * (i : Int) + 0) = 1
          · have := (l1 c).1; omega
          · have := l0 c 52 (by decide); omega
        obtain ⟨g', x2, G2, Mm2⟩ := R g1 (stm_sc M0 G1') M1 (sca_cx Xg G1') Mm1 L1 (fun j j0 j1 => by rw [G1 2024 _ (by unfold Tgs MW; omega)]; exact e24 j j0 j1) (by rw [G1 2025 _ (by unfold Tgs MW; omega)]; exact e25) N' (by omega)
        refine ⟨g', ?_, G1'.tr G2, Mm2⟩
        rw [itr_s]
        show Md_run_b47_body _ g 2000 a1 what (i : Int) = _
        unfold Md_run_b47_body
        rw [cC_s SH2000' rfl, cX_s SH2025 q0 (by omega) (by decide), rd_ge (by decide), w32_n (x := a1) q0 (by omega), e25, w32_n (x := (i : Int)) (by omega) (by omega), w32_n (x := (st.1 : Int)) (by omega) (by omega), if_pos (by omega), eT, xc, cl_s, if_neg wn1, x1, cl_s, ei]
        exact x2
    · refine ⟨h, (if w32 what = 1 then f 50 - f0 50 else if i = st.1 then -1 else (i : Int)), ?_, On.rf, fun g M0 M Xg Mm L e24 e25 N' hN' => ?_⟩
      · rw [itr_s]
        show Cc_run_b55_body _ h 20 what a 130 (i : Int) (i : Int) = _
        unfold Cc_run_b55_body
        rw [cC_s (IsN_sh iN).1 rfl, S.1, w32_n (x := (i : Int)) (by omega) (by omega), w32_n (x := (st.1 : Int)) (by omega) (by omega), if_pos (by omega), cC_s SH20' rfl, c_step0 X n0 A fb iN S sb hi q, cl_s, if_pos wz0]
        exact c85 h f i (by omega) A0 A S
      · obtain ⟨N', rfl⟩ : ∃ N2 : Nat, N' = N2 + 1 := ⟨N' - 1, by omega⟩
        have m0 := e24 (3 * (i : Int) + 0) (by omega) (by omega)
        have m1 := e24 (3 * (i : Int) + 1) (by omega) (by omega)
        have m2 := e24 (3 * (i : Int) + 2) (by omega) (by omega)
        rw [← eT1] at m1
        rw [← eT2] at m2
        have xc := (m_can Xg M fb m0 m1 m2 (by omega) (by omega) tb).2 q
        refine ⟨g, ?_, On.rf, Mm⟩
        rw [itr_s]
        show Md_run_b47_body _ g 2000 a1 what (i : Int) = _
        unfold Md_run_b47_body
        rw [cC_s SH2000' rfl, cX_s SH2025 q0 (by omega) (by decide), rd_ge (by decide), w32_n (x := a1) q0 (by omega), e25, w32_n (x := (i : Int)) (by omega) (by omega), w32_n (x := (st.1 : Int)) (by omega) (by omega), if_pos (by omega), eT, xc, cl_s, if_pos wz0]
        exact m98 g f i (by omega) M0 M e25
end Q
theorem So_run : S_run Inv := by
  intro h a1 a2 I i1 i2
  have I0 := I
  obtain ⟨n, W, lc, sc, ru, pd, wd, f, ly, k0, sn, J⟩ := I
  have J' := J
  obtain ⟨Tp, Ct, Lw, Lh, Mm, Ss, Sn, Nw, Lg, Td, Im, Pa, Gv, Rw⟩ := J'
  have Sm := SsI.t0 Ss
  have n6 := Ct.1.1.2.2
  have o26 : up h 2000 0 0 2000 26 = (n : Int) := by rw [up_off (by decide)]; exact Ct.2.1.1
  have no : ∃ (r2 : Int) (h2 : Hp), some ((-1000000 : Int), up h 2000 0 0) = some (r2, h2) ∧ w32 (-1000000) = w32 r2 ∧ Inv h2 := ⟨_, _, rfl, rfl, Inv.qs I0 t0_sc⟩
  unfold Cc_run Md_run
  rw [cC_s SH20' rfl]
  by_cases q : 0 ≤ a1 ∧ a1 < (sc : Int)
  · rw [(isS_1 Ss i1 q).1, cl_s, if_neg wn1]
    by_cases z : n = 0
    · rw [told0 Ct.1.1 z, cl_s, if_pos wz0]
      refine so_s ?_
      rw [cC_s SH2000' rfl, pu_s, (isS_1 Sm i1 q).2, cl_s, if_neg wn1, o26, w32_n (x := (n : Int)) (by omega) (by omega), if_pos (by omega)]
      exact no
    · rw [told1 Ct.1.1 z, cl_s, if_neg wn1, ri i2]
      by_cases c : 0 ≤ a2 ∧ a2 ≤ 1
      · have s4 := Ss.2.2.1
        obtain ⟨st, sb, s1, sa, m1, m2⟩ := Ss.2.2.2 a1.toNat (by omega)
        have ea : ((a1.toNat : Nat) : Int) = a1 := by omega
        rw [ea] at sa m1 m2
        have iN : IsN (1100 + 10 * a1) := ⟨by omega, by omega, by omega⟩
        obtain ⟨h1, e1, F1, A1⟩ := St_copy_e (s := 130) ⟨by decide, by decide, by decide⟩ Nw.1 (by decide)
        have F1' : On SCA h h1 := F1.on (fun a t k => Or.inl (by omega))
        have X1 : Cx h1 n W lc sc ru pd wd ly k0 := sca_cx ⟨Ct, Lw, Lh, Ss⟩ (F1'.w (fun _ _ t => Or.inl t))
        obtain ⟨h', r, e2, F2, R⟩ := runs (n := n) (W := W) (lc := lc) (sc := sc) (ru := ru) (pd := pd) (wd := wd) (ly := ly) (k := k0) (f0 := f) (what := a2) (by omega) iN sb q.1 (by omega) st.1 0 h1 f (by omega) (Nw.1.on (Or.inr (Or.inl rfl)) F1') A1 Nw.2.2 X1 (sa.on F1' (fun j => ⟨by unfold SCA; omega, by unfold SCA; omega⟩)) FU (FU_gt (by have := sb.1; omega))
        rw [if_neg (by omega), if_neg (by omega), sesAt_e h q.1 (by omega), cl_s, Cc_apartAt_e h (by decide) (by decide), cl_s]
        have e130 : (130 : Int) + 10 * 0 = 130 := rfl
        rw [e130, cC_s (IsS_sh A1.1).1 rfl, e1, cl_s]
        unfold Cc_run_b55
        have e2' : itr (fun k s => Cc_run_b55_body k s.1 s.2.1 s.2.2.1 s.2.2.2.1 s.2.2.2.2.1 s.2.2.2.2.2.1 s.2.2.2.2.2.2) FU (h1, 20, a2, 1100 + 10 * a1, 130, 0, 0) = some (r, h') := e2
        rw [e2']
        have Fg : On SCA h (up h' 2000 0 0) := (F1'.tr F2).tr t0_sc
        have Jg := J.qs Fg
        obtain ⟨g1, x1, G1, M1, z52⟩ := Md_copy_e Jg.2.2.2.2.2.2.2.1.2.1
        have G1' : On SCA (up h' 2000 0 0) g1 := fun a k t => by rw [G1 a (fun e => t (by unfold SCA; omega))]
        have Jg1 := Jg.qs G1'
        have Ss1 := Jg.2.2.2.2.2.1
        have Fgg := Fg.tr G1'
        obtain ⟨g', x2, G2, Mm2⟩ := R g1 Jg1.2.2.2.2.2.2.2.1.2.1 M1 ⟨Jg1.2.1, Jg1.2.2.1, Jg1.2.2.2.1, Jg1.2.2.2.2.2.1⟩ Jg1.2.2.2.2.1 (by rw [z52]; decide) (fun j j0 j1 => by rw [Fgg 2024 _ (by unfold SCA; omega)]; exact m2 j j0 j1) (by rw [Fgg 2025 _ (by unfold SCA; omega)]; exact m1) FU (FU_gt (by have := sb.1; omega))
        refine so_s ⟨r, g', ?_, rfl, ⟨n, W, lc, sc, ru, pd, wd, f, ly, k0, sn, Jg1.q G2 Mm2⟩⟩
        rw [cC_s SH2000' rfl, pu_s, (isS_1 Ss1 i1 q).2, cl_s, if_neg wn1, Jg.2.1.2.1.1, w32_n (x := (n : Int)) (by omega) (by omega), if_neg (by omega), isIn1 i2 I01.1 I01.2.1 c, cl_s, if_neg wn1, x1, cl_s]
        unfold Md_run_b47
        exact x2
      · have no2 : ∀ K : Option (Int × Hp), (if a2 < 0 then some ((-1000000 : Int), h) else if 1 < a2 then some ((-1000000 : Int), h) else K) = some ((-1000000 : Int), h) := fun K => by
          by_cases d : a2 < 0
          · rw [if_pos d]
          · rw [if_neg d, if_pos (by omega)]
        rw [no2]
        refine so_s ?_
        rw [cC_s SH2000' rfl, pu_s, (isS_1 Sm i1 q).2, cl_s, if_neg wn1, o26, w32_n (x := (n : Int)) (by omega) (by omega), if_neg (by omega), isIn0 i2 I01.1 I01.2.1 c, cl_s, if_pos wz0]
        exact no
  · rw [(isS_0 Ss i1 q).1, cl_s, if_pos wz0]
    refine so_s ?_
    rw [cC_s SH2000' rfl, pu_s, (isS_0 Sm i1 q).2, cl_s, if_pos wz0]
    exact no
end PureRun
