section PureWorthM
/-! the reference's worth, with its memory -/
variable {h h' : Hp} {n W lc : Nat} {f ru pd wd : Int → Int} {ly : Nat → Pw} {k s w : Int}
theorem m_worthOf (I : LwI h lc ly) (Mm : MmI h lc ly) (H : LhI h lc k) (hk : ¬ k = -1) {g hd lo bo ma ev : Int} (K : KOk g hd lo bo ma ev) : ∃ h', Md_worthOf h 2000 g hd lo bo ma ev = some (dnV (ly k.toNat) g hd lo bo ma ev, h') ∧ On MW h h' ∧ MmI h' lc ly := by
  obtain ⟨H1, H2, H3, H4⟩ := H
  have lc4 := I.2.2.1
  have kl : k.toNat < lc := by omega
  have ek : (k.toNat : Int) = k := by omega
  have kb := key_b (i := k) (by omega) (by omega) K
  obtain ⟨a1, b1, c1, d1, e1, f1⟩ := id K
  have w64k : w64 (keyV k g hd lo bo ma ev) = keyV k g hd lo bo ma ev := w64_id (by omega) (by omega)
  have tm : (keyV k g hd lo bo ma ev).tmod 8191 = keyV k g hd lo bo ma ev % 8191 := Int.tmod_eq_emod_of_nonneg (by omega)
  have sp0 : 0 ≤ keyV k g hd lo bo ma ev % 8191 ∧ keyV k g hd lo bo ma ev % 8191 < 8191 := by omega
  have cz : cDl (α := Int × Hp) 8191 = fun A => A := funext fun A => if_neg (by decide)
  have ekey : 2000 * (10 * (10 * (10 * (10 * (10 * (1 + k) + g) + hd) + lo) + bo) + ma) + ev = keyV k g hd lo bo ma ev := rfl
  unfold Md_worthOf
  rw [cC_s SH2000' rfl, H2, w32_id (x := k) (by omega) (by omega), bd_s, w32_n (x := g) (by omega) (by omega), bd_s, w32_n (x := hd) (by omega) (by omega), bd_s, w32_n (x := lo) (by omega) (by omega), bd_s, w32_n (x := bo) (by omega) (by omega), bd_s, w32_n (x := ma) (by omega) (by omega), bd_s, w32_n (x := ev) (by omega) (by omega), bd_s, ekey, cz, w64k, show w64 8191 = 8191 by decide, tm]
  generalize hkv : keyV k g hd lo bo ma ev = kv at *
  generalize hsp : kv % 8191 = sp at *
  rw [bd_s, cX_s SH2036 sp0.1 (by omega) (by omega), w32_n (x := sp) sp0.1 (by omega), rd_ge (by decide), rd_ge (by decide)]
  have hm := Mm sp sp0.1 sp0.2
  have hw : w64 (h 2036 sp) = h 2036 sp := by
    rcases hm with e | ⟨i, g', hd', lo', bo', ma', ev', i4, K', e, -⟩
    · rw [e]; decide
    · rw [e]
      have := key_b (i := (i : Int)) (by omega) (by omega) K'
      exact w64_id (by omega) (by omega)
  by_cases c : w32 (lcm (h 2036 sp) kv) = 0
  · have ee := (lcm_q _ _).mp c
    rw [hw, w64k] at ee
    rw [if_pos c, cX_s SH2037 sp0.1 (by omega) (by omega)]
    rcases hm with e | ⟨i, g', hd', lo', bo', ma', ev', i4, K', e, ed⟩
    · omega
    · rw [ee, ← hkv] at e
      obtain ⟨q0, q1, q2, q3, q4, q5, q6⟩ := key_i K K' e
      subst q1 q2 q3 q4 q5 q6
      have ei : k.toNat = i := by rw [q0]; rfl
      rw [ed, ei]
      exact ⟨h, rfl, On.rf, Mm⟩
  · rw [if_neg c, cY_s SH2004 (by decide) (by decide) (by decide) (by decide), pu_s, cY_s SH2004 (by decide) (by decide) (by decide) (by decide), pu_s, cY_s SH2004 (by decide) (by decide) (by decide) (by decide), pu_s, cY_s SH2004 (by decide) (by decide) (by decide) (by decide), pu_s, cY_s SH2004 (by decide) (by decide) (by decide) (by decide), pu_s, cY_s SH2004 (by decide) (by decide) (by decide) (by decide), pu_s]
    have mw4 : ∀ (h : Hp) (i v : Int), On MW h (up h 2004 i v) := fun h i v => On.up (Or.inr (Or.inl rfl))
    have F1 : On MW h (up (up (up (up (up (up h 2004 103 g) 2004 104 hd) 2004 108 lo) 2004 98 bo) 2004 110 ma) 2004 100 ev) := (((((mw4 _ _ _).tr (mw4 _ _ _)).tr (mw4 _ _ _)).tr (mw4 _ _ _)).tr (mw4 _ _ _)).tr (mw4 _ _ _)
    have R6 : ∀ a : Int, a ≠ 2004 → up (up (up (up (up (up h 2004 103 g) 2004 104 hd) 2004 108 lo) 2004 98 bo) 2004 110 ma) 2004 100 ev a = h a := fun a ha => by rw [up_off_row ha, up_off_row ha, up_off_row ha, up_off_row ha, up_off_row ha, up_off_row ha]
    have E6 : envM (up (up (up (up (up (up h 2004 103 g) 2004 104 hd) 2004 108 lo) 2004 98 bo) 2004 110 ma) 2004 100 ev) = evL g hd lo bo ma ev := by
      refine env_ev ?_ ?_ ?_ ?_ ?_ ?_
      · rw [up_off (by decide), up_off (by decide), up_off (by decide), up_off (by decide), up_off (by decide), up_at]
      · rw [up_off (by decide), up_off (by decide), up_off (by decide), up_off (by decide), up_at]
      · rw [up_off (by decide), up_off (by decide), up_off (by decide), up_at]
      · rw [up_off (by decide), up_off (by decide), up_at]
      · rw [up_off (by decide), up_at]
      · rw [up_at]
    generalize up (up (up (up (up (up h 2004 103 g) 2004 104 hd) 2004 108 lo) 2004 98 bo) 2004 110 ma) 2004 100 ev = h1 at *
    clear hm
    obtain ⟨B, L, q, b, e, e3, t, -, -⟩ := I.2.2.2 k.toNat kl
    rw [ek] at e3 t
    have e34 : h1 2000 34 = k := by rw [R6 2000 (by decide)]; exact H2
    obtain ⟨x, h2, e4, F2, z⟩ := goThrough_e (h := h1) (R := 2002) (o := 240 * k) (Or.inr ⟨rfl, by omega, by omega⟩) b (fun j hj => by rw [R6 2002 (by decide)]; exact t j hj)
    have F2w : On MW h1 h2 := F2.w (fun x j q => Or.inl q)
    have z14 : h2 2000 14 = dnV (ly k.toNat) g hd lo bo ma ev := by
      rcases z with ⟨w, e5, -⟩ | ⟨q', y, e5, -, e6⟩
      · rw [e] at e5; cases e5
      · rw [e] at e5
        have ey : ly k.toNat = y := Option.some.inj (congrArg Prod.snd e5)
        rw [E6] at e6
        rw [e6 (ev_EB K), ← ey]
        rfl
    rw [e34, cX_s SH2003 (by omega) (by omega) (by omega), rd_ge (by decide), w32_n (x := k) (by omega) (by omega), R6 2003 (by decide), e3, e4, cl_s, cY_s SH2036 (by decide) sp0.1 (by omega) (by omega), pu_s, cY_s SH2037 (by decide) sp0.1 (by omega) (by omega), pu_s, up_ne (a := 2036) (b := 2000) (by decide), up_ne (a := 2037) (b := 2000) (by decide), up_ne (a := 2036) (b := 2000) (by decide), z14]
    refine ⟨_, rfl, ((F1.tr F2w).tr (On.up (Or.inr (Or.inr (Or.inl rfl))))).tr (On.up (Or.inr (Or.inr (Or.inr rfl)))), fun s s0 s1 => ?_⟩
    rw [up_ne (a := 2037) (b := 2036) (by decide)]
    by_cases es : s = sp
    · subst es
      refine Or.inr ⟨k.toNat, g, hd, lo, bo, ma, ev, kl, K, ?_, up_at⟩
      rw [up_at, ek, hkv]
    · rw [up_off es, up_off es, up_ne (a := 2036) (b := 2037) (by decide), F2 2036 s (fun q => by have := q.1; omega), F2 2037 s (fun q => by have := q.1; omega), R6 2036 (by decide), R6 2037 (by decide)]
      exact Mm s s0 s1
theorem b34_e (D : CtM h n W ru pd wd) (r1 : 1 ≤ ru 0 ∧ ru 0 ≤ 30) {x : Int} (hx : V1 x) : Md_evenings_b34 h 2000 x = some (mwV (ru 0) x, h) := by
  unfold Md_evenings_b34 mwV
  rw [cC_s SH2000' rfl, cX_s SH2018 (by decide) (by decide) (by decide), rd_ge (by decide), D.2.2.2.2.1 0 (by decide) (by decide), w32_V hx, w32_n (x := ru 0) (by omega) (by omega)]
  by_cases c : x < ru 0
  · rw [if_pos c, if_pos c, w32_V hx]
  · rw [if_neg c, if_neg c, w32_n (x := ru 0) (by omega) (by omega)]
    by_cases e : 1 < ru 0
    · rw [if_pos e]
    · rw [if_neg e, show ru 0 = 1 by omega]
theorem CtM.mw (D : CtM h n W ru pd wd) (F : On MW h h') : CtM h' n W ru pd wd := by
  have e : ∀ a : Int, a ≠ 2000 → a ≠ 2004 → a ≠ 2036 → a ≠ 2037 → h' a = h a := fun a a1 a2 a3 a4 => F.row (fun j q => by unfold MW at q; omega)
  obtain ⟨d1, d2, d3, d4, d5, d6, d7⟩ := D
  exact ⟨by rw [F 2000 26 (fun q => by unfold MW at q; omega)]; exact d1, d2, by rw [F 2000 27 (fun q => by unfold MW at q; omega)]; exact d3, d4, by rw [e 2018 (by decide) (by decide) (by decide) (by decide)]; exact d5, by rw [e 2020 (by decide) (by decide) (by decide) (by decide)]; exact d6, by rw [e 2022 (by decide) (by decide) (by decide) (by decide)]; exact d7⟩
theorem StM.mw (M : StM h w n f) (F : On MW h h') : StM h' w n f := by
  obtain ⟨sw, w0, w1⟩ := M.w2
  exact ⟨M.1, by rw [F 2000 26 (fun q => by unfold MW at q; omega)]; exact M.2.1, by rw [mR_c (F.row (fun j q => by unfold MW at q; rcases M.1 with z | z <;> omega))]; exact M.2.2.1, M.2.2.2⟩
theorem LwI.mw (I : LwI h lc ly) (F : On MW h h') : LwI h' lc ly := by
  obtain ⟨i1, i2, i3, i4⟩ := I
  refine ⟨by rw [F 20 5 (fun q => by unfold MW at q; omega)]; exact i1, by rw [F 2000 7 (fun q => by unfold MW at q; omega)]; exact i2, i3, fun i hi => ?_⟩
  obtain ⟨B, L, q, z1, z2, z3, z4, ⟨z5, z6⟩, z7⟩ := i4 i hi
  exact ⟨B, L, q, z1, z2, by rw [F 2003 _ (fun q => by unfold MW at q; omega)]; exact z3, fun k hk => by rw [F 2002 _ (fun q => by unfold MW at q; omega)]; exact z4 k hk, ⟨by rw [F _ 2 (fun q => by unfold MW at q; omega)]; exact z5, fun j x e => by rw [F _ _ (fun q => by unfold MW at q; omega)]; exact z6 j x e⟩, z7⟩
theorem LhI.mw (I : LhI h lc k) (F : On MW h h') : LhI h' lc k := ⟨by rw [F 20 6 (fun q => by unfold MW at q; omega)]; exact I.1, by rw [F 2000 34 (fun q => by unfold MW at q; omega)]; exact I.2.1, I.2.2⟩
theorem m_even (D : CtM h n W ru pd wd) (I : LwI h lc ly) (Mm : MmI h lc ly) (H : LhI h lc k) (r1 : 1 ≤ ru 0 ∧ ru 0 ≤ 30) {g hd lo bo ma ev : Int} (K : KOk g hd lo bo ma ev) : ∃ h', Md_evenings h 2000 g hd lo bo ma ev = some (mwV (ru 0) (woV ly k g hd lo bo ma ev), h') ∧ On MW h h' ∧ MmI h' lc ly := by
  have wb := woV_b I H.2.2.1 H.2.2.2 K
  have lc4 := I.2.2.1
  have l9 := K.2.2.1
  have k0 := H.2.2.1
  have k1 := H.2.2.2
  unfold Md_evenings
  rw [cD_2, w32_n (x := lo) (by omega) (by omega), show w32 2 = 2 by decide, bd_s, cC_s SH2000' rfl, H.2.1, w32_id (x := k) (by omega) (by omega)]
  by_cases c : k = -1
  · have e2 : woV ly k g hd lo bo ma ev = 2 * g + hd - lo.tdiv 2 := if_pos c
    rw [if_pos c, ← e2, b34_e D r1 wb]
    exact ⟨h, rfl, On.rf, Mm⟩
  · have e2 : woV ly k g hd lo bo ma ev = dnV (ly k.toNat) g hd lo bo ma ev := if_neg c
    obtain ⟨h1, e1, F1, Mm1⟩ := m_worthOf I Mm H c K
    rw [if_neg c, e1, cl_s, ← e2, b34_e (D.mw F1) r1 wb]
    exact ⟨h1, rfl, F1, Mm1⟩
theorem m_worthNow (D : CtM h n W ru pd wd) (M : StM h w n f) (I : LwI h lc ly) (Mm : MmI h lc ly) (H : LhI h lc k) (r1 : 1 ≤ ru 0 ∧ ru 0 ≤ 30) {who whom g : Int} (p0 : 0 ≤ who) (p1 : who < n) (q0 : 0 ≤ whom) (q1 : whom < n) (K : KOk g (pd (3 * who + 2)) (f (36 + 2 * whom)) (f (37 + 2 * whom)) (scV W wd (f 48) who) (f 51)) : ∃ h', Md_worthNow h 2000 w who whom g = some (mwV (ru 0) (woV ly k g (pd (3 * who + 2)) (f (36 + 2 * whom)) (f (37 + 2 * whom)) (scV W wd (f 48) who) (f 51)), h') ∧ On MW h h' ∧ MmI h' lc ly := by
  obtain ⟨sw, w0, w1⟩ := M.w2
  have n6 := D.2.1
  have e : 36 + 2 * whom + 1 = 37 + 2 * whom := by omega
  obtain ⟨h1, e1, F1, Mm1⟩ := m_even D I Mm H r1 K
  unfold Md_worthNow
  rw [cC_s SH2000' rfl, cX_s SH2020 (by omega) (by omega) (by omega), Md_lonely_e M q0 (by omega), cl_s, e, cX_s sw (by omega) (by omega) (by omega), m_sent D M, cl_s, cX_s sw (by omega) (by omega) (by omega), rd_ge (by decide), rd_ge (by omega), rd_ge (by omega), w32_n (x := 3 * who + 2) (by omega) (by omega), w32_n (x := 37 + 2 * whom) (by omega) (by omega), D.2.2.2.2.2.1 _ (by omega) (by omega), M.rd (k := 37 + 2 * whom) (by omega) (by omega), M.rd (k := 51) (by omega) (by omega), e1, cl_s]
  exact ⟨h1, rfl, F1, Mm1⟩
end PureWorthM
