section PureKeep
/-! questions keep the invariant; the plain questions -/
def SC2 (a k : Int) : Prop := SCA a k ∨ a = 2036 ∨ a = 2037
theorem sd_Tp : ∀ a k, SC2 a k → TpC a k → False := fun a k t c => by unfold SC2 SCA at t; unfold TpC at c; omega
theorem sd_Ct {c0 : Int} (h : c0 = 30 ∨ c0 = 40) : ∀ a k, SC2 a k → CtC c0 a k → False := fun a k t c => by unfold SC2 SCA at t; unfold CtC at c; omega
theorem sd_Lw {lc : Nat} (h : lc ≤ 4) : ∀ a k, SC2 a k → LwC lc a k → False := fun a k t c => by unfold SC2 SCA at t; unfold LwC at c; omega
theorem sd_Lh : ∀ a k, SC2 a k → LhC a k → False := fun a k t c => by unfold SC2 SCA at t; unfold LhC at c; omega
theorem sd_Mm : ∀ a k, SCA a k → MmC a k → False := fun a k t c => by unfold SCA at t; unfold MmC at c; omega
theorem sd_Ss {sc : Nat} (h : sc ≤ 4) : ∀ a k, SC2 a k → SsC sc a k → False := fun a k t c => by unfold SC2 SCA at t; unfold SsC at c; omega
theorem sd_Sn : ∀ a k, SC2 a k → SnC a k → False := fun a k t c => by unfold SC2 SCA at t; unfold SnC at c; omega
theorem sd_Nw : ∀ a k, SC2 a k → NwC a k → False := fun a k t c => by unfold SC2 SCA at t; unfold NwC at c; omega
theorem sd_Lg : ∀ a k, SC2 a k → LgC a k → False := fun a k t c => by unfold SC2 SCA at t; unfold LgC at c; omega
theorem sd_Td : ∀ a k, SC2 a k → TdC a k → False := fun a k t c => by unfold SC2 SCA at t; unfold TdC at c; omega
theorem sd_Im : ∀ a k, SC2 a k → ImC a k → False := fun a k t c => by unfold SC2 SCA at t; unfold ImC at c; omega
theorem sd_Pa : ∀ a k, SC2 a k → PaC a k → False := fun a k t c => by unfold SC2 SCA at t; unfold PaC at c; omega
theorem sd_Gv : ∀ a k, SC2 a k → GvC a k → False := fun a k t c => by unfold SC2 SCA at t; unfold GvC at c; omega
theorem sd_Rw : ∀ a k, SC2 a k → RwC a k → False := fun a k t c => by unfold SC2 SCA at t; unfold RwC at c; omega
section Q
variable {h h' : Hp} {n W lc sc : Nat} {f ru pd wd : Int → Int} {ly : Nat → Pw} {k sn : Int}
theorem lg_on {T : Int → Int → Prop} (F : On T h h') (d : ∀ a k, T a k → LgC a k → False) (I : LG (h 61) (h 2032) (f 51)) : LG (h' 61) (h' 2032) (f 51) := by
  have r : h' 61 = h 61 := row_e (F.e d) (fun k => Or.inl rfl)
  rw [r]
  exact I.c (fun _ _ _ _ => rfl) (fun k hk => F 2032 k (fun t => d _ _ t (Or.inr ⟨rfl, hk⟩)))
theorem IvP.q (I : IvP h n W lc sc ru pd wd f ly k sn) (F : On SC2 h h') (Mm' : MmI h' lc ly) : IvP h' n W lc sc ru pd wd f ly k sn := by
  obtain ⟨Tp, Ct, Lw, Lh, Mm, Ss, Sn, Nw, Lg, Td, Im, Pa, Gv, Rw⟩ := I
  exact ⟨Tp.e (F.e sd_Tp), Ct.e (F.e (sd_Ct Ct.1.1.1)), Lw.e (F.e (sd_Lw Lw.2.2.1)), Lh.e (F.e sd_Lh), Mm', Ss.e (F.e (sd_Ss Ss.2.2.1)), Sn.e (F.e sd_Sn), Nw.e (F.e sd_Nw), lg_on F sd_Lg Lg, Td.e (F.e sd_Td), Im.e (F.e sd_Im), Pa.e (F.e sd_Pa), Gv.e (F.e sd_Gv), Rw.e (F.e sd_Rw)⟩
theorem IvP.qs (I : IvP h n W lc sc ru pd wd f ly k sn) (F : On SCA h h') : IvP h' n W lc sc ru pd wd f ly k sn := I.q (F.w (fun _ _ q => Or.inl q)) (MmI.e I.2.2.2.2.1 (F.e sd_Mm))
theorem Inv.qs (I : Inv h) (F : On SCA h h') : Inv h' := by
  obtain ⟨n, W, lc, sc, ru, pd, wd, f, ly, k, sn, I⟩ := I
  exact ⟨n, W, lc, sc, ru, pd, wd, f, ly, k, sn, IvP.qs I F⟩
end Q
theorem So_owed : S_owed Inv := by
  intro h a1 a2 I i1 i2
  have J := I
  obtain ⟨n, W, lc, sc, ru, pd, wd, f, ly, k, sn, Tp, Ct, Lw, Lh, Mm, Ss, Sn, Nw, -⟩ := J
  obtain ⟨r, e1, e2⟩ := owed_e Ct.1.1 Nw.1 Nw.2.1 i1 i2
  exact ⟨r, h, r, _, e1, e2, rfl, Inv.qs I t0_sc⟩
theorem So_tonight : S_tonight Inv := by
  intro h I
  have J := I
  obtain ⟨n, W, lc, sc, ru, pd, wd, f, ly, k, sn, Tp, Ct, Lw, Lh, Mm, Ss, Sn, Nw, -⟩ := J
  obtain ⟨h1, e1, F1⟩ := c_tonight Ct.1.1 Nw.1
  obtain ⟨h2, e2, F2⟩ := m_tonight (Nw.2.1.on F1)
  exact ⟨_, h1, _, h2, e1, e2, rfl, Inv.qs I (F1.tr F2)⟩
theorem So_served : S_served Inv := by
  intro h I
  have J := I
  obtain ⟨n, W, lc, sc, ru, pd, wd, f, ly, k, sn, Tp, Ct, Lw, Lh, Mm, Ss, Sn, Nw, -⟩ := J
  obtain ⟨h1, e1, F1⟩ := c_served Ct.1.1 Nw.1
  obtain ⟨h2, e2, F2⟩ := m_served (Nw.2.1.on F1)
  exact ⟨_, h1, _, h2, e1, e2, rfl, Inv.qs I (F1.tr F2)⟩
theorem So_sooner : S_sooner Inv := by
  intro h I
  have J := I
  obtain ⟨n, W, lc, sc, ru, pd, wd, f, ly, k, sn, Tp, Ct, Lw, Lh, Mm, Ss, Sn, Nw, -⟩ := J
  exact ⟨_, h, _, _, c_sooner Ct.1.1 Nw.1, m_sooner Nw.2.1, rfl, Inv.qs I t0_sc⟩
theorem So_odds : S_odds Inv := by
  intro h a1 a2 a3 I i1 i2 i3
  have J := I
  obtain ⟨n, W, lc, sc, ru, pd, wd, f, ly, k, sn, Tp, Ct, Lw, Lh, Mm, Ss, Sn, Nw, -⟩ := J
  obtain ⟨r, h1, h2, e1, F1, e2, F2⟩ := odds_e Ct.1.1 Nw.1 i1 i2 i3 (fun h1 F => Nw.2.1.on F)
  exact ⟨r, h1, r, h2, e1, e2, rfl, Inv.qs I (F2.w (fun a k q => by
    rcases q with q | q
    · exact q
    · exact Or.inr (Or.inr (Or.inr (Or.inr (Or.inr (Or.inr (Or.inr (Or.inr (Or.inr (Or.inr (Or.inr (Or.inr (Or.inr (Or.inr (Or.inr (Or.inr q)))))))))))))))))⟩
theorem So_all : S_all Inv := by
  intro h a1 I i1
  have J := I
  obtain ⟨n, W, lc, sc, ru, pd, wd, f, ly, k, sn, Tp, Ct, Lw, Lh, Mm, Ss, Sn, Nw, -⟩ := J
  obtain ⟨r, h1, h2, e1, F1, e2, F2⟩ := all_e Ct.1 Nw.1 Ct.2.1 Nw.2.1 Nw.2.2.1 a1
  exact ⟨r, h1, r, h2, e1, e2, rfl, Inv.qs I F2⟩
theorem So_circle : S_circle Inv := by
  intro h a1 a2 I i1 i2
  have J := I
  obtain ⟨n, W, lc, sc, ru, pd, wd, f, ly, k, sn, Tp, Ct, Lw, Lh, Mm, Ss, Sn, Nw, -⟩ := J
  obtain ⟨r, e1, e2⟩ := circle_e Ct.1 Nw.1 Ct.2.1 Nw.2.1 i1 i2
  exact ⟨r, h, r, _, e1, e2, rfl, Inv.qs I t0_sc⟩
theorem So_game : S_game Inv := by
  intro h a1 a2 a3 a4 a5 I i1 i2 i3 i4 i5
  have J := I
  obtain ⟨n, W, lc, sc, ru, pd, wd, f, ly, k, sn, Tp, Ct, Lw, Lh, Mm, Ss, Sn, Nw, -⟩ := J
  obtain ⟨r, e1, e2⟩ := game_e Ct.1.1 Nw.1 Nw.2.1 i1 i2 i3 i4 i5
  exact ⟨r, h, r, _, e1, e2, rfl, Inv.qs I t0_sc⟩
theorem So_rests : S_rests Inv := by
  intro h a1 a2 a3 I i1 i2 i3
  have J := I
  obtain ⟨n, W, lc, sc, ru, pd, wd, f, ly, k, sn, Tp, Ct, Lw, Lh, Mm, Ss, Sn, Nw, -⟩ := J
  obtain ⟨r, e1, e2⟩ := rests_e Ct.1.1 Nw.1 Nw.2.1 i1 i2 i3
  exact ⟨r, h, r, _, e1, e2, rfl, Inv.qs I t0_sc⟩
end PureKeep
