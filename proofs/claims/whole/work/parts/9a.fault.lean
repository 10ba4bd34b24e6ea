section PureFault
/-! A TEXT READ AS one of its sorts; FAULT -/
def Tfl (c lc sc : Int) (a k : Int) : Prop := CTc c a k ∨ LTc (1000 + 10 * lc) a k ∨ STc (1100 + 10 * sc) a k ∨ CTm a k ∨ GTm a k ∨ QTm a k ∨ (a = 2000 ∧ k = 0)
section R
variable {h : Hp} {B : Nat → Int} {L : Nat} {c : Int}
theorem m10 : (1 : Int) % 2 = 1 ∧ (0 : Int) % 2 = 0 := by decide
theorem rc0 (b : BOK B L) (y : IsY c) (e : h 20 2 = c) (t1 : h 21 1 = (L : Int)) (t2 : ∀ k : Nat, k < L → h 22 (k : Int) = B k) : ∃ h', On (CTc c) h h' ∧ ((∃ w : Nat, cyP B L = (w, none) ∧ w ≤ L ∧ Cc_readAs h 20 0 = some (0, h') ∧ h' 21 3 = (w : Int)) ∨ ∃ (q : Nat) (t : Cst), cyP B L = (q, some t) ∧ Cc_readAs h 20 0 = some (1, h') ∧ CyA h' c t) := by
  obtain ⟨x, h', e1, F, q⟩ := Cy_read_e b y t1 t2
  have er : Cc_readAs h 20 0 = some (x % 2, h') := by
    unfold Cc_readAs
    rw [if_pos wz0, cC_s SH20' rfl, e, cC_s (IsY_sh y).1 rfl, e1, cl_s]
  refine ⟨h', F, ?_⟩
  rcases q with ⟨w, z1, z2, z3, z4⟩ | ⟨q, t, z1, z2, z3⟩
  · exact Or.inl ⟨w, z1, z2, by rw [er, z3, m10.2], z4⟩
  · exact Or.inr ⟨q, t, z1, by rw [er, z2, m10.1], z3⟩
theorem rc1 (b : BOK B L) {lc : Nat} (l4 : lc ≤ 4) (e : h 20 5 = (lc : Int)) (t1 : h 21 1 = (L : Int)) (t2 : ∀ k : Nat, k < L → h 22 (k : Int) = B k) : ∃ h', On (LTc (1000 + 10 * (lc : Int))) h h' ∧ ((∃ w : Nat, laP B L = (w, none) ∧ w ≤ L ∧ Cc_readAs h 20 1 = some (0, h') ∧ h' 21 3 = (w : Int)) ∨ ∃ (q : Nat) (y : Pw), laP B L = (q, some y) ∧ Cc_readAs h 20 1 = some (1, h') ∧ LCo h' (1000 + 10 * (lc : Int)) y.1 ∧ y.1.length ≤ 240) := by
  have ia : IsL (1000 + 10 * (lc : Int)) := ⟨by omega, by omega, by omega⟩
  obtain ⟨x, h', e1, F, q⟩ := Lw_read_e ia b t1 t2
  have er : Cc_readAs h 20 1 = some (x % 2, h') := by
    unfold Cc_readAs
    rw [if_neg wn1, if_pos (by decide), cC_s SH20' rfl, e, lawAt_e h (by omega) (by omega), cl_s, cC_s (IsL_sh ia).1 rfl, e1, cl_s]
  refine ⟨h', F, ?_⟩
  rcases q with ⟨w, z1, z2, z3, z4⟩ | ⟨q, t, z1, z2, z3⟩
  · exact Or.inl ⟨w, z1, z2, by rw [er, z3, m10.2], z4⟩
  · exact Or.inr ⟨q, t, z1, by rw [er, z2, m10.1], z3⟩
theorem rc2 (b : BOK B L) {sc : Nat} (s4 : sc ≤ 4) (e : h 20 7 = (sc : Int)) (t1 : h 21 1 = (L : Int)) (t2 : ∀ k : Nat, k < L → h 22 (k : Int) = B k) : ∃ h', On (STc (1100 + 10 * (sc : Int))) h h' ∧ ((∃ w : Nat, ssP B L = (w, none) ∧ w ≤ L ∧ Cc_readAs h 20 2 = some (0, h') ∧ h' 21 3 = (w : Int)) ∨ ∃ (q : Nat) (t : Sst), ssP B L = (q, some t) ∧ Cc_readAs h 20 2 = some (1, h') ∧ SsA h' (1100 + 10 * (sc : Int)) t) := by
  have ia : IsN (1100 + 10 * (sc : Int)) := ⟨by omega, by omega, by omega⟩
  obtain ⟨x, h', e1, F, q⟩ := Ss_read_e ia b t1 t2
  have er : Cc_readAs h 20 2 = some (x % 2, h') := by
    unfold Cc_readAs
    rw [if_neg (by decide), if_neg (by decide), cC_s SH20' rfl, e, sesAt_e h (by omega) (by omega), cl_s, cC_s (IsN_sh ia).1 rfl, e1, cl_s]
  refine ⟨h', F, ?_⟩
  rcases q with ⟨w, z1, z2, z3, z4⟩ | ⟨q, t, z1, z2, z3⟩
  · exact Or.inl ⟨w, z1, z2, by rw [er, z3, m10.2], z4⟩
  · exact Or.inr ⟨q, t, z1, by rw [er, z2, m10.1], z3⟩
theorem rdm0 (b : BOK B L) (t0 : h 2000 6 = (L : Int)) (t : ∀ k : Nat, k < L → h 2001 (k : Int) = w8 (B k)) : ∃ h', On (fun a k => CTm a k ∨ (a = 2000 ∧ k = 0)) h h' ∧ ((∃ w : Nat, cyP B L = (w, none) ∧ w ≤ L ∧ Md_fault h 2000 0 = some ((w : Int), h')) ∨ ∃ (q : Nat) (y : Cst), cyP B L = (q, some y) ∧ Md_fault h 2000 0 = some (-1, h') ∧ CyM h' y) := by
  obtain ⟨x, h', e1, F, q⟩ := readCounty_e (h := up h 2000 0 0) b (by rw [up_off (by decide)]; exact t0) (fun k hk => by rw [up_ne (by decide)]; exact t k hk)
  have er : Md_fault h 2000 0 = some (h' 2000 11, h') := by
    unfold Md_fault Md_fault_b28 Md_fault_b46 Md_fault_b55
    rw [cC_s SH2000' rfl, pu_s, isIn1 (by rw [wz0]; exact I01.1) I01.1 I01.2.2.1 (by rw [wz0]; exact ⟨by decide, by decide⟩), cl_s, if_neg wn1, if_pos wz0, e1, cl_s, if_neg (by decide), if_neg (by decide), cC_s SH2000' rfl]
  refine ⟨h', ((On.up (Or.inr ⟨rfl, rfl⟩)).tr (F.w (fun _ _ q => Or.inl q))), ?_⟩
  rcases q with ⟨w, z1, z2, z3⟩ | ⟨q, t, z1, z2, z3⟩
  · exact Or.inl ⟨w, z1, z2, by rw [er, z3]⟩
  · exact Or.inr ⟨q, t, z1, by rw [er, z2], z3⟩
theorem rdm1 (b : BOK B L) (t0 : h 2000 6 = (L : Int)) (t : ∀ k : Nat, k < L → h 2001 (k : Int) = w8 (B k)) : ∃ h', On (fun a k => GTm a k ∨ (a = 2000 ∧ k = 0)) h h' ∧ ((∃ w : Nat, laP B L = (w, none) ∧ w ≤ L ∧ Md_fault h 2000 1 = some ((w : Int), h')) ∨ ∃ (q : Nat) (y : Pw), laP B L = (q, some y) ∧ Md_fault h 2000 1 = some (-1, h')) := by
  obtain ⟨x, h', e1, F, q⟩ := goThrough_e (h := up h 2000 0 0) (R := 2001) (o := 0) (Or.inl ⟨rfl, rfl⟩) b (fun k hk => by rw [up_ne (by decide), Int.zero_add]; exact t k hk)
  have er : Md_fault h 2000 1 = some (h' 2000 11, h') := by
    unfold Md_fault Md_fault_b28 Md_fault_b46 Md_fault_b55
    rw [cC_s SH2000' rfl, pu_s, isIn1 (show ir (w32 1) from ⟨by decide, by decide⟩) I01.1 I01.2.2.1 (by decide), cl_s, if_neg wn1, if_neg wn1, if_pos (by decide), cC_s SH2000' rfl, up_off (by decide), t0, e1, cl_s, if_neg (by decide), cC_s SH2000' rfl]
  refine ⟨h', ((On.up (Or.inr ⟨rfl, rfl⟩)).tr (F.w (fun _ _ q => Or.inl q))), ?_⟩
  rcases q with ⟨w, z1, z2, z3⟩ | ⟨q, t, z1, z2, z3⟩
  · exact Or.inl ⟨w, z1, z2, by rw [er, z3]⟩
  · exact Or.inr ⟨q, t, z1, by rw [er, z2]⟩
theorem rdm2 (b : BOK B L) (t0 : h 2000 6 = (L : Int)) (t : ∀ k : Nat, k < L → h 2001 (k : Int) = w8 (B k)) : ∃ h', On (fun a k => QTm a k ∨ (a = 2000 ∧ k = 0)) h h' ∧ ((∃ w : Nat, ssP B L = (w, none) ∧ w ≤ L ∧ Md_fault h 2000 2 = some ((w : Int), h')) ∨ ∃ (q : Nat) (y : Sst), ssP B L = (q, some y) ∧ Md_fault h 2000 2 = some (-1, h') ∧ h' 2025 4 = (y.1 : Int) ∧ SsM h' y) := by
  obtain ⟨x, h', e1, F, q⟩ := readPlan_e (h := up h 2000 0 0) b (by rw [up_off (by decide)]; exact t0) (fun k hk => by rw [up_ne (by decide)]; exact t k hk)
  have er : Md_fault h 2000 2 = some (h' 2000 11, h') := by
    unfold Md_fault Md_fault_b28 Md_fault_b46 Md_fault_b55
    rw [cC_s SH2000' rfl, pu_s, isIn1 (show ir (w32 2) from ⟨by decide, by decide⟩) I01.1 I01.2.2.1 (by decide), cl_s, if_neg wn1, if_neg (by decide), if_neg (by decide), if_pos (by decide), cC_s SH2000' rfl, e1, cl_s, cC_s SH2000' rfl]
  refine ⟨h', ((On.up (Or.inr ⟨rfl, rfl⟩)).tr (F.w (fun _ _ q => Or.inl q))), ?_⟩
  rcases q with ⟨w, z1, z2, z3⟩ | ⟨q, t, z1, z2, z3⟩
  · exact Or.inl ⟨w, z1, z2, by rw [er, z3]⟩
  · exact Or.inr ⟨q, t, z1, by rw [er, z2], z3⟩
end R
section K
variable {h h' : Hp} {n W lc sc : Nat} {f ru pd wd : Int → Int} {ly : Nat → Pw} {k0 sn : Int}
theorem fl_keep (I : IvP h n W lc sc ru pd wd f ly k0 sn) (F : On (Tfl (h 20 2) (lc : Int) (sc : Int)) h h') : IvP h' n W lc sc ru pd wd f ly k0 sn := by
  obtain ⟨Tp, Ct, Lw, Lh, Mm, Ss, Sn, Nw, Lg, Td, Im, Pa, Gv, Rw⟩ := I
  have z1 := Ct.1.1.1
  have z2 := Ct.2.2.2
  have z3 := Lw.2.2.1
  have z4 := Ss.2.2.1
  exact ⟨Tp.e (F.e (fun a k t c => by unfold Tfl CTc LTc STc CTm GTm QTm at t; unfold TpC at c; omega)),
    Ct.e (F.e (fun a k t c => by unfold Tfl CTc LTc STc CTm GTm QTm at t; unfold CtC at c; omega)),
    Lw.e (F.e (fun a k t c => by unfold Tfl CTc LTc STc CTm GTm QTm at t; unfold LwC at c; omega)),
    Lh.e (F.e (fun a k t c => by unfold Tfl CTc LTc STc CTm GTm QTm at t; unfold LhC at c; omega)),
    MmI.e Mm (F.e (fun a k t c => by unfold Tfl CTc LTc STc CTm GTm QTm at t; unfold MmC at c; omega)),
    Ss.e (F.e (fun a k t c => by unfold Tfl CTc LTc STc CTm GTm QTm at t; unfold SsC at c; omega)),
    Sn.e (F.e (fun a k t c => by unfold Tfl CTc LTc STc CTm GTm QTm at t; unfold SnC at c; omega)),
    Nw.e (F.e (fun a k t c => by unfold Tfl CTc LTc STc CTm GTm QTm at t; unfold NwC at c; omega)),
    lg_on F (fun a k t c => by unfold Tfl CTc LTc STc CTm GTm QTm at t; unfold LgC at c; omega) Lg,
    Td.e (F.e (fun a k t c => by unfold Tfl CTc LTc STc CTm GTm QTm at t; unfold TdC at c; omega)),
    Im.e (F.e (fun a k t c => by unfold Tfl CTc LTc STc CTm GTm QTm at t; unfold ImC at c; omega)),
    Pa.e (F.e (fun a k t c => by unfold Tfl CTc LTc STc CTm GTm QTm at t; unfold PaC at c; omega)),
    Gv.e (F.e (fun a k t c => by unfold Tfl CTc LTc STc CTm GTm QTm at t; unfold GvC at c; omega)),
    Rw.e (F.e (fun a k t c => by unfold Tfl CTc LTc STc CTm GTm QTm at t; unfold RwC at c; omega))⟩
end K
theorem So_fault : S_fault Inv := by
  intro h a1 I i1
  have I0 := I
  obtain ⟨n, W, lc, sc, ru, pd, wd, f, ly, k0, sn, J⟩ := I
  have J' := J
  obtain ⟨Tp, Ct, Lw, Lh, Mm, Ss, Sn, Nw, Lg, Td, Im, Pa, Gv, Rw⟩ := J'
  obtain ⟨L, B, b, t1, t2, t3, t4⟩ := Tp
  have z1 := Ct.1.1.1
  have z2 := Ct.2.2.2
  by_cases c : 0 ≤ a1 ∧ a1 ≤ 2
  · have fin : ∀ (r r2 : Int) (h1 h2 : Hp), r = r2 → On (Tfl (h 20 2) (lc : Int) (sc : Int)) h h1 → On (Tfl (h 20 2) (lc : Int) (sc : Int)) h1 h2 → (Cc_readAs h 20 a1 = some (0, h1) ∧ h1 21 3 = r ∨ Cc_readAs h 20 a1 = some (1, h1) ∧ r = -1) → Md_fault h1 2000 a1 = some (r2, h2) → ∃ (r : Int) (h1 : Hp) (r2 : Int) (h2 : Hp), Cc_fault h 20 a1 = some (r, h1) ∧ Md_fault h1 2000 a1 = some (r2, h2) ∧ w32 r = w32 r2 ∧ Inv h2 := fun r r2 h1 h2 e F1 F2 q e2 => by
      refine ⟨r, h1, r2, h2, ?_, e2, by rw [e], ⟨n, W, lc, sc, ru, pd, wd, f, ly, k0, sn, fl_keep J (F1.tr F2)⟩⟩
      unfold Cc_fault
      rw [ri i1, if_neg (by omega), if_neg (by omega), cC_s SH20' rfl]
      rcases q with ⟨q1, q2⟩ | ⟨q1, q2⟩
      · rw [q1, cl_s, if_pos wz0, cC_s SH21 rfl, q2]
      · rw [q1, cl_s, if_neg wn1, q2]
    have y : IsY (h 20 2) := by unfold IsY; omega
    rcases (show a1 = 0 ∨ a1 = 1 ∨ a1 = 2 by omega) with e | e | e
    · subst e
      obtain ⟨h1, F1, q1⟩ := rc0 b y rfl t1 t3
      have F1' : On (Tfl (h 20 2) (lc : Int) (sc : Int)) h h1 := F1.w (fun _ _ q => Or.inl q)
      obtain ⟨h2, F2, q2⟩ := rdm0 (h := h1) b (by rw [F1 2000 6 (by clear q1; unfold CTc; omega)]; exact t2) (fun k hk => by rw [F1 2001 _ (by clear q1; unfold CTc; omega)]; exact t4 k hk)
      have F2' : On (Tfl (h 20 2) (lc : Int) (sc : Int)) h1 h2 := F2.w (fun _ _ q => q.elim (fun u => Or.inr (Or.inr (Or.inr (Or.inl u)))) (fun u => Or.inr (Or.inr (Or.inr (Or.inr (Or.inr (Or.inr u)))))))
      rcases q1 with ⟨w, x1, x2, x3, x4⟩ | ⟨q, t, x1, x2, x3⟩
      · rcases q2 with ⟨w', y1, y2, y3⟩ | ⟨q', t', y1, y2, y3⟩
        · rw [x1] at y1
          have ew : w = w' := congrArg Prod.fst y1
          exact fin (w : Int) (w' : Int) h1 h2 (by rw [ew]) F1' F2' (Or.inl ⟨x3, x4⟩) y3
        · rw [x1] at y1
          cases y1
      · rcases q2 with ⟨w', y1, y2, y3⟩ | ⟨q', t', y1, y2, y3⟩
        · rw [x1] at y1
          cases y1
        · exact fin (-1) (-1) h1 h2 rfl F1' F2' (Or.inr ⟨x2, rfl⟩) y2
    · subst e
      obtain ⟨h1, F1, q1⟩ := rc1 b Lw.2.2.1 Lw.1 t1 t3
      have F1' : On (Tfl (h 20 2) (lc : Int) (sc : Int)) h h1 := F1.w (fun _ _ q => Or.inr (Or.inl q))
      have z3 := Lw.2.2.1
      obtain ⟨h2, F2, q2⟩ := rdm1 (h := h1) b (by rw [F1 2000 6 (by clear q1; unfold LTc; omega)]; exact t2) (fun k hk => by rw [F1 2001 _ (by clear q1; unfold LTc; omega)]; exact t4 k hk)
      have F2' : On (Tfl (h 20 2) (lc : Int) (sc : Int)) h1 h2 := F2.w (fun _ _ q => q.elim (fun u => Or.inr (Or.inr (Or.inr (Or.inr (Or.inl u))))) (fun u => Or.inr (Or.inr (Or.inr (Or.inr (Or.inr (Or.inr u)))))))
      rcases q1 with ⟨w, x1, x2, x3, x4⟩ | ⟨q, t, x1, x2, x3⟩
      · rcases q2 with ⟨w', y1, y2, y3⟩ | ⟨q', t', y1, y2⟩
        · rw [x1] at y1
          have ew : w = w' := congrArg Prod.fst y1
          exact fin (w : Int) (w' : Int) h1 h2 (by rw [ew]) F1' F2' (Or.inl ⟨x3, x4⟩) y3
        · rw [x1] at y1
          cases y1
      · rcases q2 with ⟨w', y1, y2, y3⟩ | ⟨q', t', y1, y2⟩
        · rw [x1] at y1
          cases y1
        · exact fin (-1) (-1) h1 h2 rfl F1' F2' (Or.inr ⟨x2, rfl⟩) y2
    · subst e
      obtain ⟨h1, F1, q1⟩ := rc2 b Ss.2.2.1 Ss.1 t1 t3
      have F1' : On (Tfl (h 20 2) (lc : Int) (sc : Int)) h h1 := F1.w (fun _ _ q => Or.inr (Or.inr (Or.inl q)))
      have z4 := Ss.2.2.1
      obtain ⟨h2, F2, q2⟩ := rdm2 (h := h1) b (by rw [F1 2000 6 (by clear q1; unfold STc; omega)]; exact t2) (fun k hk => by rw [F1 2001 _ (by clear q1; unfold STc; omega)]; exact t4 k hk)
      have F2' : On (Tfl (h 20 2) (lc : Int) (sc : Int)) h1 h2 := F2.w (fun _ _ q => q.elim (fun u => Or.inr (Or.inr (Or.inr (Or.inr (Or.inr (Or.inl u)))))) (fun u => Or.inr (Or.inr (Or.inr (Or.inr (Or.inr (Or.inr u)))))))
      rcases q1 with ⟨w, x1, x2, x3, x4⟩ | ⟨q, t, x1, x2, x3⟩
      · rcases q2 with ⟨w', y1, y2, y3⟩ | ⟨q', t', y1, y2, y3⟩
        · rw [x1] at y1
          have ew : w = w' := congrArg Prod.fst y1
          exact fin (w : Int) (w' : Int) h1 h2 (by rw [ew]) F1' F2' (Or.inl ⟨x3, x4⟩) y3
        · rw [x1] at y1
          cases y1
      · rcases q2 with ⟨w', y1, y2, y3⟩ | ⟨q', t', y1, y2, y3⟩
        · rw [x1] at y1
          cases y1
        · exact fin (-1) (-1) h1 h2 rfl F1' F2' (Or.inr ⟨x2, rfl⟩) y2
  · unfold Cc_fault Md_fault
    rw [ri i1]
    have no2 : ∀ K : Option (Int × Hp), (if a1 < 0 then some ((-2 : Int), h) else if 2 < a1 then some ((-2 : Int), h) else K) = some ((-2 : Int), h) := fun K => by
      by_cases d : a1 < 0
      · rw [if_pos d]
      · rw [if_neg d, if_pos (by omega)]
    rw [no2]
    refine so_s ?_
    rw [cC_s SH2000' rfl, pu_s, isIn0 i1 I01.1 I01.2.2.1 c, cl_s, if_pos wz0]
    exact ⟨_, _, rfl, rfl, Inv.qs I0 t0_sc⟩
end PureFault
