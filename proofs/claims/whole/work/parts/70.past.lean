section PurePast
/-! THE PAST: the last state kept; UNDO -/
theorem SH56 : SH 56 = (112, 41) := by decide +kernel
section K
variable {h h' : Hp} {n W : Nat} {f : Int → Int} {e : Int}
theorem last_e {fst acts : Nat} (h1 : h 55 1 = (fst : Int)) (h2 : h 55 2 = (acts : Int)) (f1 : fst < 41) (f2 : acts ≤ 40) : Ps_last h 55 = some (paA fst acts, h) := by
  have m := Nat.mod_lt (fst + acts) (show 0 < 41 by decide)
  have ec : ((fst : Int) + (acts : Int)).tmod 41 = (((fst + acts) % 41 : Nat) : Int) := by
    rw [Int.tmod_eq_emod_of_nonneg (by omega)]
    omega
  have e41 : w32 ((41 : Nat) : Int) = 41 := by decide
  have w41 : w32 41 = 41 := by decide
  have pt : PT 56 (((fst + acts) % 41 : Nat) : Int) = paA fst acts := by
    unfold PT paA
    rw [if_neg (by decide), if_neg (by decide), if_neg (by decide), if_neg (by decide), if_pos rfl]
  have d41 : ∀ A : Option (Int × Hp), cD 41 A = A := fun A => if_neg (by decide)
  have b := paA_b fst acts
  unfold Ps_last Ps_last_b36
  rw [cC_s SH55 rfl, d41, h1, h2, w32_n (x := (fst : Int) + (acts : Int)) (by omega) (by omega), w41, ec, bd_s, w32_n (x := (((fst + acts) % 41 : Nat) : Int)) (by omega) (by omega), if_neg (by omega), cN_s SH56 (by decide) (by decide), SH56, e41, if_pos (by omega), cX_s SH56 (by omega) (by omega) (by decide), pt, if_neg (by omega)]
theorem mun_e {j : Nat} (hj : j < 40) (h42 : h 2000 42 = (j : Int)) : ∃ h', Md_undo_b26 h 2000 0 = some ((j : Int), h') ∧ On (fun a _ => a = 2032) h h' ∧ ∀ k : Int, 0 ≤ k → k < 233 → h' 2032 k = h 2041 (233 * (j : Int) + k) := by
  have Wp : wp (Md_undo_b26 h 2000 0) (fun r h' => r = (j : Int) ∧ On (fun a _ => a = 2032) h h' ∧ ∀ k : Int, 0 ≤ k → k < 233 → h' 2032 k = h 2041 (233 * (j : Int) + k)) := by
    unfold Md_undo_b26
    refine itr_wp (fun i σ => ∃ h2 : Hp, σ = (h2, 2000, (i : Int)) ∧ On (fun a _ => a = 2032) h h2 ∧ ∀ m : Int, 0 ≤ m → m < (i : Int) → h2 2032 m = h 2041 (233 * (j : Int) + m)) 233 ?_ ?_ (FU_gt (by decide)) ⟨h, rfl, On.rf, fun j j0 j1 => absurd j1 (by omega)⟩
    · rintro i σ k hi ⟨h2, rfl, F2, T2⟩ K
      show wp (Md_undo_b26_body k h2 2000 (i : Int)) _
      have e42 : h2 2000 42 = (j : Int) := by rw [F2 2000 42 (by omega)]; exact h42
      unfold Md_undo_b26_body
      rw [w32_n (x := (i : Int)) (by omega) (by omega), if_pos (by omega), cC_s SH2000' rfl, e42, cX_s SH2041 (by omega) (by omega) (by decide), cY_s SH2032' (by decide) (by omega) (by omega) (by decide), pu_s, rd_ge (by decide), w32_n (x := 233 * (j : Int) + (i : Int)) (by omega) (by omega), F2 2041 _ (by omega)]
      refine K _ ⟨_, rfl, F2.tr (On.up rfl), fun m m0 m1 => ?_⟩
      by_cases z : m = (i : Int)
      · rw [z, up_at]
      · rw [up_off z]; exact T2 m m0 (by omega)
    · rintro σ k ⟨h2, rfl, F2, T2⟩
      show wp (Md_undo_b26_body k h2 2000 ((233 : Nat) : Int)) _
      unfold Md_undo_b26_body
      rw [if_neg (by decide), cC_s SH2000' rfl, F2 2000 42 (by omega), h42]
      exact wp_i ⟨rfl, F2, fun m m0 m1 => T2 m m0 (by omega)⟩
  obtain ⟨r, h', e, rfl, q⟩ := Wp
  exact ⟨h', e, q⟩
end K
def Tun (a k : Int) : Prop := (a = 55 ∧ k = 2) ∨ (a = 2000 ∧ (k = 0 ∨ k = 42)) ∨ a = 110 ∨ a = 111 ∨ a = 112 ∨ a = 113 ∨ a = 2032
theorem So_undo : S_undo Inv := by
  intro h I
  have J := I
  obtain ⟨n, W, lc, sc, ru, pd, wd, f, ly, k0, sn, Tp, Ct, Lw, Lh, Mm, Ss, Sn, Nw, Lg, Td, Im, Pa, Gv, Rw⟩ := J
  have Pa0 := Pa
  obtain ⟨fst, acts, PF, p1, p2, p3, p4, p5, p6, p7⟩ := Pa0
  unfold Cc_undo Md_undo
  unfold Ps_takeBack
  rw [cC_s SH20' rfl, cC_s SH55 rfl, cC_s SH55 rfl, p2, w32_n (x := (acts : Int)) (by omega) (by omega)]
  cases acts with
  | zero =>
    rw [if_pos (by decide), cl_s]
    refine so_s ⟨-1, up h 2000 0 0, ?_, rfl, Inv.qs I t0_sc⟩
    rw [cC_s SH2000' rfl, pu_s, up_off (by decide), p3, if_pos (by decide)]
  | succ j =>
    obtain ⟨q1, q2, q3, q4, q5⟩ := p6 j (by omega)
    have ej : (((j + 1 : Nat) : Int) - 1) = (j : Int) := by omega
    have b := paA_b fst j
    have S0 : StA (up h 55 2 (j : Int)) (paA fst j) n (PF j) := q1.c (fun k _ _ => up_ne (by omega) k) (fun i i0 i1 => up_off_row (by omega))
    have el := last_e (h := up h 55 2 (j : Int)) (fst := fst) (acts := j) (by rw [up_off (by decide)]; exact p1) up_at p4 (by omega)
    obtain ⟨h1, e1, F1, S1⟩ := St_copy_e Nw.1.1 S0 (by omega)
    have e2 : h1 55 2 = (j : Int) := by rw [F1 55 (by decide), up_at]
    rw [if_neg (by omega), ej, pu_s, el, cl_s, cC_s (IsS_sh Nw.1.1).1 rfl, e1, cl_s, e2, cl_s]
    have Fc : On Tun h (up (up h1 2000 0 0) 2000 42 (j : Int)) := (((On.up (T := Tun) (h := h) (a := 55) (i := 2) (v := (j : Int)) (Or.inl ⟨rfl, rfl⟩)).tr (F1.on (T := Tun) (fun a q k => by unfold Tun; omega))).tr (On.up (Or.inr (Or.inl ⟨rfl, Or.inl rfl⟩)))).tr (On.up (Or.inr (Or.inl ⟨rfl, Or.inr rfl⟩)))
    obtain ⟨h3, e3, F3, rw2⟩ := mun_e (h := up (up h1 2000 0 0) 2000 42 (j : Int)) (j := j) (by omega) up_at
    have rw0 : ∀ k : Int, up (up h1 2000 0 0) 2000 42 (j : Int) 2041 k = h 2041 k := fun k => Fc 2041 k (by unfold Tun; omega)
    refine so_s ⟨(j : Int), h3, ?_, rfl, ?_⟩
    · have a42 : up h1 2000 0 0 2000 42 = ((j + 1 : Nat) : Int) := by rw [up_off (by decide), F1 2000 (by decide), up_ne (by decide)]; exact p3
      rw [cC_s SH2000' rfl, pu_s, a42, w32_n (x := ((j + 1 : Nat) : Int)) (by omega) (by omega), if_neg (by omega), ej, pu_s, e3]
    · have F : On Tun h h3 := Fc.tr (F3.w (fun a k q => by unfold Tun; omega))
      have x110 : ∀ (a k : Int), a = 110 ∨ a = 111 ∨ a = 112 ∨ a = 113 → h3 a k = h1 a k := fun a k q => by rw [F3 a k (by omega), up_ne (by omega), up_ne (by omega)]
      have St : StA h3 110 n (PF j) := S1.c (fun k _ _ => x110 110 k (Or.inl rfl)) (fun j j0 j1 => funext fun k => x110 _ k (by omega))
      have nw : NwI h3 n W (PF j) := ⟨St, stm_of St (by rw [F 2000 26 (by unfold Tun; omega)]; exact Ct.2.1.1) (fun k k0 k1 => by rw [rw2 k k0 (by omega), rw0]; exact q2 k k0 k1), q3⟩
      have r61 : h3 61 = h 61 := F.row (fun k => by unfold Tun; omega)
      have r41 : h3 2041 = h 2041 := F.row (fun k => by unfold Tun; omega)
      have lg : LG (h3 61) (h3 2032) (PF j 51) := lg_d q4 (fun i i0 i1 i2 => by rw [r61]) (fun k k0 k1 => by rw [rw2 k (by omega) k1, rw0])
      have pa : PaI h3 n W (PF j 51) := by
        refine ⟨fst, j, PF, by rw [F 55 1 (by unfold Tun; omega)]; exact p1, by rw [F3 55 2 (by omega), up_ne (by decide), up_ne (by decide)]; exact e2, by rw [F3 2000 42 (by omega), up_at], p4, by omega, fun i hi => ?_, fun i i' hi hj => p7 i i' hi (by omega)⟩
        obtain ⟨z1, z2, z3, z4, z5⟩ := p6 i (by omega)
        have pb := paA_b fst i
        rw [r61, r41]
        exact ⟨z1.c (fun k _ _ => F _ k (by unfold Tun; omega)) (fun m m0 m1 => F.row (fun k => by unfold Tun; omega)), z2, z3, z4, p7 i j (by omega) (by omega)⟩
      exact ⟨n, W, lc, sc, ru, pd, wd, PF j, ly, k0, sn, Tp.e (F.e (fun a k t c => by unfold Tun at t; unfold TpC at c; omega)), Ct.e (F.e (fun a k t c => by have z := Ct.1.1.1; unfold Tun at t; unfold CtC at c; omega)), Lw.e (F.e (fun a k t c => by have z := Lw.2.2.1; unfold Tun at t; unfold LwC at c; omega)), Lh.e (F.e (fun a k t c => by unfold Tun at t; unfold LhC at c; omega)), MmI.e Mm (F.e (fun a k t c => by unfold Tun at t; unfold MmC at c; omega)), Ss.e (F.e (fun a k t c => by have z := Ss.2.2.1; unfold Tun at t; unfold SsC at c; omega)), Sn.e (F.e (fun a k t c => by unfold Tun at t; unfold SnC at c; omega)), nw, lg, Td.e (F.e (fun a k t c => by unfold Tun at t; unfold TdC at c; omega)), Im.e (F.e (fun a k t c => by unfold Tun at t; unfold ImC at c; omega)), pa, Gv.e (F.e (fun a k t c => by unfold Tun at t; unfold GvC at c; omega)), Rw.e (F.e (fun a k t c => by unfold Tun at t; unfold RwC at c; omega))⟩
end PurePast
