section PureGive
/-! GIVE; how an act without an evening closes -/
theorem Gd_49 {n : Nat} {f : Int → Int} (g : Gd n f) {v : Int} (v0 : 0 ≤ v) (v1 : v ≤ 999) : Gd n (ud f 49 v) := by
  obtain ⟨g1, g2, g3, g4, g5, g6, g7⟩ := g
  refine ⟨g1, fun k k0 k1 => ?_, fun a b a0 a1 b0 b1 => ?_, fun a a0 a1 => ?_, fun p p0 p1 => ?_, ?_, ?_⟩
  · rw [ud_ne (by omega)]; exact g2 k k0 k1
  · rw [ud_ne (by omega), ud_ne (by omega)]; exact g3 a b a0 a1 b0 b1
  · rw [ud_ne (by omega)]; exact g4 a a0 a1
  · rw [ud_ne (by omega), ud_ne (by omega)]; exact g5 p p0 p1
  · rw [ud_ne (by decide)]; exact g6
  · rw [ud_at]; exact ⟨v0, v1⟩
section Q
variable {h h2 h' hF : Hp} {n W lc sc : Nat} {f f' ru pd wd : Int → Int} {ly : Nat → Pw} {k sn : Int}
/-- coins told anew on both sides -/
theorem sta_49 (A : StA h 110 n f) {v : Int} (v0 : 0 ≤ v) (v1 : v ≤ 999) : StA (up h 110 6 v) 110 n (ud f 49 v) := ⟨A.1, by rw [up_off (by decide)]; exact A.2.1, by rw [cR_uf (i := 6) (Or.inr (Or.inl rfl)), A.2.2.1]; rfl, Gd_49 A.2.2.2 v0 v1⟩
theorem stm_49 (M : StM h 2032 n f) {v : Int} (v0 : 0 ≤ v) (v1 : v ≤ 999) : StM (up h 2032 49 v) 2032 n (ud f 49 v) := ⟨M.1, by rw [up_ne (by decide)]; exact M.2.1, by rw [mR_up (by decide) (by decide), M.2.2.1], Gd_49 M.2.2.2 v0 v1⟩
/-- from the open act (h1) by the class's hand (g0) and the memory (h5) to the reference's hand (hF) -/
theorem act_plain {h1 g0 h5 : Hp} {fst acts : Nat} {PF : Nat → Int → Int} (I : IvP h1 n W lc sc ru pd wd f ly k sn) (X : PaX h1 n W fst acts PF (f 51)) (A : StA h1 (paA fst acts) n f) (Fc : On (fun a k => (110 ≤ a ∧ a ≤ 114) ∨ (a = 55 ∧ (k = 1 ∨ k = 2)) ∨ (a = 2000 ∧ k = 0)) h1 g0) (y1 : g0 55 1 = ((if acts = 40 then (fst + 1) % 41 else fst : Nat) : Int)) (y2 : g0 55 2 = ((if acts = 40 then 40 else acts + 1 : Nat) : Int)) (S : StA g0 110 n f') (F5 : On (fun a k => a = 2041 ∨ (a = 2000 ∧ k = 42)) g0 h5) (y42 : h5 2000 42 = ((if acts = 40 then 40 else acts + 1 : Nat) : Int)) (r41 : acts < 40 → (∀ k : Int, k < 233 * (acts : Int) → h5 2041 k = g0 2041 k) ∧ ∀ k : Int, 0 ≤ k → k < 233 → h5 2041 (233 * (acts : Int) + k) = g0 2032 k) (s41 : acts = 40 → (∀ x : Int, 0 ≤ x → x < 9087 → h5 2041 x = g0 2041 (x + 233)) ∧ ∀ k : Int, 0 ≤ k → k < 233 → h5 2041 (9087 + k) = g0 2032 k) (F6 : On (fun a k => a = 2032 ∧ k < 52) h5 hF) (M : StM hF 2032 n f') (fb : FB W f') (e51 : f' 51 = f 51) : IvP hF n W lc sc ru pd wd f' ly k sn := by
  have Nw := I.2.2.2.2.2.2.2.1
  have Lg := I.2.2.2.2.2.2.2.2.1
  have Mm := I.2.2.2.2.1
  have F : On Tac h1 hF := ((Fc.w (fun a k q => by unfold Tac; omega)).tr (F5.w (fun a k q => by unfold Tac; omega))).tr (F6.w (fun a k q => by unfold Tac; omega))
  have k41 : ∀ x : Int, hF 2041 x = h5 2041 x := fun x => F6 2041 x (by omega)
  have c41 : ∀ x : Int, g0 2041 x = h1 2041 x := fun x => Fc 2041 x (by omega)
  have c32 : ∀ x : Int, g0 2032 x = h1 2032 x := fun x => Fc 2032 x (by omega)
  have k61 : hF 61 = h1 61 := funext fun x => by rw [F6 61 x (by omega), F5 61 x (by omega), Fc 61 x (by omega)]
  refine act_close I X A (F.w (fun a k q => Or.inl q)) (MmI.e Mm (F.e (fun a k t c => by unfold Tac at t; unfold MmC at c; omega))) ?_ ?_ ?_ ?_ ?_ ?_ ?_ ?_ (by rw [e51]; exact Int.le_refl _)
  · refine ⟨S.c (fun k _ _ => ?_) (fun j j0 j1 => funext fun k => ?_), M, fb⟩
    · rw [F6 110 k (by omega), F5 110 k (by omega)]
    · rw [F6 (110 + j) k (by omega), F5 (110 + j) k (by omega)]
  · rw [e51, k61]
    exact Lg.c (fun _ _ _ _ => rfl) (fun k hk => by rw [F6 2032 k (by omega), F5 2032 k (by omega), c32])
  · rw [F6 55 1 (by omega), F5 55 1 (by omega)]; exact y1
  · rw [F6 55 2 (by omega), F5 55 2 (by omega)]; exact y2
  · rw [F6 2000 42 (by omega)]; exact y42
  · intro q
    obtain ⟨t1, t2⟩ := r41 q
    exact ⟨fun k hk => by rw [k41, t1 k hk, c41], fun k k0' k1 => by rw [k41, t2 k k0' k1, c32]⟩
  · intro q
    obtain ⟨t1, t2⟩ := s41 q
    exact ⟨fun x x0 x1 => by rw [k41, t1 x x0 x1, c41], fun k k0' k1 => by rw [k41, t2 k k0' k1, c32]⟩
  · intro x _
    rw [k61]
end Q
theorem So_give : S_give Inv := by
  intro h a1 I i1
  obtain ⟨n, W, lc, sc, ru, pd, wd, f, ly, k0, sn, J⟩ := I
  have J0 := J.qs (h' := up h 2000 0 0) t0_sc
  have Ct := J.2.1
  have Nw := J.2.2.2.2.2.2.2.1
  have n6 := Ct.1.1.2.2
  have s7 := (IsS_sh Nw.1.1).1
  have fb := Nw.2.2
  have f49 := fb.2.1
  have e6 : h 110 6 = f 49 := by rw [← Nw.1.2.2.1]; exact cR_49.symm
  have no : ∃ (r2 : Int) (h2 : Hp), some ((-1 : Int), up h 2000 0 0) = some (r2, h2) ∧ w32 (-1) = w32 r2 ∧ Inv h2 := ⟨_, _, rfl, rfl, ⟨n, W, lc, sc, ru, pd, wd, f, ly, k0, sn, J0⟩⟩
  have o26 : up h 2000 0 0 2000 26 = (n : Int) := by rw [up_off (by decide)]; exact Ct.2.1.1
  have o49 : up h 2000 0 0 2032 49 = f 49 := by rw [up_ne (by decide)]; exact Nw.2.1.rd (by decide) (by decide)
  have i50 : ir 50 := I01.2.2.2.2.2.2.2.2.1
  unfold Cc_give Md_give
  rw [cC_s SH20' rfl]
  by_cases z : n = 0
  · rw [told0 Ct.1.1 z, cl_s, if_pos wz0]
    refine so_s ?_
    rw [cC_s SH2000' rfl, pu_s, o26, w32_n (x := (n : Int)) (by omega) (by omega), if_pos (by omega)]
    exact no
  · rw [told1 Ct.1.1 z, cl_s, if_neg wn1, ri i1]
    by_cases c : 1 ≤ a1 ∧ a1 ≤ 50
    · rw [if_neg (by omega), if_neg (by omega), cC_s s7 rfl, e6, w32_n (x := f 49 + a1) (by omega) (by omega)]
      by_cases d : 999 < f 49 + a1
      · rw [if_pos d]
        refine so_s ?_
        rw [cC_s SH2000' rfl, pu_s, o26, w32_n (x := (n : Int)) (by omega) (by omega), if_neg (by omega), isIn1 i1 I01.2.1 i50 c, cl_s, if_neg wn1, cX_s SH2032' (by decide) (by decide) (by decide), rd_ge (by decide), o49, w32_n (x := f 49 + a1) (by omega) (by omega), if_pos d]
        exact no
      · obtain ⟨fst, acts, PF, h1, e1, J1, X, A1⟩ := act_open J
        have Nw1 := J1.2.2.2.2.2.2.2.1
        have Ct1 := J1.2.1
        obtain ⟨h3, e3, F3, y1, y2⟩ := keep_e2 X.1 X.2.1 X.2.2.2.1 X.2.2.2.2.1
        have S3 : StA h3 110 n f := Nw1.1.c (fun k _ _ => F3 110 k (by omega)) (fun j j0 j1 => F3.row (fun k => by omega))
        have e63 : h3 110 6 = f 49 := by rw [← S3.2.2.1]; exact cR_49.symm
        have S4 := sta_49 S3 (v := f 49 + a1) (by omega) (by omega)
        rw [if_neg d, cC_s SH55 rfl, e1, cl_s, e3, cl_s, e63, pu_s, up_at]
        have Fc : On (fun a k => (110 ≤ a ∧ a ≤ 114) ∨ (a = 55 ∧ (k = 1 ∨ k = 2)) ∨ (a = 2000 ∧ k = 0)) h1 (up (up h3 110 6 (f 49 + a1)) 2000 0 0) := ((F3.w (fun a k q => by omega)).tr (On.up (by omega))).tr (On.up (by omega))
        have S5 : StA (up (up h3 110 6 (f 49 + a1)) 2000 0 0) 110 n (ud f 49 (f 49 + a1)) := S4.c (fun k _ _ => up_ne (by decide) k) (fun j j0 j1 => up_off_row (by omega))
        have x1 : up (up h3 110 6 (f 49 + a1)) 2000 0 0 55 1 = h3 55 1 := by rw [up_ne (by decide), up_ne (by decide)]
        have x2 : up (up h3 110 6 (f 49 + a1)) 2000 0 0 55 2 = h3 55 2 := by rw [up_ne (by decide), up_ne (by decide)]
        generalize hg : up (up h3 110 6 (f 49 + a1)) 2000 0 0 = g0 at Fc S5 x1 x2
        obtain ⟨h5, e5, F5, y42, r41, s41⟩ := remember_e (h := g0) (acts := acts) (by rw [Fc 2000 42 (by omega)]; exact X.2.2.1) X.2.2.2.2.1
        have q32 : ∀ k : Int, h5 2032 k = h1 2032 k := fun k => by rw [F5 2032 k (by omega), Fc 2032 k (by omega)]
        have M5 : StM h5 2032 n f := ⟨Nw1.2.1.1, by rw [F5 2000 26 (by omega), Fc 2000 26 (by omega)]; exact Nw1.2.1.2.1, by rw [mR_e (h := h1) (fun k _ _ => q32 k)]; exact Nw1.2.1.2.2.1, Nw1.2.1.2.2.2⟩
        have g49 : g0 2032 49 = f 49 := by rw [Fc 2032 49 (by omega)]; exact Nw1.2.1.rd (by decide) (by decide)
        refine so_s ⟨f 49 + a1, up h5 2032 49 (f 49 + a1), ?_, rfl, ⟨n, W, lc, sc, ru, pd, wd, ud f 49 (f 49 + a1), ly, k0, sn, ?_⟩⟩
        · rw [cC_s SH2000' rfl, hg, pu_s, Fc 2000 26 (by omega), Ct1.2.1.1, w32_n (x := (n : Int)) (by omega) (by omega), if_neg (by omega), isIn1 i1 I01.2.1 i50 c, cl_s, if_neg wn1, cX_s SH2032' (by decide) (by decide) (by decide), rd_ge (by decide), g49, w32_n (x := f 49 + a1) (by omega) (by omega), if_neg d, e5, cl_s, cX_s SH2032' (by decide) (by decide) (by decide), cY_s SH2032' (by decide) (by decide) (by decide) (by decide), rd_ge (by decide), M5.rd (by decide) (by decide), pu_s, cX_s SH2032' (by decide) (by decide) (by decide), rd_ge (by decide), up_at]
        · exact act_plain J1 X A1 Fc (by rw [x1]; exact y1) (by rw [x2]; exact y2) S5 F5 y42 r41 s41 (On.up ⟨rfl, by decide⟩) (stm_49 M5 (by omega) (by omega)) ⟨by rw [ud_ne (by decide)]; exact fb.1, by rw [ud_at]; omega, by rw [ud_ne (by decide)]; exact fb.2.2⟩ (ud_ne (by decide))
    · by_cases d : a1 < 1
      · rw [if_pos d]
        refine so_s ?_
        rw [cC_s SH2000' rfl, pu_s, o26, w32_n (x := (n : Int)) (by omega) (by omega), if_neg (by omega), isIn0 i1 I01.2.1 i50 c, cl_s, if_pos wz0]
        exact no
      · rw [if_neg d, if_pos (by omega)]
        refine so_s ?_
        rw [cC_s SH2000' rfl, pu_s, o26, w32_n (x := (n : Int)) (by omega) (by omega), if_neg (by omega), isIn0 i1 I01.2.1 i50 c, cl_s, if_pos wz0]
        exact no
end PureGive
