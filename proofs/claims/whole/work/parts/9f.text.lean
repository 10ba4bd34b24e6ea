section PureText
/-! TEXT: a county; TEXT -/
def Tse (a k : Int) : Prop := (a = 20 ∧ (k = 1 ∨ k = 2 ∨ k = 12)) ∨ (a = 100 ∧ 4 ≤ k ∧ k < 9) ∨ (101 ≤ a ∧ a ≤ 103) ∨ (110 ≤ a ∧ a ≤ 113) ∨ (a = 55 ∧ k = 2) ∨ (a = 65 ∧ k = 4) ∨ a = 71 ∨ a = 72 ∨ (a = 70 ∧ (k = 2 ∨ k = 3))
def Tsm (a k : Int) : Prop := a = 2018 ∨ a = 2020 ∨ a = 2022 ∨ a = 2032 ∨ (a = 2000 ∧ (k = 6 ∨ k = 26 ∨ k = 27 ∨ k = 42 ∨ k = 50 ∨ k = 53))
section C
variable {h : Hp} {n W : Nat} {ru pd wd : Int → Int} {c c0 : Int}
theorem settle_e (y : IsY c) (n6 : n ≤ 6) (x1 : h 20 1 = c0) (x2 : h 20 2 = c) (c4 : h c 4 = (n : Int)) (cr : ∀ k : Int, 0 ≤ k → k < 2 → h (c + 1) k = ru k) (cp : ∀ k : Int, 0 ≤ k → k < 3 * (n : Int) → h (c + 2) k = pd k) (r1 : 0 ≤ ru 1 ∧ ru 1 ≤ 99) (pb : ∀ p : Int, 0 ≤ p → p < 3 * (n : Int) → 0 ≤ pd p ∧ pd p ≤ 9) : ∃ h', Cc_settle h 20 = some ((n : Int), h') ∧ On Tse h h' ∧ h' 20 1 = c ∧ h' 20 2 = c0 ∧ StA h' 100 n (f0V n ru pd) ∧ StA h' 110 n (f0V n ru pd) ∧ h' 55 2 = 0 ∧ h' 20 12 = 0 ∧ h' 65 4 = 0 ∧ RwI h' n := by
  have cy : c = 30 ∨ c = 40 := y
  have ys := IsY_sh y
  have s100 : SH 100 = (7, 0) := (IsS_sh ⟨by decide, by decide, by decide⟩).1
  have s110 : SH 110 = (7, 0) := (IsS_sh ⟨by decide, by decide, by decide⟩).1
  have s65 : SH 65 = (1, 0) := by decide +kernel
  have F1 : On Tse h (up (up h 20 1 c) 20 2 c0) := (On.up (Or.inl ⟨rfl, Or.inl rfl⟩)).tr (On.up (Or.inl ⟨rfl, Or.inr (Or.inl rfl)⟩))
  have g1 : up (up h 20 1 c) 20 2 c0 20 1 = c := by rw [up_off (by decide), up_at]
  have g2 : up (up h 20 1 c) 20 2 c0 20 2 = c0 := up_at
  have gc : ∀ a k : Int, a ≠ 20 → up (up h 20 1 c) 20 2 c0 a k = h a k := fun a k q => by rw [up_ne q, up_ne q]
  unfold Cc_settle
  rw [cC_s SH20' rfl, x2, pu_s, x1, pu_s]
  generalize up (up h 20 1 c) 20 2 c0 = g at F1 g1 g2 gc
  obtain ⟨h3, e3, F3, A3⟩ := begin_e (h := g) (ru := ru) (pd := pd) y n6 (by rw [gc _ _ (by omega)]; exact c4) (fun k k0 k1 => by rw [gc _ _ (by omega)]; exact cr k k0 k1) (fun k k0 k1 => by rw [gc _ _ (by omega)]; exact cp k k0 k1) r1 pb
  have F3' : On Tse g h3 := F3.w (fun a k q => by
    rcases q with q | q | q | q
    · exact Or.inr (Or.inl q)
    · exact Or.inr (Or.inr (Or.inl (by omega)))
    · exact Or.inr (Or.inr (Or.inl (by omega)))
    · exact Or.inr (Or.inr (Or.inl (by omega))))
  obtain ⟨h4, e4, F4, A4⟩ := St_copy_e (s := 110) ⟨by decide, by decide, by decide⟩ A3 (by decide)
  have F4' : On Tse h3 h4 := F4.on (fun a q k => Or.inr (Or.inr (Or.inr (Or.inl (by omega)))))
  have e5 : Ps_forget h4 55 = some (0, up h4 55 2 0) := by
    unfold Ps_forget
    rw [cC_s SH55 rfl, pu_s]
  rw [cC_s s100 rfl, g1, e3, cl_s, cC_s s110 rfl, e4, cl_s, cC_s SH55 rfl, e5, cl_s, pu_s, cC_s s65 rfl, pu_s]
  have F6 : On Tse h4 (up (up (up h4 55 2 0) 20 12 0) 65 4 0) := ((On.up (Or.inr (Or.inr (Or.inr (Or.inr (Or.inl ⟨rfl, rfl⟩)))))).tr (On.up (Or.inl ⟨rfl, Or.inr (Or.inr rfl)⟩))).tr (On.up (Or.inr (Or.inr (Or.inr (Or.inr (Or.inr (Or.inl ⟨rfl, rfl⟩)))))))
  have b55 : up (up (up h4 55 2 0) 20 12 0) 65 4 0 55 2 = 0 := by rw [up_ne (by decide), up_ne (by decide), up_at]
  have b12 : up (up (up h4 55 2 0) 20 12 0) 65 4 0 20 12 = 0 := by rw [up_ne (by decide), up_at]
  have b65 : up (up (up h4 55 2 0) 20 12 0) 65 4 0 65 4 = 0 := up_at
  have bk : ∀ a k : Int, a ≠ 55 → a ≠ 65 → (a = 20 → k ≠ 12) → up (up (up h4 55 2 0) 20 12 0) 65 4 0 a k = h4 a k := fun a k q1 q2 q3 => by
    rw [up_ne q2]
    by_cases z : a = 20
    · subst z; rw [up_off (q3 rfl), up_ne q1]
    · rw [up_ne z, up_ne q1]
  generalize up (up (up h4 55 2 0) 20 12 0) 65 4 0 = g6 at F6 b55 b12 b65 bk
  have k1 : g6 20 1 = c := by rw [bk _ _ (by decide) (by decide) (fun _ => by decide), F4 20 (by omega), F3 20 1 (by omega)]; exact g1
  have k2 : g6 20 2 = c0 := by rw [bk _ _ (by decide) (by decide) (fun _ => by decide), F4 20 (by omega), F3 20 2 (by omega)]; exact g2
  have k4 : g6 c 4 = (n : Int) := by rw [bk _ _ (by omega) (by omega) (fun _ => by decide), F4 c (by omega), F3 c 4 (by omega), gc _ _ (by omega)]; exact c4
  obtain ⟨h8, e8, F8, R8⟩ := make_e (h := g6) n6
  have F8' : On Tse g6 h8 := F8.w (fun a k q => by
    rcases q with q | q | q
    · exact Or.inr (Or.inr (Or.inr (Or.inr (Or.inr (Or.inr (Or.inl q))))))
    · exact Or.inr (Or.inr (Or.inr (Or.inr (Or.inr (Or.inr (Or.inr (Or.inl q)))))))
    · exact Or.inr (Or.inr (Or.inr (Or.inr (Or.inr (Or.inr (Or.inr (Or.inr q))))))))
  have m1 : h8 20 1 = c := by rw [F8 20 1 (by omega)]; exact k1
  have m4 : h8 c 4 = (n : Int) := by rw [F8 c 4 (by omega)]; exact k4
  rw [k1, cC_s ys.1 rfl, k4, cC_s SH70' rfl, e8, cl_s, m1, cC_s ys.1 rfl, m4]
  refine ⟨h8, rfl, (((F1.tr F3').tr F4').tr F6).tr F8', m1, by rw [F8 20 2 (by omega)]; exact k2, A3.c (fun k _ _ => ?_) (fun j j0 j1 => funext fun k => ?_), A4.c (fun k _ _ => ?_) (fun j j0 j1 => funext fun k => ?_), by rw [F8 55 2 (by omega)]; exact b55, by rw [F8 20 12 (by omega)]; exact b12, by rw [F8 65 4 (by omega)]; exact b65, R8⟩
  · rw [F8 100 k (by omega), bk _ _ (by decide) (by decide) (fun e => absurd e (by decide)), F4 100 (by omega)]
  · rw [F8 _ k (by omega), bk _ _ (by omega) (by omega) (fun e => absurd e (by omega)), F4 _ (by omega)]
  · rw [F8 110 k (by omega), bk _ _ (by decide) (by decide) (fun e => absurd e (by decide))]
  · rw [F8 _ k (by omega), bk _ _ (by omega) (by omega) (fun e => absurd e (by omega))]
theorem msettle_e (n6 : n ≤ 6) (W8 : W ≤ 8) (q28 : h 2000 28 = (n : Int)) (q29 : h 2000 29 = (W : Int)) (cr : ∀ k : Int, 0 ≤ k → k < 2 → h 2019 k = ru k) (cp : ∀ k : Int, 0 ≤ k → k < 3 * (n : Int) → h 2021 k = pd k) (cw : ∀ k : Int, 0 ≤ k → k < 3 * (W : Int) → h 2023 k = wd k) : ∃ h', (pu (up h 2000 26 (h 2000 28)) (fun h30 => pu (up h30 2000 27 (h30 2000 29)) (fun h31 => Md_text_b223 h31 2000 0))) = some ((n : Int), h') ∧ On Tsm h h' ∧ h' 2000 26 = (n : Int) ∧ h' 2000 27 = (W : Int) ∧ (∀ k : Int, 0 ≤ k → k < 2 → h' 2018 k = ru k) ∧ (∀ k : Int, 0 ≤ k → k < 3 * (n : Int) → h' 2020 k = pd k) ∧ (∀ k : Int, 0 ≤ k → k < 3 * (W : Int) → h' 2022 k = wd k) ∧ (∀ k : Int, 0 ≤ k → k < 52 → h' 2032 k = f0V n ru pd k) ∧ h' 2032 52 = 0 ∧ h' 2000 50 = 0 ∧ h' 2000 42 = 0 ∧ h' 2000 53 = 0 ∧ h' 2000 6 = h 2000 6 := by
  rw [pu_s, pu_s, up_off (by decide), q28, q29]
  have F1 : On Tsm h (up (up h 2000 26 (n : Int)) 2000 27 (W : Int)) := (On.up (Or.inr (Or.inr (Or.inr (Or.inr ⟨rfl, Or.inr (Or.inl rfl)⟩))))).tr (On.up (Or.inr (Or.inr (Or.inr (Or.inr ⟨rfl, Or.inr (Or.inr (Or.inl rfl))⟩)))))
  have x26 : up (up h 2000 26 (n : Int)) 2000 27 (W : Int) 2000 26 = (n : Int) := by rw [up_off (by decide), up_at]
  have x27 : up (up h 2000 26 (n : Int)) 2000 27 (W : Int) 2000 27 = (W : Int) := up_at
  have x6 : up (up h 2000 26 (n : Int)) 2000 27 (W : Int) 2000 6 = h 2000 6 := by rw [up_off (by decide), up_off (by decide)]
  have xo : ∀ a k : Int, a ≠ 2000 → up (up h 2000 26 (n : Int)) 2000 27 (W : Int) a k = h a k := fun a k q => by rw [up_ne q, up_ne q]
  generalize up (up h 2000 26 (n : Int)) 2000 27 (W : Int) = g at F1 x26 x27 x6 xo
  have Wp : wp (Md_text_b223 g 2000 0) (fun r h' => r = (n : Int) ∧ On Tsm h h' ∧ h' 2000 26 = (n : Int) ∧ h' 2000 27 = (W : Int) ∧ (∀ k : Int, 0 ≤ k → k < 2 → h' 2018 k = ru k) ∧ (∀ k : Int, 0 ≤ k → k < 3 * (n : Int) → h' 2020 k = pd k) ∧ (∀ k : Int, 0 ≤ k → k < 3 * (W : Int) → h' 2022 k = wd k) ∧ (∀ k : Int, 0 ≤ k → k < 52 → h' 2032 k = f0V n ru pd k) ∧ h' 2032 52 = 0 ∧ h' 2000 50 = 0 ∧ h' 2000 42 = 0 ∧ h' 2000 53 = 0 ∧ h' 2000 6 = h 2000 6) := by
    refine k223 (fun h1 G1 t1 => k248 (fun h2 G2 t2 => k274 (fun h3 G3 t3 => k300 (fun h4 G4 t4 => ?_))))
    have y18 : ∀ k : Int, 0 ≤ k → k < 2 → h4 2018 k = ru k := fun k k0 k1 => by rw [G4 _ _ (by omega), G3 _ _ (by omega), G2 _ _ (by omega), t1 k k0 k1, xo _ _ (by decide)]; exact cr k k0 k1
    have y20 : ∀ k : Int, 0 ≤ k → k < 3 * (n : Int) → h4 2020 k = pd k := fun k k0 k1 => by rw [G4 _ _ (by omega), G3 _ _ (by omega), t2 k k0 (by omega), G1 _ _ (by omega), xo _ _ (by decide)]; exact cp k k0 k1
    have y22 : ∀ k : Int, 0 ≤ k → k < 3 * (W : Int) → h4 2022 k = wd k := fun k k0 k1 => by rw [G4 _ _ (by omega), t3 k k0 (by omega), G2 _ _ (by omega), G1 _ _ (by omega), xo _ _ (by decide)]; exact cw k k0 k1
    have y0 : ∀ k : Int, h4 2000 k = g 2000 k := fun k => by rw [G4 _ _ (by omega), G3 _ _ (by omega), G2 _ _ (by omega), G1 _ _ (by omega)]
    have Fg : On Tsm g h4 := (((G1.w (fun a k q => Or.inl q)).tr (G2.w (fun a k q => Or.inr (Or.inl q)))).tr (G3.w (fun a k q => Or.inr (Or.inr (Or.inl q))))).tr (G4.w (fun a k q => Or.inr (Or.inr (Or.inr (Or.inl q)))))
    refine k322 n6 (by rw [y0]; exact x26) (y18 1 (by decide) (by decide)) y20 t4 (fun h5 G5 u1 u2 u3 u4 u5 => ?_)
    have F5 : On Tsm h4 h5 := G5.w (fun a k q => by
      rcases q with q | ⟨q1, q2 | q2 | q2⟩
      · exact Or.inr (Or.inr (Or.inr (Or.inl q)))
      · exact Or.inr (Or.inr (Or.inr (Or.inr ⟨q1, Or.inr (Or.inr (Or.inr (Or.inr (Or.inl q2))))⟩)))
      · exact Or.inr (Or.inr (Or.inr (Or.inr ⟨q1, Or.inr (Or.inr (Or.inr (Or.inl q2)))⟩)))
      · exact Or.inr (Or.inr (Or.inr (Or.inr ⟨q1, Or.inr (Or.inr (Or.inr (Or.inr (Or.inr q2))))⟩))))
    exact ⟨rfl, (F1.tr Fg).tr F5, by rw [G5 _ _ (by omega), y0]; exact x26, by rw [G5 _ _ (by omega), y0]; exact x27, fun k k0 k1 => by rw [G5 _ _ (by omega)]; exact y18 k k0 k1, fun k k0 k1 => by rw [G5 _ _ (by omega)]; exact y20 k k0 k1, fun k k0 k1 => by rw [G5 _ _ (by omega)]; exact y22 k k0 k1, u1, u2, u3, u4, u5, by rw [G5 _ _ (by omega), y0]; exact x6⟩
  obtain ⟨r, h', e, rfl, q⟩ := Wp
  exact ⟨h', e, q⟩
end C
def Ttc (c a k : Int) : Prop := CTc c a k ∨ (a = 21 ∧ k = 1) ∨ Tse a k ∨ CTm a k ∨ (a = 2000 ∧ k = 0) ∨ Tsm a k
section K
variable {h h' : Hp} {n W lc sc : Nat} {f ru pd wd : Int → Int} {ly : Nat → Pw} {k0 sn : Int}
theorem cyB_of {t : Cst} (b1 : SBd t) (b2 : SOk t) (b3 : whP t.2.1 t.2.2.1 t.2.2.2.2.2) : CyB t.2.1 t.2.2.1 t.2.2.2.1 t.2.2.2.2.1 t.2.2.2.2.2 := by
  obtain ⟨q1, q2, q3, q4, q5⟩ := b1
  refine ⟨fun _ => ⟨b3.1, q1, q2.1, q2.2⟩, q3, fun w w0 w1 => ?_, fun e => absurd e (by have := b3.1; omega)⟩
  obtain ⟨i, hi⟩ : ∃ i : Nat, w = (i : Int) := ⟨w.toNat, by omega⟩
  subst hi
  have z := b3.2 i (by omega)
  have z5 := q5 i (by omega)
  exact ⟨⟨(q4 _ (by omega) (by omega)).1, z.1⟩, ⟨(q4 _ (by omega) (by omega)).1, z.2.1⟩, z.2.2, z5, (q4 _ (by omega) (by omega)).2⟩
theorem tc_keep (I : IvP h n W lc sc ru pd wd f ly k0 sn) {c : Int} (y : IsY c) (e2 : h 20 2 = c) (F : On (Ttc c) h h') {t : Cst} (b1 : SBd t) (b2 : SOk t) (b3 : whP t.2.1 t.2.2.1 t.2.2.2.2.2) (x21 : h' 21 1 = 0) (x6 : h' 2000 6 = 0) (x1 : h' 20 1 = c) (x2 : h' 20 2 = h 20 1) (A : CyA h' c t) (m26 : h' 2000 26 = (t.2.1 : Int)) (m27 : h' 2000 27 = (t.2.2.1 : Int)) (m18 : ∀ k : Int, 0 ≤ k → k < 2 → h' 2018 k = t.2.2.2.1 k) (m20 : ∀ k : Int, 0 ≤ k → k < 3 * (t.2.1 : Int) → h' 2020 k = t.2.2.2.2.1 k) (m22 : ∀ k : Int, 0 ≤ k → k < 3 * (t.2.2.1 : Int) → h' 2022 k = t.2.2.2.2.2 k) (m32 : ∀ k : Int, 0 ≤ k → k < 52 → h' 2032 k = f0V t.2.1 t.2.2.2.1 t.2.2.2.2.1 k) (m52 : h' 2032 52 = 0) (m50 : h' 2000 50 = 0) (m42 : h' 2000 42 = 0) (m53 : h' 2000 53 = 0) (A0 : StA h' 100 t.2.1 (f0V t.2.1 t.2.2.2.1 t.2.2.2.2.1)) (A1 : StA h' 110 t.2.1 (f0V t.2.1 t.2.2.2.1 t.2.2.2.2.1)) (x55 : h' 55 2 = 0) (x12 : h' 20 12 = 0) (x65 : h' 65 4 = 0) (R : RwI h' t.2.1) : IvP h' t.2.1 t.2.2.1 lc sc t.2.2.2.1 t.2.2.2.2.1 t.2.2.2.2.2 (f0V t.2.1 t.2.2.2.1 t.2.2.2.2.1) ly k0 sn := by
  obtain ⟨Tp, Ct, Lw, Lh, Mm, Ss, Sn, Nw, Lg, Td, Im, Pa, Gv, Rw⟩ := I
  have z1 := Ct.1.1.1
  have z2 := Ct.2.2.2
  have z3 := Lw.2.2.1
  have z4 := Ss.2.2.1
  have cy : c = 30 ∨ c = 40 := y
  obtain ⟨T, B0, -⟩ := Tp
  obtain ⟨fst, acts, PF, p⟩ := Pa
  have cb := cyB_of b1 b2 b3
  obtain ⟨a3, a4, a5, a6, a7, a8⟩ := A
  have f48 : f0V t.2.1 t.2.2.2.1 t.2.2.2.2.1 48 = 0 := by
    unfold f0V
    rw [if_neg (by have := b2.2.1; omega), if_neg (by decide)]
  have f49 : f0V t.2.1 t.2.2.2.1 t.2.2.2.2.1 49 = t.2.2.2.1 1 := by
    unfold f0V
    rw [if_neg (by have := b2.2.1; omega), if_pos rfl]
  have f51 : f0V t.2.1 t.2.2.2.1 t.2.2.2.2.1 51 = 0 := by
    unfold f0V
    rw [if_neg (by have := b2.2.1; omega), if_neg (by decide)]
  have Tp' : TpI h' := ⟨0, B0, bok0 B0, x21, x6, fun k hk => absurd hk (by omega), fun k hk => absurd hk (by omega)⟩
  have Ct' : CtI h' t.2.1 t.2.2.1 t.2.2.2.1 t.2.2.2.2.1 t.2.2.2.2.2 := ⟨⟨⟨by rw [x1]; exact cy, by rw [x1]; exact a4, b2.2.1⟩, by rw [x1]; exact a5, b2.2.2, by rw [x1]; exact a6, by rw [x1]; exact a7, by rw [x1]; exact a8⟩, ⟨m26, b2.2.1, m27, b2.2.2, m18, m20, m22⟩, cb, by rw [x1, x2]; omega⟩
  have pw : 0 < 2 ^ t.2.2.1 := Nat.pow_pos (by decide)
  have Nw' : NwI h' t.2.1 t.2.2.1 (f0V t.2.1 t.2.2.2.1 t.2.2.2.2.1) := ⟨A1, stm_of A1 m26 m32, by rw [f48]; omega, by rw [f49]; have := b1.2.1; omega, by rw [f51]; omega⟩
  have Lg' : LG (h' 61) (h' 2032) (f0V t.2.1 t.2.2.2.1 t.2.2.2.2.1 51) := by
    rw [f51]
    exact ⟨by rw [m52]; decide, fun i i0 i1 => absurd i1 (by omega)⟩
  have Pa' : PaI h' t.2.1 t.2.2.1 (f0V t.2.1 t.2.2.2.1 t.2.2.2.2.1 51) := ⟨fst, 0, PF, by rw [F 55 1 (by unfold Ttc CTc Tse CTm Tsm; omega)]; exact p.1, x55, m42, p.2.2.2.1, by decide, fun j hj => absurd hj (by omega), fun i j _ hj => absurd hj (by omega)⟩
  have Gv' : GvI h' t.2.2.1 := ⟨0, x65, m50, by decide, fun i i0 i1 => absurd i1 (by omega)⟩
  have Td' : TdI h' t.2.1 t.2.2.2.1 t.2.2.2.2.1 := fun _ => A0
  have Im' : ImI h' t.2.1 t.2.2.1 := Or.inl ⟨x12, m53⟩
  exact ⟨Tp',
    Ct',
    Lw.e (F.e (fun a k t c => by unfold Ttc CTc Tse CTm Tsm at t; unfold LwC at c; omega)),
    Lh.e (F.e (fun a k t c => by unfold Ttc CTc Tse CTm Tsm at t; unfold LhC at c; omega)),
    MmI.e Mm (F.e (fun a k t c => by unfold Ttc CTc Tse CTm Tsm at t; unfold MmC at c; omega)),
    Ss.e (F.e (fun a k t c => by unfold Ttc CTc Tse CTm Tsm at t; unfold SsC at c; omega)),
    Sn.e (F.e (fun a k t c => by unfold Ttc CTc Tse CTm Tsm at t; unfold SnC at c; omega)),
    Nw',
    Lg',
    Td',
    Im',
    Pa',
    Gv',
    R⟩
end K
theorem tx_cty {h : Hp} (I : Inv h) : ∃ (r : Int) (h1 : Hp) (r2 : Int) (h2 : Hp), Cc_text h 20 0 = some (r, h1) ∧ Md_text h1 2000 0 = some (r2, h2) ∧ w32 r = w32 r2 ∧ Inv h2 := by
  obtain ⟨n, W, lc, sc, ru, pd, wd, f, ly, k0, sn, J⟩ := I
  have J' := J
  obtain ⟨Tp, Ct, Lw, Lh, Mm, Ss, Sn, Nw, Lg, Td, Im, Pa, Gv, Rw⟩ := J'
  obtain ⟨L, B, b, t1, t2, t3, t4⟩ := Tp
  have z1 := Ct.1.1.1
  have z2 := Ct.2.2.2
  have y : IsY (h 20 2) := by unfold IsY; omega
  have w01 : ¬ w32 0 = 1 := by decide
  have w02 : ¬ w32 0 = 2 := by decide
  have i0 : ir (w32 0) := ⟨by decide, by decide⟩
  have L240 := b.1
  generalize hc : h 20 2 = c at y z2
  have cy : c = 30 ∨ c = 40 := y
  obtain ⟨h1, F1, q1⟩ := rc0 b y hc t1 t3
  have k2000 : ∀ a k : Int, 2000 ≤ a → h1 a k = h a k := fun a k a0 => F1 a k (by clear q1; unfold CTc; omega)
  unfold Cc_text Cc_text_b24 Cc_text_b39 Md_text Md_text_b30
  rw [if_neg (by decide), if_neg (by decide), if_neg w01, if_neg w02, cC_s SH20' rfl]
  rcases q1 with ⟨w, x1, x2, x3, x4⟩ | ⟨q, t, x1, x2, A⟩
  · rw [x3, cl_s, if_pos wz0]
    obtain ⟨h2, F2, q2⟩ := rdm0 (h := up h1 2000 0 0) b (by rw [up_off (by decide), k2000 _ _ (by decide)]; exact t2) (fun k hk => by rw [up_ne (by decide), k2000 _ _ (by decide)]; exact t4 k hk)
    rcases q2 with ⟨w', y1, y2, y3⟩ | ⟨q', t', y1, y2, y3⟩
    · have Fa : On (Tfl c (lc : Int) (sc : Int)) h h1 := F1.w (fun _ _ q => Or.inl q)
      have Fb : On (Tfl c (lc : Int) (sc : Int)) (up h1 2000 0 0) h2 := F2.w (fun _ _ q => q.elim (fun u => Or.inr (Or.inr (Or.inr (Or.inl u)))) (fun u => Or.inr (Or.inr (Or.inr (Or.inr (Or.inr (Or.inr u)))))))
      have FF : On (Tfl c (lc : Int) (sc : Int)) h h2 := (Fa.tr (On.up (Or.inr (Or.inr (Or.inr (Or.inr (Or.inr (Or.inr ⟨rfl, rfl⟩)))))))).tr Fb
      refine so_s ⟨-1, h2, ?_, rfl, ⟨n, W, lc, sc, ru, pd, wd, f, ly, k0, sn, fl_keep J (by rw [hc]; exact FF)⟩⟩
      rw [cC_s SH2000' rfl, pu_s, isIn1 i0 I01.1 I01.2.2.1 (by decide), cl_s, if_neg wn1, if_neg w01, if_neg w02]
      unfold Md_text_b43
      rw [cC_s SH2000' rfl, y3, cl_s, if_neg (by rw [w32_n (x := (w' : Int)) (by omega) (by omega)]; omega)]
    · rw [x1] at y1; cases y1
  · obtain ⟨b1, b2, b3⟩ := cyP_b x1
    have A' := A
    obtain ⟨a3, a4, a5, a6, a7, a8⟩ := A'
    have u21 : ∀ a k : Int, a ≠ 21 → up h1 21 1 0 a k = h1 a k := fun a k q => up_ne q k
    have c1 : up h1 21 1 0 20 1 = h 20 1 := by rw [u21 _ _ (by decide), F1 20 1 (by unfold CTc; omega)]
    have c2 : up h1 21 1 0 20 2 = c := by rw [u21 _ _ (by decide), F1 20 2 (by unfold CTc; omega)]; exact hc
    obtain ⟨h3, e3, F3, s1, s2, S0, S1, s55, s12, s65, R3⟩ := settle_e (h := up h1 21 1 0) (ru := t.2.2.2.1) (pd := t.2.2.2.2.1) y b2.2.1 c1 c2 (by rw [u21 _ _ (by omega)]; exact a4) (fun k k0 k1 => by rw [u21 _ _ (by omega)]; exact a6 k k0 k1) (fun k k0 k1 => by rw [u21 _ _ (by omega)]; exact a7 k k0 k1) b1.2.1 b1.2.2.1
    rw [x2, cl_s, if_neg wn1, cC_s SH21 rfl, pu_s, if_neg w01, if_neg w02, e3, cl_s]
    have hi : ∀ a k : Int, 2000 ≤ a → h3 a k = h a k := fun a k a0 => by rw [F3 a k (by unfold Tse; omega), u21 _ _ (by omega), k2000 a k a0]
    have hcy : ∀ a k : Int, c ≤ a → a ≤ c + 3 → h3 a k = h1 a k := fun a k q0 q1 => by rw [F3 a k (by unfold Tse; omega), u21 _ _ (by omega)]
    have s21 : h3 21 1 = 0 := by rw [F3 21 1 (by unfold Tse; omega), up_at]
    have Fa : On (Ttc c) h h1 := F1.w (fun _ _ q => Or.inl q)
    have Fb : On (Ttc c) (up h1 21 1 0) h3 := F3.w (fun _ _ q => Or.inr (Or.inr (Or.inl q)))
    have F4 : On (Ttc c) h (up h3 2000 0 0) := ((Fa.tr (On.up (Or.inr (Or.inl ⟨rfl, rfl⟩)))).tr Fb).tr (On.up (Or.inr (Or.inr (Or.inr (Or.inr (Or.inl ⟨rfl, rfl⟩))))))
    refine so_s ?_
    rw [cC_s SH2000' rfl, pu_s, isIn1 i0 I01.1 I01.2.2.1 (by decide), cl_s, if_neg wn1, if_neg w01, if_neg w02]
    obtain ⟨h5, F5, q2⟩ := rdm0 (h := up h3 2000 0 0) b (by rw [up_off (by decide), hi _ _ (by decide)]; exact t2) (fun k hk => by rw [up_ne (by decide), hi _ _ (by decide)]; exact t4 k hk)
    rcases q2 with ⟨w', y1, y2, y3⟩ | ⟨q', t', y1, y2, y3⟩
    · rw [x1] at y1; cases y1
    · rw [x1] at y1
      have et : t = t' := by cases y1; rfl
      subst et
      obtain ⟨v1, v2, v3, v4, v5, v6⟩ := y3
      have u6 : ∀ a k : Int, (a = 2000 → k ≠ 6) → up h5 2000 6 0 a k = h5 a k := fun a k q => by
        by_cases z : a = 2000
        · subst z; exact up_off (q rfl)
        · exact up_ne z k
      obtain ⟨h7, e7, F7, r26, r27, r18, r20, r22, r32, r52, r50, r42, r53, r6⟩ := msettle_e (h := up h5 2000 6 0) (n := t.2.1) (W := t.2.2.1) (ru := t.2.2.2.1) (pd := t.2.2.2.2.1) (wd := t.2.2.2.2.2) b2.2.1 b2.2.2 (by rw [u6 _ _ (fun _ => by decide)]; exact v2) (by rw [u6 _ _ (fun _ => by decide)]; exact v3) (fun k k0 k1 => by rw [u6 _ _ (fun e => absurd e (by decide))]; exact v4 k k0 k1) (fun k k0 k1 => by rw [u6 _ _ (fun e => absurd e (by decide))]; exact v5 k k0 k1) (fun k k0 k1 => by rw [u6 _ _ (fun e => absurd e (by decide))]; exact v6 k k0 k1)
      have Fc : On (Ttc c) (up h3 2000 0 0) h5 := F5.w (fun _ _ q => q.elim (fun u => Or.inr (Or.inr (Or.inr (Or.inl u)))) (fun u => Or.inr (Or.inr (Or.inr (Or.inr (Or.inl u))))))
      have Fd : On (Ttc c) (up h5 2000 6 0) h7 := F7.w (fun _ _ q => Or.inr (Or.inr (Or.inr (Or.inr (Or.inr q)))))
      have FF : On (Ttc c) h h7 := ((F4.tr Fc).tr (On.up (Or.inr (Or.inr (Or.inr (Or.inr (Or.inr (Or.inr (Or.inr (Or.inr (Or.inr ⟨rfl, Or.inl rfl⟩))))))))))).tr Fd
      have lo : ∀ a k : Int, a < 2000 → h7 a k = h3 a k := fun a k a0 => by rw [F7 a k (by unfold Tsm; omega), u6 _ _ (fun e => absurd e (by omega)), F5 a k (by unfold CTm; omega), up_ne (by omega)]
      have lor : ∀ a : Int, a < 2000 → h7 a = h3 a := fun a a0 => funext fun k => lo a k a0
      refine ⟨(t.2.1 : Int), h7, ?_, rfl, ⟨t.2.1, t.2.2.1, lc, sc, t.2.2.2.1, t.2.2.2.2.1, t.2.2.2.2.2, _, ly, k0, sn, tc_keep J y hc FF b1 b2 b3 (by rw [lo _ _ (by decide)]; exact s21) (by rw [r6, up_at]) (by rw [lo _ _ (by decide)]; exact s1) (by rw [lo _ _ (by decide)]; exact s2) ⟨by rw [lo _ _ (by omega), hcy _ _ (by omega) (by omega)]; exact a3, by rw [lo _ _ (by omega), hcy _ _ (by omega) (by omega)]; exact a4, by rw [lo _ _ (by omega), hcy _ _ (by omega) (by omega)]; exact a5, fun k k0 k1 => by rw [lo _ _ (by omega), hcy _ _ (by omega) (by omega)]; exact a6 k k0 k1, fun k k0 k1 => by rw [lo _ _ (by omega), hcy _ _ (by omega) (by omega)]; exact a7 k k0 k1, fun k k0 k1 => by rw [lo _ _ (by omega), hcy _ _ (by omega) (by omega)]; exact a8 k k0 k1⟩ r26 r27 r18 r20 r22 r32 r52 r50 r42 r53 (S0.c (fun k _ _ => lo _ _ (by decide)) (fun j j0 j1 => lor _ (by omega))) (S1.c (fun k _ _ => lo _ _ (by decide)) (fun j j0 j1 => lor _ (by omega))) (by rw [lo _ _ (by decide)]; exact s55) (by rw [lo _ _ (by decide)]; exact s12) (by rw [lo _ _ (by decide)]; exact s65) (R3.e (fun a k q => lo a k (by unfold RwC at q; omega)))⟩⟩
      unfold Md_text_b43
      rw [cC_s SH2000' rfl, y2, cl_s, if_pos (by decide), bd_s, pu_s, if_neg w01, if_neg w02]
      exact e7
theorem So_text : S_text Inv := by
  intro h a1 I i1
  by_cases c : 0 ≤ a1 ∧ a1 ≤ 2
  · rcases (show a1 = 0 ∨ a1 = 1 ∨ a1 = 2 by omega) with e | e | e
    · subst e; exact tx_cty I
    · subst e; exact tx_law I
    · subst e; exact tx_sess I
  · unfold Cc_text Md_text
    rw [ri i1]
    have no2 : ∀ K : Option (Int × Hp), (if a1 < 0 then some ((-1 : Int), h) else if 2 < a1 then some ((-1 : Int), h) else K) = some ((-1 : Int), h) := fun K => by
      by_cases d : a1 < 0
      · rw [if_pos d]
      · rw [if_neg d, if_pos (by omega)]
    rw [no2]
    refine so_s ?_
    rw [cC_s SH2000' rfl, pu_s, isIn0 i1 I01.1 I01.2.2.1 c, cl_s, if_pos wz0]
    exact ⟨_, _, rfl, rfl, Inv.qs I t0_sc⟩
end PureText
