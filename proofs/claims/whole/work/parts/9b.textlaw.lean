section PureTextLaw
/-! TEXT: a law -/
theorem w8_w8 (x : Int) : w8 (w8 x) = w8 x := by unfold w8; omega
theorem bok0 (B : Nat → Int) : BOK B 0 := ⟨by decide, fun k hk => absurd hk (by omega)⟩
section M
variable {h : Hp}
theorem tm71 {lc L : Nat} (l4 : lc < 4) (L240 : L ≤ 240) (h7 : h 2000 7 = (lc : Int)) : ∃ h', Md_text_b71 h 2000 (L : Int) 0 = some ((lc : Int), h') ∧ On (fun a k => (a = 2002 ∧ 240 * (lc : Int) ≤ k) ∨ (a = 2003 ∧ k = (lc : Int)) ∨ (a = 2000 ∧ k = 7)) h h' ∧ h' 2000 7 = ((lc + 1 : Nat) : Int) ∧ h' 2003 (lc : Int) = (L : Int) ∧ ∀ k : Nat, k < L → h' 2002 (240 * (lc : Int) + (k : Int)) = w8 (h 2001 (k : Int)) := by
  have Wp : wp (Md_text_b71 h 2000 (L : Int) 0) (fun r h' => r = (lc : Int) ∧ On (fun a k => (a = 2002 ∧ 240 * (lc : Int) ≤ k) ∨ (a = 2003 ∧ k = (lc : Int)) ∨ (a = 2000 ∧ k = 7)) h h' ∧ h' 2000 7 = ((lc + 1 : Nat) : Int) ∧ h' 2003 (lc : Int) = (L : Int) ∧ ∀ k : Nat, k < L → h' 2002 (240 * (lc : Int) + (k : Int)) = w8 (h 2001 (k : Int))) := by
    unfold Md_text_b71
    refine itr_wp (fun i σ => ∃ h2 : Hp, σ = (h2, 2000, (L : Int), (i : Int)) ∧ On (fun a k => a = 2002 ∧ 240 * (lc : Int) ≤ k) h h2 ∧ ∀ k : Nat, k < i → h2 2002 (240 * (lc : Int) + (k : Int)) = w8 (h 2001 (k : Int))) L ?_ ?_ (FU_gt (by omega)) ⟨h, rfl, On.rf, fun k hk => absurd hk (by omega)⟩
    · rintro i σ kk hi ⟨h2, rfl, F2, T2⟩ KK
      show wp (Md_text_b71_body kk h2 2000 (L : Int) (i : Int)) _
      have e7 : h2 2000 7 = (lc : Int) := by rw [F2 2000 7 (by omega)]; exact h7
      unfold Md_text_b71_body
      rw [w32_n (x := (i : Int)) (by omega) (by omega), w32_n (x := (L : Int)) (by omega) (by omega), if_pos (by omega), cC_s SH2000' rfl, e7, cX_s SH2001 (by omega) (by omega) (by decide), cY_s SH2002 (by decide) (by omega) (by omega) (by decide), w32_n (x := 240 * (lc : Int) + (i : Int)) (by omega) (by omega), pu_s, rd_ge (by decide), F2 2001 _ (by omega), show (i : Int) + 1 = ((i + 1 : Nat) : Int) by omega]
      refine KK _ ⟨_, rfl, F2.tr (On.up ⟨rfl, by omega⟩), fun k hk => ?_⟩
      by_cases z : k = i
      · rw [z, up_at]
      · rw [up_off (by omega)]; exact T2 k (by omega)
    · rintro σ kk ⟨h2, rfl, F2, T2⟩
      show wp (Md_text_b71_body kk h2 2000 (L : Int) (L : Int)) _
      have e7 : h2 2000 7 = (lc : Int) := by rw [F2 2000 7 (by omega)]; exact h7
      unfold Md_text_b71_body
      rw [if_neg (Int.lt_irrefl _), cC_s SH2000' rfl, e7, cY_s SH2003 (by decide) (by omega) (by omega) (by decide), w32_n (x := (lc : Int)) (by omega) (by omega), pu_s, pu_s, up_at, up_ne (by decide), e7]
      have G1 : On (fun a k => (a = 2002 ∧ 240 * (lc : Int) ≤ k) ∨ (a = 2003 ∧ k = (lc : Int)) ∨ (a = 2000 ∧ k = 7)) h h2 := F2.w (fun a k q => Or.inl q)
      refine wp_i ⟨by omega, (G1.tr (On.up (Or.inr (Or.inl ⟨rfl, rfl⟩)))).tr (On.up (Or.inr (Or.inr ⟨rfl, rfl⟩))), by rw [up_at]; omega, by rw [up_ne (by decide), up_at], fun k hk => ?_⟩
      rw [up_ne (by decide), up_ne (by decide)]
      exact T2 k hk
  obtain ⟨r, h', e, rfl, q⟩ := Wp
  exact ⟨h', e, q⟩
end M
def Ttl (lc : Int) (a k : Int) : Prop := LTc (1000 + 10 * lc) a k ∨ (a = 21 ∧ k = 1) ∨ (a = 20 ∧ k = 5) ∨ GTm a k ∨ (a = 2000 ∧ (k = 0 ∨ k = 6 ∨ k = 7)) ∨ (a = 2002 ∧ 240 * lc ≤ k) ∨ (a = 2003 ∧ k = lc)
section K
variable {h h' : Hp} {n W lc sc : Nat} {f ru pd wd : Int → Int} {ly : Nat → Pw} {k0 sn : Int}
theorem tl_keep (I : IvP h n W lc sc ru pd wd f ly k0 sn) (l4 : lc < 4) (F : On (Ttl (lc : Int)) h h') {B : Nat → Int} {L q : Nat} {y : Pw} (b : BOK B L) (lp : laP B L = (q, some y)) (x5 : h' 20 5 = ((lc + 1 : Nat) : Int)) (x7 : h' 2000 7 = ((lc + 1 : Nat) : Int)) (x21 : h' 21 1 = 0) (x6 : h' 2000 6 = 0) (x3 : h' 2003 (lc : Int) = (L : Int)) (x2 : ∀ k : Nat, k < L → h' 2002 (240 * (lc : Int) + (k : Int)) = w8 (B k)) (x1 : LCo h' (1000 + 10 * (lc : Int)) y.1) (y240 : y.1.length ≤ 240) : IvP h' n W (lc + 1) sc ru pd wd f (fun i => if i = lc then y else ly i) k0 sn := by
  obtain ⟨Tp, Ct, Lw, Lh, Mm, Ss, Sn, Nw, Lg, Td, Im, Pa, Gv, Rw⟩ := I
  have z1 := Ct.1.1.1
  have z4 := Ss.2.2.1
  obtain ⟨T, B0, -⟩ := Tp
  have Tp' : TpI h' := ⟨0, B0, bok0 B0, x21, x6, fun k hk => absurd hk (by omega), fun k hk => absurd hk (by omega)⟩
  have Lw' : LwI h' (lc + 1) (fun i => if i = lc then y else ly i) := by
    refine ⟨x5, x7, by omega, fun i hi => ?_⟩
    by_cases e : i = lc
    · subst e
      dsimp only
      rw [if_pos rfl]
      exact ⟨B, L, q, b, lp, x3, x2, x1, y240⟩
    · dsimp only
      rw [if_neg e]
      obtain ⟨B', L', q', i1, i2, i3, i4, ⟨i5, i6⟩, i7⟩ := Lw.2.2.2 i (by omega)
      have L240 := i1.1
      exact ⟨B', L', q', i1, i2, by rw [F 2003 _ (by unfold Ttl LTc GTm; omega)]; exact i3, fun k hk => by rw [F 2002 _ (by unfold Ttl LTc GTm; omega)]; exact i4 k hk, ⟨by rw [F _ 2 (by unfold Ttl LTc GTm; omega)]; exact i5, fun j x ej => by rw [F _ _ (by unfold Ttl LTc GTm; omega)]; exact i6 j x ej⟩, i7⟩
  have Mm' : MmI h' (lc + 1) (fun i => if i = lc then y else ly i) := fun s s0 s1 => by
    rw [F 2036 s (by unfold Ttl LTc GTm; omega), F 2037 s (by unfold Ttl LTc GTm; omega)]
    rcases Mm s s0 s1 with m | ⟨i, g, hd, lo, bo, ma, ev, m1, m2, m3, m4⟩
    · exact Or.inl m
    · refine Or.inr ⟨i, g, hd, lo, bo, ma, ev, by omega, m2, m3, ?_⟩
      dsimp only
      rw [if_neg (by omega)]
      exact m4
  have Lh' : LhI h' (lc + 1) k0 := ⟨by rw [F 20 6 (by unfold Ttl LTc GTm; omega)]; exact Lh.1, by rw [F 2000 34 (by unfold Ttl LTc GTm; omega)]; exact Lh.2.1, Lh.2.2.1, by have := Lh.2.2.2; omega⟩
  exact ⟨Tp',
    Ct.e (F.e (fun a k t c => by unfold Ttl LTc GTm at t; unfold CtC at c; omega)),
    Lw',
    Lh',
    Mm',
    Ss.e (F.e (fun a k t c => by unfold Ttl LTc GTm at t; unfold SsC at c; omega)),
    Sn.e (F.e (fun a k t c => by unfold Ttl LTc GTm at t; unfold SnC at c; omega)),
    Nw.e (F.e (fun a k t c => by unfold Ttl LTc GTm at t; unfold NwC at c; omega)),
    lg_on F (fun a k t c => by unfold Ttl LTc GTm at t; unfold LgC at c; omega) Lg,
    Td.e (F.e (fun a k t c => by unfold Ttl LTc GTm at t; unfold TdC at c; omega)),
    Im.e (F.e (fun a k t c => by unfold Ttl LTc GTm at t; unfold ImC at c; omega)),
    Pa.e (F.e (fun a k t c => by unfold Ttl LTc GTm at t; unfold PaC at c; omega)),
    Gv.e (F.e (fun a k t c => by unfold Ttl LTc GTm at t; unfold GvC at c; omega)),
    Rw.e (F.e (fun a k t c => by unfold Ttl LTc GTm at t; unfold RwC at c; omega))⟩
end K
theorem tx_law {h : Hp} (I : Inv h) : ∃ (r : Int) (h1 : Hp) (r2 : Int) (h2 : Hp), Cc_text h 20 1 = some (r, h1) ∧ Md_text h1 2000 1 = some (r2, h2) ∧ w32 r = w32 r2 ∧ Inv h2 := by
  have I0 := I
  obtain ⟨n, W, lc, sc, ru, pd, wd, f, ly, k0, sn, J⟩ := I
  have J' := J
  obtain ⟨Tp, Ct, Lw, Lh, Mm, Ss, Sn, Nw, Lg, Td, Im, Pa, Gv, Rw⟩ := J'
  obtain ⟨L, B, b, t1, t2, t3, t4⟩ := Tp
  have l4 := Lw.2.2.1
  have w11 : w32 1 = 1 := by decide
  have w12 : ¬ w32 1 = 2 := by decide
  have i1 : ir (w32 1) := ⟨by decide, by decide⟩
  unfold Cc_text Cc_text_b24 Md_text Md_text_b30
  rw [if_neg (by decide), if_neg (by decide), if_pos w11, cC_s SH20' rfl, Lw.1, w32_n (x := (lc : Int)) (by omega) (by omega)]
  by_cases c : lc = 4
  · rw [if_neg (by omega)]
    refine so_s ?_
    have o7 : up h 2000 0 0 2000 7 = (lc : Int) := by rw [up_off (by decide)]; exact Lw.2.1
    rw [cC_s SH2000' rfl, pu_s, isIn1 i1 I01.1 I01.2.2.1 (by decide), cl_s, if_neg wn1, if_pos w11, o7, if_pos (by rw [w32_n (x := (lc : Int)) (by omega) (by omega)]; omega)]
    exact ⟨_, _, rfl, rfl, Inv.qs I0 t0_sc⟩
  · rw [if_pos (by omega), if_neg w12]
    unfold Cc_text_b39
    obtain ⟨h1, F1, q1⟩ := rc1 b l4 Lw.1 t1 t3
    have k2000 : ∀ a k : Int, 2000 ≤ a → h1 a k = h a k := fun a k a0 => F1 a k (by clear q1; unfold LTc; omega)
    rcases q1 with ⟨w, x1, x2, x3, x4⟩ | ⟨q, y, x1, x2, x3, x4⟩
    · rw [cC_s SH20' rfl, x3, cl_s, if_pos wz0]
      have o7 : up h1 2000 0 0 2000 7 = (lc : Int) := by rw [up_off (by decide), k2000 _ _ (by decide)]; exact Lw.2.1
      obtain ⟨h2, F2, q2⟩ := rdm1 (h := up h1 2000 0 0) b (by rw [up_off (by decide), k2000 _ _ (by decide)]; exact t2) (fun k hk => by rw [up_ne (by decide), k2000 _ _ (by decide)]; exact t4 k hk)
      rcases q2 with ⟨w', y1, y2, y3⟩ | ⟨q', t', y1, y2⟩
      · have Fa : On (Tfl (h 20 2) (lc : Int) (sc : Int)) h h1 := F1.w (fun _ _ q => Or.inr (Or.inl q))
        have Fb : On (Tfl (h 20 2) (lc : Int) (sc : Int)) (up h1 2000 0 0) h2 := F2.w (fun _ _ q => q.elim (fun u => Or.inr (Or.inr (Or.inr (Or.inr (Or.inl u))))) (fun u => Or.inr (Or.inr (Or.inr (Or.inr (Or.inr (Or.inr u)))))))
        have FF : On (Tfl (h 20 2) (lc : Int) (sc : Int)) h h2 := (Fa.tr (On.up (Or.inr (Or.inr (Or.inr (Or.inr (Or.inr (Or.inr ⟨rfl, rfl⟩)))))))).tr Fb
        refine so_s ⟨-1, h2, ?_, rfl, ⟨n, W, lc, sc, ru, pd, wd, f, ly, k0, sn, fl_keep J FF⟩⟩
        rw [cC_s SH2000' rfl, pu_s, isIn1 i1 I01.1 I01.2.2.1 (by decide), cl_s, if_neg wn1, if_pos w11, o7, if_neg (by rw [w32_n (x := (lc : Int)) (by omega) (by omega)]; omega), if_neg w12]
        have L240 := b.1
        unfold Md_text_b43
        rw [cC_s SH2000' rfl, y3, cl_s, if_neg (by rw [w32_n (x := (w' : Int)) (by omega) (by omega)]; omega)]
      · rw [x1] at y1; cases y1
    · have x5 : up h1 21 1 0 20 5 = (lc : Int) := by rw [up_ne (by decide), F1 20 5 (by unfold LTc; omega)]; exact Lw.1
      rw [cC_s SH20' rfl, x2, cl_s, if_neg wn1, cC_s SH21 rfl, pu_s, if_pos w11, x5, pu_s]
      have Fa : On (Ttl (lc : Int)) h h1 := F1.w (fun _ _ q => Or.inl q)
      have F3 : On (Ttl (lc : Int)) h (up (up (up h1 21 1 0) 20 5 ((lc : Int) + 1)) 2000 0 0) := ((Fa.tr (On.up (Or.inr (Or.inl ⟨rfl, rfl⟩)))).tr (On.up (Or.inr (Or.inr (Or.inl ⟨rfl, rfl⟩))))).tr (On.up (Or.inr (Or.inr (Or.inr (Or.inr (Or.inl ⟨rfl, Or.inl rfl⟩))))))
      have g5 : up (up (up h1 21 1 0) 20 5 ((lc : Int) + 1)) 2000 0 0 20 5 = (lc : Int) + 1 := by rw [up_ne (by decide), up_at]
      have g21 : up (up (up h1 21 1 0) 20 5 ((lc : Int) + 1)) 2000 0 0 21 1 = 0 := by rw [up_ne (by decide), up_ne (by decide), up_at]
      have gLC : LCo (up (up (up h1 21 1 0) 20 5 ((lc : Int) + 1)) 2000 0 0) (1000 + 10 * (lc : Int)) y.1 := ⟨by rw [up_ne (by omega), up_ne (by omega), up_ne (by omega)]; exact x3.1, fun i x ex => by rw [up_ne (by omega), up_ne (by omega), up_ne (by omega)]; exact x3.2 i x ex⟩
      have g20 : ∀ a k : Int, 2000 ≤ a → (a = 2000 → k ≠ 0) → up (up (up h1 21 1 0) 20 5 ((lc : Int) + 1)) 2000 0 0 a k = h a k := fun a k a0 e => by
        by_cases z : a = 2000
        · subst z; rw [up_off (e rfl), up_ne (by decide), up_ne (by decide), k2000 _ _ (by decide)]
        · rw [up_ne z, up_ne (by omega), up_ne (by omega), k2000 _ _ a0]
      refine so_s ?_
      rw [cC_s SH2000' rfl, pu_s]
      generalize up (up (up h1 21 1 0) 20 5 ((lc : Int) + 1)) 2000 0 0 = g at F3 g5 g21 gLC g20
      have o7 : g 2000 7 = (lc : Int) := by rw [g20 _ _ (by decide) (fun _ => by decide)]; exact Lw.2.1
      obtain ⟨h2, F2, q2⟩ := rdm1 (h := g) b (by rw [g20 _ _ (by decide) (fun _ => by decide)]; exact t2) (fun k hk => by rw [g20 _ _ (by decide) (fun e => absurd e (by decide))]; exact t4 k hk)
      have L240 := b.1
      rcases q2 with ⟨w', y1, y2, y3⟩ | ⟨q', t', y1, y2⟩
      · rw [x1] at y1; cases y1
      · have o6 : h2 2000 6 = (L : Int) := by rw [F2 2000 6 (by unfold GTm; omega), g20 _ _ (by decide) (fun _ => by decide)]; exact t2
        have o72 : up h2 2000 6 0 2000 7 = (lc : Int) := by rw [up_off (by decide), F2 2000 7 (by unfold GTm; omega)]; exact o7
        obtain ⟨h4, e4, F4, x7, x3', x2'⟩ := tm71 (h := up h2 2000 6 0) (lc := lc) (L := L) (by omega) L240 o72
        have Fb : On (Ttl (lc : Int)) g h2 := F2.w (fun _ _ q => q.elim (fun u => Or.inr (Or.inr (Or.inr (Or.inl u)))) (fun u => Or.inr (Or.inr (Or.inr (Or.inr (Or.inl ⟨u.1, Or.inl u.2⟩))))))
        have Fc : On (Ttl (lc : Int)) (up h2 2000 6 0) h4 := F4.w (fun a k q => by
          rcases q with q | q | q
          · exact Or.inr (Or.inr (Or.inr (Or.inr (Or.inr (Or.inl q)))))
          · exact Or.inr (Or.inr (Or.inr (Or.inr (Or.inr (Or.inr q)))))
          · exact Or.inr (Or.inr (Or.inr (Or.inr (Or.inl ⟨q.1, Or.inr (Or.inr q.2)⟩)))))
        have FF : On (Ttl (lc : Int)) h h4 := ((F3.tr Fb).tr (On.up (Or.inr (Or.inr (Or.inr (Or.inr (Or.inl ⟨rfl, Or.inr (Or.inl rfl)⟩))))))).tr Fc
        have lo : ∀ a k : Int, a < 2000 → h4 a k = g a k := fun a k a0 => by rw [F4 a k (by omega), up_ne (by omega), F2 a k (by unfold GTm; omega)]
        refine ⟨(lc : Int), h4, ?_, rfl, ⟨n, W, lc + 1, sc, ru, pd, wd, f, _, k0, sn, tl_keep J (by omega) FF b x1 ?_ x7 ?_ ?_ x3' (fun k hk => ?_) ?_ x4⟩⟩
        · rw [isIn1 i1 I01.1 I01.2.2.1 (by decide), cl_s, if_neg wn1, if_pos w11, o7, if_neg (by rw [w32_n (x := (lc : Int)) (by omega) (by omega)]; omega), if_neg w12]
          unfold Md_text_b43
          rw [cC_s SH2000' rfl, y2, cl_s, if_pos (by decide), o6, bd_s, pu_s, if_pos w11, e4]
        · rw [lo _ _ (by decide), g5]; omega
        · rw [lo _ _ (by decide), g21]
        · rw [F4 2000 6 (by omega), up_at]
        · rw [x2' k hk, up_ne (by decide), F2 2001 _ (by unfold GTm; omega), g20 _ _ (by decide) (fun e => absurd e (by decide)), t4 k hk, w8_w8]
        · exact ⟨by rw [lo _ _ (by omega)]; exact gLC.1, fun i x ex => by rw [lo _ _ (by omega)]; exact gLC.2 i x ex⟩
end PureTextLaw
