section PureTextSess
/-! TEXT: a session -/
section M
variable {h : Hp}
theorem tm137 {sc : Nat} (s4 : sc < 4) (h30 : h 2000 30 = (sc : Int)) : ∃ h', Md_text_b137 h 2000 0 = some ((sc : Int), h') ∧ On (fun a k => (a = 2024 ∧ 48 * (sc : Int) ≤ k) ∨ (a = 2025 ∧ k = (sc : Int)) ∨ (a = 2000 ∧ k = 30)) h h' ∧ h' 2000 30 = ((sc + 1 : Nat) : Int) ∧ h' 2025 (sc : Int) = h 2025 4 ∧ ∀ k : Int, 0 ≤ k → k < 48 → h' 2024 (48 * (sc : Int) + k) = h 2024 (192 + k) := by
  have Wp : wp (Md_text_b137 h 2000 0) (fun r h' => r = (sc : Int) ∧ On (fun a k => (a = 2024 ∧ 48 * (sc : Int) ≤ k) ∨ (a = 2025 ∧ k = (sc : Int)) ∨ (a = 2000 ∧ k = 30)) h h' ∧ h' 2000 30 = ((sc + 1 : Nat) : Int) ∧ h' 2025 (sc : Int) = h 2025 4 ∧ ∀ k : Int, 0 ≤ k → k < 48 → h' 2024 (48 * (sc : Int) + k) = h 2024 (192 + k)) := by
    unfold Md_text_b137
    refine itr_wp (fun i σ => ∃ h2 : Hp, σ = (h2, 2000, (i : Int)) ∧ On (fun a k => a = 2024 ∧ 48 * (sc : Int) ≤ k ∧ k < 192) h h2 ∧ ∀ k : Int, 0 ≤ k → k < (i : Int) → h2 2024 (48 * (sc : Int) + k) = h 2024 (192 + k)) 48 ?_ ?_ (FU_gt (by decide)) ⟨h, rfl, On.rf, fun k k0 k1 => absurd k1 (by omega)⟩
    · rintro i σ kk hi ⟨h2, rfl, F2, T2⟩ KK
      show wp (Md_text_b137_body kk h2 2000 (i : Int)) _
      have e30 : h2 2000 30 = (sc : Int) := by rw [F2 2000 30 (by omega)]; exact h30
      have e24 : ∀ j : Int, rd h2 2024 j = h2 2024 j := rd_ge (by decide)
      unfold Md_text_b137_body
      rw [w32_n (x := (i : Int)) (by omega) (by omega), if_pos (by omega), cC_s SH2000' rfl, e30, cX_s SH2024 (by omega) (by omega) (by decide), cY_s SH2024 (by decide) (by omega) (by omega) (by decide), w32_n (x := 48 * (sc : Int) + (i : Int)) (by omega) (by omega), w32_n (x := 192 + (i : Int)) (by omega) (by omega), pu_s, e24, F2 2024 (192 + (i : Int)) (by omega), show (i : Int) + 1 = ((i + 1 : Nat) : Int) by omega]
      refine KK _ ⟨_, rfl, F2.tr (On.up ⟨rfl, by omega, by omega⟩), fun k k0 k1 => ?_⟩
      by_cases z : k = (i : Int)
      · rw [z, up_at]
      · rw [up_off (by omega)]; exact T2 k k0 (by omega)
    · rintro σ kk ⟨h2, rfl, F2, T2⟩
      show wp (Md_text_b137_body kk h2 2000 ((48 : Nat) : Int)) _
      have e30 : h2 2000 30 = (sc : Int) := by rw [F2 2000 30 (by omega)]; exact h30
      have e25 : rd h2 2025 4 = h 2025 4 := by rw [rd_ge (by decide), F2 2025 4 (by omega)]
      unfold Md_text_b137_body
      rw [if_neg (by decide), cC_s SH2000' rfl, e30, cX_s SH2025 (by decide) (by decide) (by decide), cY_s SH2025 (by decide) (by omega) (by omega) (by decide), w32_n (x := (sc : Int)) (by omega) (by omega), e25, pu_s, pu_s, up_at, up_ne (by decide), e30]
      have G1 : On (fun a k => (a = 2024 ∧ 48 * (sc : Int) ≤ k) ∨ (a = 2025 ∧ k = (sc : Int)) ∨ (a = 2000 ∧ k = 30)) h h2 := F2.w (fun a k q => Or.inl ⟨q.1, q.2.1⟩)
      refine wp_i ⟨by omega, (G1.tr (On.up (Or.inr (Or.inl ⟨rfl, rfl⟩)))).tr (On.up (Or.inr (Or.inr ⟨rfl, rfl⟩))), by rw [up_at]; omega, by rw [up_ne (by decide), up_at], fun k k0 k1 => ?_⟩
      rw [up_ne (by decide), up_ne (by decide)]
      exact T2 k k0 (by omega)
  obtain ⟨r, h', e, rfl, q⟩ := Wp
  exact ⟨h', e, q⟩
end M
def Tts (sc : Int) (a k : Int) : Prop := STc (1100 + 10 * sc) a k ∨ (a = 21 ∧ k = 1) ∨ (a = 20 ∧ k = 7) ∨ QTm a k ∨ (a = 2000 ∧ (k = 0 ∨ k = 6 ∨ k = 30)) ∨ (a = 2024 ∧ 48 * sc ≤ k) ∨ (a = 2025 ∧ k = sc)
section K
variable {h h' : Hp} {n W lc sc : Nat} {f ru pd wd : Int → Int} {ly : Nat → Pw} {k0 sn : Int}
theorem ts_keep (I : IvP h n W lc sc ru pd wd f ly k0 sn) (s4 : sc < 4) (F : On (Tts (sc : Int)) h h') {s : Sst} (sb : SsB s) (s1 : 1 ≤ s.1) (x7 : h' 20 7 = ((sc + 1 : Nat) : Int)) (x30 : h' 2000 30 = ((sc + 1 : Nat) : Int)) (x21 : h' 21 1 = 0) (x6 : h' 2000 6 = 0) (x25 : h' 2025 (sc : Int) = (s.1 : Int)) (x24 : ∀ k : Int, 0 ≤ k → k < 3 * (s.1 : Int) → h' 2024 (48 * (sc : Int) + k) = s.2 k) (x1 : SsA h' (1100 + 10 * (sc : Int)) s) : IvP h' n W lc (sc + 1) ru pd wd f ly k0 sn := by
  obtain ⟨Tp, Ct, Lw, Lh, Mm, Ss, Sn, Nw, Lg, Td, Im, Pa, Gv, Rw⟩ := I
  have z1 := Ct.1.1.1
  have z3 := Lw.2.2.1
  obtain ⟨T, B0, -⟩ := Tp
  have Tp' : TpI h' := ⟨0, B0, bok0 B0, x21, x6, fun k hk => absurd hk (by omega), fun k hk => absurd hk (by omega)⟩
  have Ss' : SsI h' (sc + 1) := by
    refine ⟨x7, x30, by omega, fun i hi => ?_⟩
    by_cases e : i = sc
    · subst e
      exact ⟨s, sb, s1, x1, x25, x24⟩
    · obtain ⟨s', i1, i2, ⟨i3, i4⟩, i5, i6⟩ := Ss.2.2.2 i (by omega)
      have s16 := i1.1
      exact ⟨s', i1, i2, ⟨by rw [F _ 1 (by unfold Tts STc QTm; omega)]; exact i3, fun k k0 k1 => by rw [F _ k (by unfold Tts STc QTm; omega)]; exact i4 k k0 k1⟩, by rw [F 2025 _ (by unfold Tts STc QTm; omega)]; exact i5, fun k k0 k1 => by rw [F 2024 _ (by unfold Tts STc QTm; omega)]; exact i6 k k0 k1⟩
  exact ⟨Tp',
    Ct.e (F.e (fun a k t c => by unfold Tts STc QTm at t; unfold CtC at c; omega)),
    Lw.e (F.e (fun a k t c => by unfold Tts STc QTm at t; unfold LwC at c; omega)),
    Lh.e (F.e (fun a k t c => by unfold Tts STc QTm at t; unfold LhC at c; omega)),
    MmI.e Mm (F.e (fun a k t c => by unfold Tts STc QTm at t; unfold MmC at c; omega)),
    Ss',
    Sn.e (F.e (fun a k t c => by unfold Tts STc QTm at t; unfold SnC at c; omega)),
    Nw.e (F.e (fun a k t c => by unfold Tts STc QTm at t; unfold NwC at c; omega)),
    lg_on F (fun a k t c => by unfold Tts STc QTm at t; unfold LgC at c; omega) Lg,
    Td.e (F.e (fun a k t c => by unfold Tts STc QTm at t; unfold TdC at c; omega)),
    Im.e (F.e (fun a k t c => by unfold Tts STc QTm at t; unfold ImC at c; omega)),
    Pa.e (F.e (fun a k t c => by unfold Tts STc QTm at t; unfold PaC at c; omega)),
    Gv.e (F.e (fun a k t c => by unfold Tts STc QTm at t; unfold GvC at c; omega)),
    Rw.e (F.e (fun a k t c => by unfold Tts STc QTm at t; unfold RwC at c; omega))⟩
end K
theorem tx_sess {h : Hp} (I : Inv h) : ∃ (r : Int) (h1 : Hp) (r2 : Int) (h2 : Hp), Cc_text h 20 2 = some (r, h1) ∧ Md_text h1 2000 2 = some (r2, h2) ∧ w32 r = w32 r2 ∧ Inv h2 := by
  have I0 := I
  obtain ⟨n, W, lc, sc, ru, pd, wd, f, ly, k0, sn, J⟩ := I
  have J' := J
  obtain ⟨Tp, Ct, Lw, Lh, Mm, Ss, Sn, Nw, Lg, Td, Im, Pa, Gv, Rw⟩ := J'
  obtain ⟨L, B, b, t1, t2, t3, t4⟩ := Tp
  have s4 := Ss.2.2.1
  have w21 : ¬ w32 2 = 1 := by decide
  have w22 : w32 2 = 2 := by decide
  have i2 : ir (w32 2) := ⟨by decide, by decide⟩
  unfold Cc_text Cc_text_b24 Md_text Md_text_b30
  rw [if_neg (by decide), if_neg (by decide), if_neg w21, if_pos w22, cC_s SH20' rfl, Ss.1, w32_n (x := (sc : Int)) (by omega) (by omega)]
  by_cases c : sc = 4
  · rw [if_neg (by omega)]
    refine so_s ?_
    have o30 : up h 2000 0 0 2000 30 = (sc : Int) := by rw [up_off (by decide)]; exact Ss.2.1
    rw [cC_s SH2000' rfl, pu_s, isIn1 i2 I01.1 I01.2.2.1 (by decide), cl_s, if_neg wn1, if_neg w21, if_pos w22, cC_s SH2000' rfl, o30, if_pos (by rw [w32_n (x := (sc : Int)) (by omega) (by omega)]; omega)]
    exact ⟨_, _, rfl, rfl, Inv.qs I0 t0_sc⟩
  · rw [if_pos (by omega)]
    unfold Cc_text_b39
    obtain ⟨h1, F1, q1⟩ := rc2 b s4 Ss.1 t1 t3
    have k2000 : ∀ a k : Int, 2000 ≤ a → h1 a k = h a k := fun a k a0 => F1 a k (by clear q1; unfold STc; omega)
    rcases q1 with ⟨w, x1, x2, x3, x4⟩ | ⟨q, y, x1, x2, x3⟩
    · rw [cC_s SH20' rfl, x3, cl_s, if_pos wz0]
      have o30 : up h1 2000 0 0 2000 30 = (sc : Int) := by rw [up_off (by decide), k2000 _ _ (by decide)]; exact Ss.2.1
      obtain ⟨h2, F2, q2⟩ := rdm2 (h := up h1 2000 0 0) b (by rw [up_off (by decide), k2000 _ _ (by decide)]; exact t2) (fun k hk => by rw [up_ne (by decide), k2000 _ _ (by decide)]; exact t4 k hk)
      rcases q2 with ⟨w', y1, y2, y3⟩ | ⟨q', t', y1, y2, y3⟩
      · have Fa : On (Tfl (h 20 2) (lc : Int) (sc : Int)) h h1 := F1.w (fun _ _ q => Or.inr (Or.inr (Or.inl q)))
        have Fb : On (Tfl (h 20 2) (lc : Int) (sc : Int)) (up h1 2000 0 0) h2 := F2.w (fun _ _ q => q.elim (fun u => Or.inr (Or.inr (Or.inr (Or.inr (Or.inr (Or.inl u)))))) (fun u => Or.inr (Or.inr (Or.inr (Or.inr (Or.inr (Or.inr u)))))))
        have FF : On (Tfl (h 20 2) (lc : Int) (sc : Int)) h h2 := (Fa.tr (On.up (Or.inr (Or.inr (Or.inr (Or.inr (Or.inr (Or.inr ⟨rfl, rfl⟩)))))))).tr Fb
        refine so_s ⟨-1, h2, ?_, rfl, ⟨n, W, lc, sc, ru, pd, wd, f, ly, k0, sn, fl_keep J FF⟩⟩
        rw [cC_s SH2000' rfl, pu_s, isIn1 i2 I01.1 I01.2.2.1 (by decide), cl_s, if_neg wn1, if_neg w21, if_pos w22, cC_s SH2000' rfl, o30, if_neg (by rw [w32_n (x := (sc : Int)) (by omega) (by omega)]; omega)]
        have L240 := b.1
        unfold Md_text_b43
        rw [cC_s SH2000' rfl, y3, cl_s, if_neg (by rw [w32_n (x := (w' : Int)) (by omega) (by omega)]; omega)]
      · rw [x1] at y1; cases y1
    · have x7 : up h1 21 1 0 20 7 = (sc : Int) := by rw [up_ne (by decide), F1 20 7 (by unfold STc; omega)]; exact Ss.1
      rw [cC_s SH20' rfl, x2, cl_s, if_neg wn1, cC_s SH21 rfl, pu_s, if_neg w21, if_pos w22, x7, pu_s]
      have Fa : On (Tts (sc : Int)) h h1 := F1.w (fun _ _ q => Or.inl q)
      have F3 : On (Tts (sc : Int)) h (up (up (up h1 21 1 0) 20 7 ((sc : Int) + 1)) 2000 0 0) := ((Fa.tr (On.up (Or.inr (Or.inl ⟨rfl, rfl⟩)))).tr (On.up (Or.inr (Or.inr (Or.inl ⟨rfl, rfl⟩))))).tr (On.up (Or.inr (Or.inr (Or.inr (Or.inr (Or.inl ⟨rfl, Or.inl rfl⟩))))))
      have g7 : up (up (up h1 21 1 0) 20 7 ((sc : Int) + 1)) 2000 0 0 20 7 = (sc : Int) + 1 := by rw [up_ne (by decide), up_at]
      have g21 : up (up (up h1 21 1 0) 20 7 ((sc : Int) + 1)) 2000 0 0 21 1 = 0 := by rw [up_ne (by decide), up_ne (by decide), up_at]
      have gS : SsA (up (up (up h1 21 1 0) 20 7 ((sc : Int) + 1)) 2000 0 0) (1100 + 10 * (sc : Int)) y := ⟨by rw [up_ne (by omega), up_ne (by omega), up_ne (by omega)]; exact x3.1, fun k k0 k1 => by rw [up_ne (by omega), up_ne (by omega), up_ne (by omega)]; exact x3.2 k k0 k1⟩
      have g20 : ∀ a k : Int, 2000 ≤ a → (a = 2000 → k ≠ 0) → up (up (up h1 21 1 0) 20 7 ((sc : Int) + 1)) 2000 0 0 a k = h a k := fun a k a0 e => by
        by_cases z : a = 2000
        · subst z; rw [up_off (e rfl), up_ne (by decide), up_ne (by decide), k2000 _ _ (by decide)]
        · rw [up_ne z, up_ne (by omega), up_ne (by omega), k2000 _ _ a0]
      refine so_s ?_
      rw [cC_s SH2000' rfl, pu_s]
      generalize up (up (up h1 21 1 0) 20 7 ((sc : Int) + 1)) 2000 0 0 = g at F3 g7 g21 gS g20
      have o30 : g 2000 30 = (sc : Int) := by rw [g20 _ _ (by decide) (fun _ => by decide)]; exact Ss.2.1
      obtain ⟨h2, F2, q2⟩ := rdm2 (h := g) b (by rw [g20 _ _ (by decide) (fun _ => by decide)]; exact t2) (fun k hk => by rw [g20 _ _ (by decide) (fun e => absurd e (by decide))]; exact t4 k hk)
      have L240 := b.1
      rcases q2 with ⟨w', y1, y2, y3⟩ | ⟨q', t', y1, y2, y3, y4⟩
      · rw [x1] at y1; cases y1
      · rw [x1] at y1
        have et : y = t' := by cases y1; rfl
        subst et
        obtain ⟨yb, y1'⟩ := ssP_b x1
        have y16 := yb.1
        have o30' : up h2 2000 6 0 2000 30 = (sc : Int) := by rw [up_off (by decide), F2 2000 30 (by unfold QTm; omega)]; exact o30
        obtain ⟨h4, e4, F4, x30, x25', x24'⟩ := tm137 (h := up h2 2000 6 0) (sc := sc) (by omega) o30'
        have Fb : On (Tts (sc : Int)) g h2 := F2.w (fun _ _ q => q.elim (fun u => Or.inr (Or.inr (Or.inr (Or.inl u)))) (fun u => Or.inr (Or.inr (Or.inr (Or.inr (Or.inl ⟨u.1, Or.inl u.2⟩))))))
        have Fc : On (Tts (sc : Int)) (up h2 2000 6 0) h4 := F4.w (fun a k q => by
          rcases q with q | q | q
          · exact Or.inr (Or.inr (Or.inr (Or.inr (Or.inr (Or.inl q)))))
          · exact Or.inr (Or.inr (Or.inr (Or.inr (Or.inr (Or.inr q)))))
          · exact Or.inr (Or.inr (Or.inr (Or.inr (Or.inl ⟨q.1, Or.inr (Or.inr q.2)⟩)))))
        have FF : On (Tts (sc : Int)) h h4 := ((F3.tr Fb).tr (On.up (Or.inr (Or.inr (Or.inr (Or.inr (Or.inl ⟨rfl, Or.inr (Or.inl rfl)⟩))))))).tr Fc
        have lo : ∀ a k : Int, a < 2000 → h4 a k = g a k := fun a k a0 => by rw [F4 a k (by omega), up_ne (by omega), F2 a k (by unfold QTm; omega)]
        refine ⟨(sc : Int), h4, ?_, rfl, ⟨n, W, lc, sc + 1, ru, pd, wd, f, ly, k0, sn, ts_keep J (by omega) FF yb y1' ?_ x30 ?_ ?_ ?_ (fun k k0 k1 => ?_) ?_⟩⟩
        · rw [isIn1 i2 I01.1 I01.2.2.1 (by decide), cl_s, if_neg wn1, if_neg w21, if_pos w22, cC_s SH2000' rfl, o30, if_neg (by rw [w32_n (x := (sc : Int)) (by omega) (by omega)]; omega)]
          unfold Md_text_b43
          rw [cC_s SH2000' rfl, y2, cl_s, if_pos (by decide), bd_s, pu_s, if_neg w21, if_pos w22, e4]
        · rw [lo _ _ (by decide), g7]; omega
        · rw [lo _ _ (by decide), g21]
        · rw [F4 2000 6 (by omega), up_at]
        · rw [x25', up_ne (by decide), y3]
        · rw [x24' k k0 (by omega), up_ne (by decide)]
          exact y4 k k0 k1
        · exact ⟨by rw [lo _ _ (by omega)]; exact gS.1, fun k k0 k1 => by rw [lo _ _ (by omega)]; exact gS.2 k k0 k1⟩
end PureTextSess
