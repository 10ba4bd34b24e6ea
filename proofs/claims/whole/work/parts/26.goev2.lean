section PureH
/-! the reference's evening, whole: windows, the log -/
section M
variable {h : Hp} {w : Int} {n : Nat} {f seat : Int → Int} {bed abed : Int}
theorem Md_breaks_e (M : StM h w n f) {p : Nat} (hp : p < n) (h9 : ¬ f (36 + 2 * (p : Int)) < 9) : ∃ h', Md_breaks h 2000 w (p : Int) = some (0, h') ∧ (∀ a : Int, a ≠ w → a ≠ 2000 → h' a = h a) ∧ (∀ k : Int, k ≠ 40 → h' 2000 k = h 2000 k) ∧ (∀ k : Int, 52 ≤ k → h' w k = h w k) ∧ StM h' w n (brS n p (f, h 2000 40)).1 ∧ h' 2000 40 = (brS n p (f, h 2000 40)).2 := by
  obtain ⟨sw, w0, w1⟩ := M.w2
  have n6 := M.2.2.2.1
  have g := M.2.2.2
  have Gb := Gd_br hp (st := (f, h 2000 40)) g
  have eb : brS n p (f, h 2000 40) = (fo (adS p) n (ud (ud f (36 + 2 * (p : Int)) 5) 50 (f 50 + 1)), ior (h 2000 40) (ishl 1 (p : Int))) := if_neg h9
  rw [eb] at Gb ⊢
  generalize hh : up (up h 2000 40 (ior (h 2000 40) (ishl 1 (p : Int)))) w 50 (f 50 + 1) = h1
  have F1 : ∀ a : Int, a ≠ w → a ≠ 2000 → h1 a = h a := fun a ha hb => by rw [← hh, up_off_row ha, up_off_row hb]
  have f40 : h1 2000 40 = ior (h 2000 40) (ishl 1 (p : Int)) := by rw [← hh, up_ne (by omega), up_at]
  have F2 : ∀ k : Int, k ≠ 40 → h1 2000 k = h 2000 k := fun k hk => by rw [← hh, up_ne (by omega), up_off hk]
  have F3 : ∀ k : Int, 52 ≤ k → h1 w k = h w k := fun k hk => by rw [← hh, up_off (by omega), up_ne (by omega)]
  have m1 : mR h1 w = ud f 50 (f 50 + 1) := by rw [← hh, mR_up (by decide) (by decide), mR_c (up_off_row (by omega)), M.2.2.1]
  have M1 : StM h1 w n (ud f 50 (f 50 + 1)) := ⟨M.1, by rw [F2 26 (by decide)]; exact M.2.1, m1, Gd_hi g (by decide)⟩
  have W : wp (Md_breaks_b22 h1 2000 w (p : Int) 0) (fun r h' => r = 0 ∧ FrW w h1 h' ∧ mR h' w = fo (adS p) n (ud (ud f (36 + 2 * (p : Int)) 5) 50 (f 50 + 1))) := by
    unfold Md_breaks_b22
    refine itr_wp (fun q σ => ∃ h2, σ = (h2, 2000, w, (p : Int), (q : Int)) ∧ FrW w h1 h2 ∧ StM h2 w n (fo (adS p) q (ud f 50 (f 50 + 1)))) n ?_ ?_ (FU_gt (by omega)) ⟨h1, rfl, FrW.rf, M1⟩
    · rintro q σ k hq ⟨h2, rfl, F, M2⟩ K
      show wp (Md_breaks_b22_body k h2 2000 w (p : Int) (q : Int)) _
      unfold Md_breaks_b22_body
      rw [cC_s SH2000' rfl, M2.2.1, w32_n (x := (q : Int)) (by omega) (by omega), w32_n (x := (n : Int)) (by omega) (by omega), if_pos (by omega), w32_n (x := (p : Int)) (by omega) (by omega)]
      by_cases c2 : (q : Int) = (p : Int)
      · rw [if_pos c2]
        refine K _ ⟨h2, rfl, F, ?_⟩
        show StM h2 w n (adS (p : Int) q _)
        unfold adS
        rw [if_pos c2]
        exact M2
      · rw [if_neg c2]
        obtain ⟨h3, e3, F3, c3⟩ := Md_adds_e M2 (a := (p : Int)) (b := (q : Int)) (m := 1) (by omega) (by omega) (by omega) (by omega) (by decide) (by decide)
        rw [e3, cl_s]
        refine K _ ⟨h3, rfl, F.tr F3, M2.ofW F3 ?_ (Gd_ad (by omega) (by omega) hq M2.2.2.2)⟩
        show _ = adS (p : Int) q _
        unfold adS
        rw [if_neg c2]
        exact c3
    · rintro σ k ⟨h2, rfl, F, M2⟩
      show wp (Md_breaks_b22_body k h2 2000 w (p : Int) (n : Int)) _
      unfold Md_breaks_b22_body
      rw [cC_s SH2000' rfl, M2.2.1, if_neg (Int.lt_irrefl _), Int.add_zero, cY_s sw (by omega) (by omega) (by omega) (by decide), pu_s, w32_n (by omega) (by omega)]
      refine wp_i ⟨rfl, F.tr (FrW.up (by omega)), ?_⟩
      rw [mR_up (by omega) (by omega), M2.2.2.1, ud_comm (f := f) (a := 36 + 2 * (p : Int)) (b := 50) (by omega), ad_all (by omega) (by omega) (by omega) n6, ad_all (by omega) (by omega) (by omega) n6, ad_all (by omega) (by omega) (by omega) n6]
  obtain ⟨r, h', e, rfl, F, m⟩ := W
  refine ⟨h', ?_, fun a ha hb => (F.1 a ha).trans (F1 a ha hb), fun k hk => by rw [F.1 2000 (by omega)]; exact F2 k hk, fun k hk => (F.2 k hk).trans (F3 k hk), M1.ofW F m Gb, by rw [F.1 2000 (by omega)]; exact f40⟩
  unfold Md_breaks
  have r50 : rd (up h 2000 40 (ior (h 2000 40) (ishl 1 (p : Int)))) w 50 = f 50 := by rw [rd_ge (by omega), up_ne (by omega), M.rd (by decide) (by decide)]
  rw [cC_s SH2000' rfl, pu_s, cX_s sw (by decide) (by decide) (by decide), cY_s sw (by omega) (by decide) (by decide) (by decide), pu_s, r50, hh, e]
/-- what goes on while an evening goes -/
def FrG (w : Int) (h h' : Hp) : Prop := (∀ a : Int, a ≠ w → a ≠ 2038 → a ≠ 2000 → h' a = h a) ∧ ∀ k : Int, k ≠ 39 → k ≠ 40 → h' 2000 k = h 2000 k
theorem FrG.tr {h1 h2 : Hp} (a : FrG w h h1) (b : FrG w h1 h2) : FrG w h h2 := ⟨fun x p q r => (b.1 x p q r).trans (a.1 x p q r), fun k p q => (b.2 k p q).trans (a.2 k p q)⟩
theorem FrW.G {h1 : Hp} (hw : w ≠ 2000) (a : FrW w h h1) : FrG w h h1 := ⟨fun x p _ _ => a.1 x p, fun k _ _ => by rw [a.1 2000 (Ne.symm hw)]⟩
/-- one more in the log -/
def lgv (h : Hp) (w i j : Int) : Int := h w (53 + 3 * (h w 52 - 1 - i) + j)
def LogStep (h h' : Hp) (w v0 v1 v2 : Int) : Prop := h' w 52 = min 60 (h w 52 + 1) ∧ (lgv h' w 0 0 = v0 ∧ lgv h' w 0 1 = v1 ∧ lgv h' w 0 2 = v2) ∧ ∀ i j : Int, 0 ≤ i → i + 1 < h' w 52 → 0 ≤ j → j < 3 → lgv h' w (i + 1) j = lgv h w i j
theorem gE_end (M : StM h w n f) (L : 0 ≤ h w 52 ∧ h w 52 ≤ 59) : ∃ h', Md_goEvening_b226 h 2000 w = some (h 2000 39, h') ∧ (∀ a : Int, a ≠ w → h' a = h a) ∧ (∀ k : Int, k < 52 → h' w k = h w k) ∧ h' w 52 = h w 52 + 1 ∧ h' w (53 + 3 * h w 52) = h 2000 39 ∧ h' w (53 + 3 * h w 52 + 1) = h 2000 40 ∧ h' w (53 + 3 * h w 52 + 2) = allD n f ∧ ∀ k : Int, 53 ≤ k → k < 53 + 3 * h w 52 → h' w k = h w k := by
  obtain ⟨sw, w0, w1⟩ := M.w2
  generalize hc : h w 52 = c at L
  generalize h1e : up (up h w (53 + 3 * c) (h 2000 39)) w (53 + 3 * c + 1) (h 2000 40) = h1
  have M1 : StM h1 w n f := ⟨M.1, by rw [← h1e, up_ne (by omega), up_ne (by omega)]; exact M.2.1, by rw [← h1e, mR_hi (by omega), mR_hi (by omega)]; exact M.2.2.1, M.2.2.2⟩
  have c1 : h1 w 52 = c := by rw [← h1e, up_off (by omega), up_off (by omega), hc]
  refine ⟨up (up h1 w (53 + 3 * c + 2) (allD n f)) w 52 (c + 1), ?_, fun a ha => by rw [up_off_row ha, up_off_row ha, ← h1e, up_off_row ha, up_off_row ha], fun k hk => by rw [up_off (by omega), up_off (by omega), ← h1e, up_off (by omega), up_off (by omega)], up_at, by rw [up_off (by omega), up_off (by omega), ← h1e, up_off (by omega), up_at], by rw [up_off (by omega), up_off (by omega), ← h1e, up_at], by rw [up_off (by omega), up_at], fun k hk hk2 => by rw [up_off (by omega), up_off (by omega), ← h1e, up_off (by omega), up_off (by omega)]⟩
  unfold Md_goEvening_b226
  have e40 : up h w (53 + 3 * c) (h 2000 39) 2000 40 = h 2000 40 := up_ne (by omega) _
  have r52 : rd (up h1 w (53 + 3 * c + 2) (allD n f)) w 52 = c := by rw [rd_ge (by omega), up_off (by omega), c1]
  have e39 : up (up h1 w (53 + 3 * c + 2) (allD n f)) w 52 (c + 1) 2000 39 = h 2000 39 := by rw [up_ne (by omega), up_ne (by omega), ← h1e, up_ne (by omega), up_ne (by omega)]
  rw [cX_s sw (by decide) (by decide) (by decide), bd_s, rd_ge (by omega), hc, cC_s SH2000' rfl, cY_s sw (by omega) (by omega) (by omega) (by decide), pu_s, w32_n (x := 53 + 3 * c) (by omega) (by omega), cY_s sw (by omega) (by omega) (by omega) (by decide), pu_s, w32_n (x := 53 + 3 * c + 1) (by omega) (by omega), e40, h1e, Md_allOwed_e M1, cl_s, cY_s sw (by omega) (by omega) (by omega) (by decide), pu_s, w32_n (x := 53 + 3 * c + 2) (by omega) (by omega), cX_s sw (by decide) (by decide) (by decide), cY_s sw (by omega) (by decide) (by decide) (by decide), pu_s, r52, e39]
theorem gE_log (M : StM h w n f) (L : 0 ≤ h w 52 ∧ h w 52 ≤ 60) : ∃ h', (if w32 (rd h w 52) = 60 then Md_goEvening_b191 h 2000 w 1 else Md_goEvening_b226 h 2000 w) = some (h 2000 39, h') ∧ (∀ a : Int, a ≠ w → h' a = h a) ∧ (∀ k : Int, k < 52 → h' w k = h w k) ∧ LogStep h h' w (h 2000 39) (h 2000 40) (allD n f) := by
  obtain ⟨sw, w0, w1⟩ := M.w2
  rw [rd_ge (by omega), w32_n L.1 (by omega)]
  by_cases c : h w 52 = 60
  · rw [if_pos c]
    have W : wp (Md_goEvening_b191 h 2000 w 1) (fun r h' => r = h 2000 39 ∧ (∀ a : Int, a ≠ w → h' a = h a) ∧ (∀ k : Int, k < 52 → h' w k = h w k) ∧ LogStep h h' w (h 2000 39) (h 2000 40) (allD n f)) := by
      unfold Md_goEvening_b191
      refine itr_wp (fun i σ => ∃ h2, σ = (h2, 2000, w, (i : Int) + 1) ∧ (∀ a : Int, a ≠ w → h2 a = h a) ∧ (∀ k : Int, k ≤ 52 → h2 w k = h w k) ∧ (∀ k : Int, 53 ≤ k → k ≤ 52 + i → h2 w k = h w (k + 3)) ∧ ∀ k : Int, 52 + (i : Int) < k → h2 w k = h w k) 177 ?_ ?_ (FU_gt (by decide)) ⟨h, rfl, fun _ _ => rfl, fun _ _ => rfl, fun k k0 k1 => absurd k1 (by omega), fun _ _ => rfl⟩
      · rintro i σ k hi ⟨h2, rfl, a1, a2, a3, a4⟩ K
        show wp (Md_goEvening_b191_body k h2 2000 w ((i : Int) + 1)) _
        unfold Md_goEvening_b191_body
        have ev : rd h2 w (w32 (52 + ((i : Int) + 1) + 3)) = h w (52 + ((i : Int) + 1) + 3) := by rw [rd_ge (by omega), w32_n (by omega) (by omega), a4 _ (by omega)]
        rw [w32_n (x := (i : Int) + 1) (by omega) (by omega), if_neg (by omega), cX_s sw (by omega) (by omega) (by decide), cY_s sw (by omega) (by omega) (by omega) (by decide), pu_s, ev, w32_n (x := 52 + ((i : Int) + 1)) (by omega) (by omega)]
        refine K _ ⟨_, rfl, fun a ha => by rw [up_off_row ha, a1 a ha], fun j hj => by rw [up_off (by omega), a2 j hj], fun j j0 j1 => ?_, fun j hj => by rw [up_off (by omega), a4 j (by omega)]⟩
        by_cases e : j = 52 + ((i : Int) + 1)
        · rw [e, up_at]
        · rw [up_off e, a3 j j0 (by omega)]
      · rintro σ k ⟨h2, rfl, a1, a2, a3, a4⟩
        show wp (Md_goEvening_b191_body k h2 2000 w (((177 : Nat) : Int) + 1)) _
        unfold Md_goEvening_b191_body
        have r52 : rd h2 w 52 = 60 := by rw [rd_ge (by omega), a2 52 (by decide), c]
        rw [if_pos (by decide), cX_s sw (by decide) (by decide) (by decide), cY_s sw (by omega) (by decide) (by decide) (by decide), pu_s, r52]
        generalize h3e : up h2 w 52 (60 - 1) = h3
        have z : ∀ x : Int, x ≠ w → h3 x = h x := fun x hx => by rw [← h3e, up_off_row hx, a1 x hx]
        have c3 : h3 w 52 = 59 := by rw [← h3e, up_at]; rfl
        have M3 : StM h3 w n f := ⟨M.1, by rw [z 2000 (by omega)]; exact M.2.1, by
          rw [← h3e, mR_hi (by decide)]
          funext j
          rw [← M.2.2.1]
          unfold mR
          by_cases q : 0 ≤ j ∧ j < 52
          · rw [if_pos q, if_pos q, a2 j (by omega)]
          · rw [if_neg q, if_neg q], M.2.2.2⟩
        obtain ⟨h', e, b1, b2, b3, b4, b5, b6, b7⟩ := gE_end M3 (by rw [c3]; exact ⟨by decide, by decide⟩)
        rw [c3] at b3 b4 b5 b6 b7
        rw [z 2000 (by omega)] at e b4 b5
        rw [e]
        refine wp_i ⟨rfl, fun a ha => (b1 a ha).trans (z a ha), fun k hk => by rw [b2 k hk, ← h3e, up_off (by omega), a2 k (by omega)], by rw [b3, c]; decide, ⟨?_, ?_, ?_⟩, fun i j i0 i1 j0 j1 => ?_⟩
        · unfold lgv; rw [b3]; exact b4
        · unfold lgv; rw [b3]; exact b5
        · unfold lgv; rw [b3]; exact b6
        · unfold lgv
          rw [b3] at i1 ⊢
          rw [c, b7 _ (by omega) (by omega), ← h3e, up_off (by omega), a3 _ (by omega) (by omega)]
          congr 1
          omega
    obtain ⟨r, h', e, rfl, q⟩ := W
    exact ⟨h', e, q⟩
  · rw [if_neg c]
    obtain ⟨h', e, b1, b2, b3, b4, b5, b6, b7⟩ := gE_end M ⟨L.1, by omega⟩
    refine ⟨h', e, b1, b2, by rw [b3]; omega, ⟨?_, ?_, ?_⟩, fun i j i0 i1 j0 j1 => ?_⟩
    · unfold lgv
      rw [b3, ← b4]
      congr 1
      omega
    · unfold lgv
      rw [b3, ← b5]
      congr 1
      omega
    · unfold lgv
      rw [b3, ← b6]
      congr 1
      omega
    · unfold lgv
      rw [b3] at i1 ⊢
      rw [b7 _ (by omega) (by omega)]
      congr 1
      omega
theorem Md_goEvening_e (M : StM h w n f) (A : AbedOK abed bed) (L : 0 ≤ h w 52 ∧ h w 52 ≤ 60) : ∃ h', Md_goEvening h 2000 w abed = some (psC n bed f, h') ∧ FrG w h h' ∧ StM h' w n (psR n bed f).1 ∧ WithAt h' (bkR n bed f) ∧ h' 2000 39 = psC n bed f ∧ h' 2000 40 = (psR n bed f).2 ∧ LogStep h h' w (psC n bed f) (psR n bed f).2 (allD n (psR n bed f).1) := by
  obtain ⟨sw, w0, w1⟩ := M.w2
  have n6 := M.2.2.2.1
  have KS := bkR_ok n bed f
  have Gp := Gd_ps M.2.2.2 bed
  rw [psM_ps n6] at Gp ⊢
  obtain ⟨h1, e1, F1, T1⟩ := Md_books_e M A
  have M1 := M.ofF F1 (by decide) (by omega)
  have W : wp (Md_goEvening h 2000 w abed) (fun r h' => r = psC n bed f ∧ FrG w h h' ∧ mR h' w = ud (psM n bed f).1 51 ((psM n bed f).1 51 + 1) ∧ WithAt h' (bkR n bed f) ∧ h' 2000 39 = psC n bed f ∧ h' 2000 40 = (psM n bed f).2 ∧ LogStep h h' w (psC n bed f) (psM n bed f).2 (allD n (ud (psM n bed f).1 51 ((psM n bed f).1 51 + 1)))) := by
    unfold Md_goEvening
    rw [cC_s SH2000' rfl, e1, cl_s, pu_s, pu_s]
    generalize hh : up (up h1 2000 39 0) 2000 40 0 = h2
    have G2 : FrG w h h2 := ⟨fun a p q r => by rw [← hh, up_off_row r, up_off_row r, F1 a q], fun k p q => by rw [← hh, up_off q, up_off p, F1 2000 (by decide)]⟩
    have L2 : ∀ k : Int, 52 ≤ k → h2 w k = h w k := fun k _ => by rw [← hh, up_ne (by omega), up_ne (by omega), F1 w (by omega)]
    have M2 : StM h2 w n f := ⟨M.1, by rw [G2.2 26 (by decide) (by decide)]; exact M.2.1, by rw [← hh, mR_c (up_off_row (by omega)), mR_c (up_off_row (by omega))]; exact M1.2.2.1, M.2.2.2⟩
    have T2 : WithAt h2 (bkR n bed f) := fun k k0 k1 => by rw [← hh, up_ne (by decide), up_ne (by decide)]; exact T1 k k0 k1
    have z39 : h2 2000 39 = 0 := by rw [← hh, up_off (by decide), up_at]
    have z40 : h2 2000 40 = 0 := by rw [← hh, up_at]
    have KA := sit_all KS (SitOK_f M.2.2.2 bed)
    unfold Md_goEvening_b18
    refine itr_wp (fun i σ => ∃ h3, σ = (h3, 2000, w, (i : Int)) ∧ FrG w h h3 ∧ (∀ k : Int, 52 ≤ k → h3 w k = h w k) ∧ StM h3 w n (fo (sitS (bkR n bed f)) i f) ∧ WithAt h3 (bkR n bed f) ∧ h3 2000 39 = fo (cntS (bkR n bed f)) i 0 ∧ h3 2000 40 = 0) n ?_ ?_ (FU_gt (by omega)) ⟨h2, rfl, G2, L2, M2, T2, z39, z40⟩
    · rintro i σ k hin ⟨h3, rfl, G3, L3, M3, T3, c3, b3⟩ K
      have Gn := (KA (i + 1) (by omega)).1
      have Hi := (KA i (by omega)).2
      have Ww := with_w T3 KS n6 (k := (i : Int)) (by omega) (by omega)
      show wp (Md_goEvening_b18_body k h3 2000 w (i : Int)) _
      unfold Md_goEvening_b18_body
      rw [cC_s SH2000' rfl, M3.2.1, w32_n (x := (i : Int)) (by omega) (by omega), w32_n (x := (n : Int)) (by omega) (by omega), if_pos (by omega), cX_s SH2038 (by omega) (by omega) (by decide), rd_ge (by decide)]
      by_cases c : bkR n bed f (i : Int) = 9
      · rw [if_pos (Ww.mpr c)]
        refine K _ ⟨h3, rfl, G3, L3, ?_, T3, ?_, b3⟩
        · show StM h3 w n (sitS (bkR n bed f) i _)
          unfold sitS
          rw [if_pos c]
          exact M3
        · show _ = cntS (bkR n bed f) i _
          unfold cntS
          rw [if_pos c]
          exact c3
      · rw [if_neg (fun q => c (Ww.mp q)), pu_s]
        have Ks' := (KS (i : Int) (by omega) (by omega)).resolve_left c
        generalize hh4 : up h3 2000 39 (h3 2000 39 + 1) = h4
        have G4 : FrG w h h4 := G3.tr ⟨fun a p q r => by rw [← hh4, up_off_row r], fun k p q => by rw [← hh4, up_off p]⟩
        have M4 : StM h4 w n (fo (sitS (bkR n bed f)) i f) := ⟨M.1, by rw [← hh4, up_off (by decide)]; exact M3.2.1, by rw [← hh4, mR_c (up_off_row (by omega))]; exact M3.2.2.1, M3.2.2.2⟩
        have Lb := Gd_l M3.2.2.2 (p := (i : Int)) (by omega) (by omega)
        have ev : (if 0 < fo (sitS (bkR n bed f)) i f (36 + 2 * (i : Int)) - 1 then fo (sitS (bkR n bed f)) i f (36 + 2 * (i : Int)) - 1 else 0) = max 0 (fo (sitS (bkR n bed f)) i f (36 + 2 * (i : Int)) - 1) := by
          by_cases q : 0 < fo (sitS (bkR n bed f)) i f (36 + 2 * (i : Int)) - 1
          · rw [if_pos q]; omega
          · rw [if_neg q]; omega
        rw [Md_lonely_e M4 (by omega) (by omega), cl_s, Int.add_zero, cY_s sw (by omega) (by omega) (by omega) (by decide), pu_s, w32_id (x := fo (sitS (bkR n bed f)) i f (36 + 2 * (i : Int)) - 1) (by omega) (by omega), ev, w32_n (x := 36 + 2 * (i : Int)) (by omega) (by omega)]
        generalize hh5 : up h4 w (36 + 2 * (i : Int)) (max 0 (fo (sitS (bkR n bed f)) i f (36 + 2 * (i : Int)) - 1)) = h5
        have F5 : FrW w h4 h5 := by rw [← hh5]; exact FrW.up (by omega)
        have M5 : StM h5 w n (ud (fo (sitS (bkR n bed f)) i f) (36 + 2 * (i : Int)) (max 0 (fo (sitS (bkR n bed f)) i f (36 + 2 * (i : Int)) - 1))) := M4.ofW F5 (by rw [← hh5, mR_up (by omega) (by omega), M4.2.2.1]) (Gd_lon M3.2.2.2 (by omega) (by omega) (by omega) (by omega))
        have T5 : WithAt h5 (bkR n bed f) := fun k k0 k1 => by
          rw [F5.1 2038 (by omega), ← hh4, up_ne (by decide)]
          exact T3 k k0 k1
        have G5 : FrG w h h5 := G4.tr (F5.G (by omega))
        have L5 : ∀ k : Int, 52 ≤ k → h5 w k = h w k := fun k hk => by rw [F5.2 k hk, ← hh4, up_ne (by omega)]; exact L3 k hk
        have n5 : h5 2000 39 = fo (cntS (bkR n bed f)) (i + 1) 0 := by
          rw [F5.1 2000 (by omega), ← hh4, up_at, c3]
          show _ = cntS (bkR n bed f) i _
          unfold cntS
          rw [if_neg c]
        have m5 : h5 2000 40 = 0 := by rw [F5.1 2000 (by omega), ← hh4, up_off (by decide), b3]
        have ws : rd h5 2038 (i : Int) = bkR n bed f (i : Int) := by rw [rd_ge (by decide), T5 (i : Int) (by omega) (by omega), if_neg c]
        rw [cX_s SH2038 (by omega) (by omega) (by decide), ws, w32_n (x := bkR n bed f (i : Int)) (by omega) (by omega)]
        by_cases c2 : (i : Int) < bkR n bed f (i : Int)
        · have Hp := Hi (i : Int) (Int.le_refl _) (by omega) c c2
          have es : sitS (bkR n bed f) i (fo (sitS (bkR n bed f)) i f) = layR (ud (fo (sitS (bkR n bed f)) i f) (36 + 2 * (i : Int)) (max 0 (fo (sitS (bkR n bed f)) i f (36 + 2 * (i : Int)) - 1))) (i : Int) (bkR n bed f (i : Int)) (ud (fo (sitS (bkR n bed f)) i f) (36 + 2 * (i : Int)) (max 0 (fo (sitS (bkR n bed f)) i f (36 + 2 * (i : Int)) - 1)) (6 * (i : Int) + bkR n bed f (i : Int)) - 1) := by
            have Dd := Gd_d M5.2.2.2 (a := (i : Int)) (b := bkR n bed f (i : Int)) (by omega) (by omega) (by omega) (by omega)
            have z1 : sitS (bkR n bed f) i (fo (sitS (bkR n bed f)) i f) = oweR (ud (fo (sitS (bkR n bed f)) i f) (36 + 2 * (i : Int)) (max 0 (fo (sitS (bkR n bed f)) i f (36 + 2 * (i : Int)) - 1))) (i : Int) (bkR n bed f (i : Int)) (-1) := (if_neg c).trans (if_pos c2)
            rw [z1]
            unfold oweR
            congr 1
            omega
          rw [if_pos c2, cX_s SH2038 (by omega) (by omega) (by decide), cX_s SH2038 (by omega) (by omega) (by decide), Md_owes_e M5 (by omega) (by omega) (by omega) (by omega), cl_s]
          obtain ⟨h6, e6, F6, c6⟩ := Md_lays_e M5 (a := (i : Int)) (b := bkR n bed f (i : Int)) (v := ud (fo (sitS (bkR n bed f)) i f) (36 + 2 * (i : Int)) (max 0 (fo (sitS (bkR n bed f)) i f (36 + 2 * (i : Int)) - 1)) (6 * (i : Int) + bkR n bed f (i : Int)) - 1) (by omega) (by omega) (by omega) (by omega)
          rw [e6, cl_s]
          refine K _ ⟨h6, rfl, G5.tr (F6.G (by omega)), fun k hk => (F6.2 k hk).trans (L5 k hk), M5.ofW F6 (by rw [c6]; exact es.symm) Gn, fun k k0 k1 => by rw [F6.1 2038 (by omega)]; exact T5 k k0 k1, by rw [F6.1 2000 (by omega)]; exact n5, by rw [F6.1 2000 (by omega)]; exact m5⟩
        · have es : sitS (bkR n bed f) i (fo (sitS (bkR n bed f)) i f) = ud (fo (sitS (bkR n bed f)) i f) (36 + 2 * (i : Int)) (max 0 (fo (sitS (bkR n bed f)) i f (36 + 2 * (i : Int)) - 1)) := by
            unfold sitS
            rw [if_neg c, if_neg c2]
          rw [if_neg c2]
          refine K _ ⟨h5, rfl, G5, L5, ?_, T5, n5, m5⟩
          show StM h5 w n (sitS (bkR n bed f) i _)
          rw [es]
          exact M5
    · rintro σ k ⟨h3, rfl, G3, L3, M3, T3, c3, b3⟩
      show wp (Md_goEvening_b18_body k h3 2000 w (n : Int)) _
      unfold Md_goEvening_b18_body
      rw [cC_s SH2000' rfl, M3.2.1, if_neg (Int.lt_irrefl _)]
      unfold Md_goEvening_b112
      refine itr_wp (fun i σ => ∃ h4, σ = (h4, 2000, w, (i : Int)) ∧ FrG w h h4 ∧ (∀ k : Int, 52 ≤ k → h4 w k = h w k) ∧ StM h4 w n (fo (brT n (bkR n bed f)) i (fo (sitS (bkR n bed f)) n f, 0)).1 ∧ WithAt h4 (bkR n bed f) ∧ h4 2000 39 = psC n bed f ∧ h4 2000 40 = (fo (brT n (bkR n bed f)) i (fo (sitS (bkR n bed f)) n f, 0)).2) n ?_ ?_ (FU_gt (by omega)) ⟨h3, rfl, G3, L3, M3, T3, c3, b3⟩
      · rintro i σ k hin ⟨h4, rfl, G4, L4, M4, T4, c4, b4⟩ K
        have Ww := with_w T4 KS n6 (k := (i : Int)) (by omega) (by omega)
        have Lb := Gd_l M4.2.2.2 (p := (i : Int)) (by omega) (by omega)
        show wp (Md_goEvening_b112_body k h4 2000 w (i : Int)) _
        unfold Md_goEvening_b112_body
        rw [cC_s SH2000' rfl, M4.2.1, w32_n (x := (i : Int)) (by omega) (by omega), w32_n (x := (n : Int)) (by omega) (by omega), if_pos (by omega), cX_s SH2038 (by omega) (by omega) (by decide), rd_ge (by decide)]
        by_cases c : bkR n bed f (i : Int) = 9
        · have eb : brT n (bkR n bed f) i (fo (brT n (bkR n bed f)) i (fo (sitS (bkR n bed f)) n f, 0)) = brS n i (fo (brT n (bkR n bed f)) i (fo (sitS (bkR n bed f)) n f, 0)) := if_pos c
          rw [if_pos (Ww.mpr c), Md_lonely_e M4 (by omega) (by omega), cl_s, w32_n Lb.1 (by omega)]
          by_cases c2 : (fo (brT n (bkR n bed f)) i (fo (sitS (bkR n bed f)) n f, 0)).1 (36 + 2 * (i : Int)) = 9
          · obtain ⟨h5, e5, p1, p2, p3, M5, p5⟩ := Md_breaks_e M4 hin (by omega)
            rw [if_pos c2, e5, cl_s]
            rw [b4] at M5 p5
            refine K _ ⟨h5, rfl, G4.tr ⟨fun a p q r => p1 a p r, fun k p q => p2 k q⟩, fun k hk => (p3 k hk).trans (L4 k hk), ?_, fun k k0 k1 => by rw [p1 2038 (by omega) (by decide)]; exact T4 k k0 k1, by rw [p2 39 (by decide)]; exact c4, ?_⟩
            · show StM h5 w n (brT n (bkR n bed f) i _).1
              rw [eb]
              exact M5
            · show h5 2000 40 = (brT n (bkR n bed f) i _).2
              rw [eb]
              exact p5
          · have e2 : brS n i (fo (brT n (bkR n bed f)) i (fo (sitS (bkR n bed f)) n f, 0)) = (ud (fo (brT n (bkR n bed f)) i (fo (sitS (bkR n bed f)) n f, 0)).1 (36 + 2 * (i : Int)) ((fo (brT n (bkR n bed f)) i (fo (sitS (bkR n bed f)) n f, 0)).1 (36 + 2 * (i : Int)) + 1), (fo (brT n (bkR n bed f)) i (fo (sitS (bkR n bed f)) n f, 0)).2) := if_pos (by omega)
            have rv : rd h4 w (36 + 2 * (i : Int)) = (fo (brT n (bkR n bed f)) i (fo (sitS (bkR n bed f)) n f, 0)).1 (36 + 2 * (i : Int)) := by rw [rd_ge (by omega), M4.rd (by omega) (by omega)]
            rw [if_neg c2, Int.add_zero, cX_s sw (by omega) (by omega) (by decide), cY_s sw (by omega) (by omega) (by omega) (by decide), pu_s, w32_n (x := 36 + 2 * (i : Int)) (by omega) (by omega), rv]
            generalize hh5 : up h4 w (36 + 2 * (i : Int)) ((fo (brT n (bkR n bed f)) i (fo (sitS (bkR n bed f)) n f, 0)).1 (36 + 2 * (i : Int)) + 1) = h5
            have F5 : FrW w h4 h5 := by rw [← hh5]; exact FrW.up (by omega)
            refine K _ ⟨h5, rfl, G4.tr (F5.G (by omega)), fun k hk => (F5.2 k hk).trans (L4 k hk), ?_, fun k k0 k1 => by rw [F5.1 2038 (by omega)]; exact T4 k k0 k1, by rw [F5.1 2000 (by omega)]; exact c4, ?_⟩
            · show StM h5 w n (brT n (bkR n bed f) i _).1
              rw [eb, e2]
              exact M4.ofW F5 (by rw [← hh5, mR_up (by omega) (by omega), M4.2.2.1]) (Gd_lon M4.2.2.2 (by omega) (by omega) (by omega) (by omega))
            · show h5 2000 40 = (brT n (bkR n bed f) i _).2
              rw [eb, e2, F5.1 2000 (by omega)]
              exact b4
        · have eb : brT n (bkR n bed f) i (fo (brT n (bkR n bed f)) i (fo (sitS (bkR n bed f)) n f, 0)) = fo (brT n (bkR n bed f)) i (fo (sitS (bkR n bed f)) n f, 0) := if_neg c
          rw [if_neg (fun q => c (Ww.mp q))]
          refine K _ ⟨h4, rfl, G4, L4, ?_, T4, c4, ?_⟩
          · show StM h4 w n (brT n (bkR n bed f) i _).1
            rw [eb]
            exact M4
          · show h4 2000 40 = (brT n (bkR n bed f) i _).2
            rw [eb]
            exact b4
      · rintro σ k ⟨h4, rfl, G4, L4, M4, T4, c4, b4⟩
        show wp (Md_goEvening_b112_body k h4 2000 w (n : Int)) _
        unfold Md_goEvening_b112_body
        have M4' : StM h4 w n (psM n bed f).1 := M4
        have b4' : h4 2000 40 = (psM n bed f).2 := b4
        have rv : rd h4 w 51 = (psM n bed f).1 51 := by rw [rd_ge (by omega), M4'.rd (by decide) (by decide)]
        rw [cC_s SH2000' rfl, M4.2.1, if_neg (Int.lt_irrefl _), cX_s sw (by decide) (by decide) (by decide), cY_s sw (by omega) (by decide) (by decide) (by decide), pu_s, rv]
        generalize hh5 : up h4 w 51 ((psM n bed f).1 51 + 1) = h5
        have F5 : FrW w h4 h5 := by rw [← hh5]; exact FrW.up (by decide)
        have M5 : StM h5 w n (ud (psM n bed f).1 51 ((psM n bed f).1 51 + 1)) := M4'.ofW F5 (by rw [← hh5, mR_up (by decide) (by decide), M4'.2.2.1]) (Gd_hi M4'.2.2.2 (by decide))
        have x52 : ∀ k : Int, 52 ≤ k → h5 w k = h w k := fun k hk => (F5.2 k hk).trans (L4 k hk)
        obtain ⟨h6, e6, q1, q2, q3⟩ := gE_log M5 (by rw [x52 52 (by decide)]; exact L)
        rw [cX_s sw (by decide) (by decide) (by decide), e6]
        have c5 : h5 2000 39 = psC n bed f := by rw [F5.1 2000 (by omega)]; exact c4
        have b5 : h5 2000 40 = (psM n bed f).2 := by rw [F5.1 2000 (by omega)]; exact b4'
        rw [c5, b5] at q3
        refine wp_i ⟨c5, (G4.tr (F5.G (by omega))).tr ⟨fun a p _ _ => q1 a p, fun k _ _ => by rw [q1 2000 (by omega)]⟩, ?_, fun k k0 k1 => by rw [q1 2038 (by omega), F5.1 2038 (by omega)]; exact T4 k k0 k1, by rw [q1 2000 (by omega)]; exact c5, by rw [q1 2000 (by omega)]; exact b5, ?_⟩
        · rw [← M5.2.2.1]
          funext j
          unfold mR
          by_cases q : 0 ≤ j ∧ j < 52
          · rw [if_pos q, if_pos q, q2 j q.2]
          · rw [if_neg q, if_neg q]
        · obtain ⟨r1, r2, r3⟩ := q3
          rw [x52 52 (by decide)] at r1
          refine ⟨r1, r2, fun i j i0 i1 j0 j1 => ?_⟩
          rw [r3 i j i0 i1 j0 j1]
          unfold lgv
          rw [x52 52 (by decide), x52 _ (by omega)]
  obtain ⟨r, h', e, rfl, q1, q2, q3, q4, q5, q6⟩ := W
  exact ⟨h', e, q1, ⟨M.1, by rw [q1.2 26 (by decide) (by decide)]; exact M.2.1, q2, Gp⟩, q3, q4, q5, q6⟩
end M
end PureH
