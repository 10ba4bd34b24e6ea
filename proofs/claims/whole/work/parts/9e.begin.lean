section PureBegin
/-! A COUNTY begun: the class's State told; the reference's rows -/
def f0W (i : Nat) (pd : Int → Int) (k : Int) : Int := if 36 ≤ k ∧ k < 36 + 2 * (i : Int) then (if k % 2 = 0 then pd (3 * ((k - 36) / 2)) else pd (3 * ((k - 36) / 2) + 1)) else 0
theorem f0_gd {n : Nat} {ru pd : Int → Int} (n6 : n ≤ 6) (r1 : 0 ≤ ru 1 ∧ ru 1 ≤ 99) (pb : ∀ p : Int, 0 ≤ p → p < 3 * (n : Int) → 0 ≤ pd p ∧ pd p ≤ 9) : Gd n (f0V n ru pd) := by
  have z : ∀ k : Int, k < 36 → f0V n ru pd k = 0 := fun k hk => by
    unfold f0V
    rw [if_neg (by omega), if_neg (by omega)]
  have l : ∀ k : Int, 36 ≤ k → k < 48 → 0 ≤ f0V n ru pd k ∧ f0V n ru pd k ≤ 9 := fun k k0 k1 => by
    unfold f0V
    by_cases c : 36 ≤ k ∧ k < 36 + 2 * (n : Int)
    · rw [if_pos c]
      by_cases d : k % 2 = 0
      · rw [if_pos d]; exact pb _ (by omega) (by omega)
      · rw [if_neg d]; exact pb _ (by omega) (by omega)
    · rw [if_neg c, if_neg (by omega)]; omega
  have e48 : f0V n ru pd 48 = 0 := by
    unfold f0V
    rw [if_neg (by omega), if_neg (by decide)]
  have e49 : f0V n ru pd 49 = ru 1 := by
    unfold f0V
    rw [if_neg (by omega), if_pos rfl]
  refine ⟨n6, fun k k0 k1 => by rw [z k k1]; omega, fun a b a0 a1 b0 b1 => by rw [z _ (by omega), z _ (by omega)], fun a a0 a1 => z _ (by omega), fun p p0 p1 => ?_, by rw [e48]; omega, by rw [e49]; omega⟩
  have t1 := l (36 + 2 * p) (by omega) (by omega)
  have t2 := l (37 + 2 * p) (by omega) (by omega)
  omega
section C
variable {h : Hp} {n W : Nat} {ru pd wd : Int → Int} {c : Int}
theorem begin_e (y : IsY c) (n6 : n ≤ 6) (c4 : h c 4 = (n : Int)) (cr : ∀ k : Int, 0 ≤ k → k < 2 → h (c + 1) k = ru k) (cp : ∀ k : Int, 0 ≤ k → k < 3 * (n : Int) → h (c + 2) k = pd k) (r1 : 0 ≤ ru 1 ∧ ru 1 ≤ 99) (pb : ∀ p : Int, 0 ≤ p → p < 3 * (n : Int) → 0 ≤ pd p ∧ pd p ≤ 9) : ∃ h', St_begin h 100 c = some (0, h') ∧ On (fun a k => (a = 100 ∧ 4 ≤ k ∧ k < 9) ∨ a = 101 ∨ a = 102 ∨ a = 103) h h' ∧ StA h' 100 n (f0V n ru pd) := by
  have iS : IsS 100 := ⟨by decide, by decide, by decide⟩
  have S7 := IsS_sh iS
  have S1 : SH 101 = (100, 36) := S7.2.1
  have S2 : SH 102 = (100, 6) := S7.2.2.1
  have S3 : SH 103 = (100, 6) := S7.2.2.2.1
  have cy : c = 30 ∨ c = 40 := y
  have ys := IsY_sh y
  have e101 : (100 : Int) + 1 = 101 := rfl
  have e102 : (100 : Int) + 2 = 102 := rfl
  have e103 : (100 : Int) + 3 = 103 := rfl
  have ea : ∀ (g : Hp) (x : Int), g (c + 1) 1 = x → Cy_coinsTold g c = some (x, g) := fun g x hx => by
    unfold Cy_coinsTold
    rw [cC_s ys.1 rfl, at_eq ys.2.1 (by omega) (by decide) (by decide) (by decide), cl_s, hx]
  have lastp : ∀ g : Hp, On (fun a k => (a = 100 ∧ 4 ≤ k ∧ k < 9) ∨ a = 101 ∨ a = 102 ∨ a = 103) h g → g 100 4 = (n : Int) → g 100 5 = 0 → g 100 6 = ru 1 → g 100 7 = 0 → g 100 8 = 0 → (∀ k : Int, 0 ≤ k → k < 36 → g 101 k = 0) → wp (St_begin_b59 g 100 c 0) (fun r h' => r = 0 ∧ On (fun a k => (a = 100 ∧ 4 ≤ k ∧ k < 9) ∨ a = 101 ∨ a = 102 ∨ a = 103) h h' ∧ StA h' 100 n (f0V n ru pd)) := fun g F x4 x5 x6 x7 x8 x1 => by
    unfold St_begin_b59
    refine itr_wp (fun i σ => ∃ h2 : Hp, σ = (h2, 100, c, (i : Int)) ∧ On (fun a _ => a = 102 ∨ a = 103) g h2 ∧ ∀ p : Int, 0 ≤ p → p < (i : Int) → h2 102 p = pd (3 * p) ∧ h2 103 p = pd (3 * p + 1)) n ?_ ?_ (FU_gt (by omega)) ⟨g, rfl, On.rf, fun p p0 p1 => absurd p1 (by omega)⟩
    · rintro i σ kk hi ⟨h2, rfl, F2, T2⟩ KK
      show wp (St_begin_b59_body kk h2 100 c (i : Int)) _
      have q2 : ∀ (g2 : Hp) (j : Int), On (fun a _ => a = 102 ∨ a = 103) g g2 → 0 ≤ j → j < 3 * (n : Int) → g2 (c + 2) j = pd j := fun g2 j G j0 j1 => by
        rw [G _ _ (by omega), F _ _ (by omega)]
        exact cp j j0 j1
      have G3 : On (fun a _ => a = 102 ∨ a = 103) g (up h2 102 (i : Int) (pd (3 * (i : Int)))) := F2.tr (On.up (Or.inl rfl))
      unfold St_begin_b59_body Cy_lonelyOf Cy_boreOf
      rw [cC_s S7.1 rfl, F2 100 4 (by omega), x4, w32_n (x := (i : Int)) (by omega) (by omega), w32_n (x := (n : Int)) (by omega) (by omega), if_pos (by omega), cC_s ys.1 rfl, cC_s ys.1 rfl, at_eq ys.2.2.1 (by omega) (by omega) (by omega) (by decide), cl_s, cl_s, q2 h2 (3 * (i : Int)) F2 (by omega) (by omega), e102, put_eq S2 (by decide) (by omega) (by omega) (by decide), cl_s, cC_s ys.1 rfl, at_eq ys.2.2.1 (by omega) (by omega) (by omega) (by decide), cl_s, cl_s, q2 _ (3 * (i : Int) + 1) G3 (by omega) (by omega), e103, put_eq S3 (by decide) (by omega) (by omega) (by decide), cl_s, show (i : Int) + 1 = ((i + 1 : Nat) : Int) by omega]
      refine KK _ ⟨_, rfl, G3.tr (On.up (Or.inr rfl)), fun p p0 p1 => ?_⟩
      by_cases z : p = (i : Int)
      · subst z
        rw [up_ne (by decide), up_at, up_at]
        exact ⟨rfl, rfl⟩
      · rw [up_ne (by decide), up_off z, up_off z, up_ne (by decide)]
        exact T2 p p0 (by omega)
    · rintro σ kk ⟨h2, rfl, F2, T2⟩
      show wp (St_begin_b59_body kk h2 100 c (n : Int)) _
      unfold St_begin_b59_body
      rw [cC_s S7.1 rfl, F2 100 4 (by omega), x4, if_neg (Int.lt_irrefl _)]
      have r0 : ∀ k : Int, h2 100 k = g 100 k := fun k => F2 100 k (by omega)
      have r1 : ∀ k : Int, h2 101 k = g 101 k := fun k => F2 101 k (by omega)
      refine wp_i ⟨rfl, F.tr (F2.w (fun a k q => by omega)), iS, by rw [r0]; exact x4, ?_, f0_gd n6 (by assumption) pb⟩
      funext k
      unfold cR f0V
      rw [e101, e102, e103, r0 4, r0 5, r0 6, r0 7, r0 8, x4, x5, x6, x7, x8]
      by_cases c1 : k < 0
      · rw [if_pos c1, if_neg (by omega), if_neg (by omega)]
      · rw [if_neg c1]
        by_cases c2 : k < 36
        · rw [if_pos c2, if_neg (by omega), if_neg (by omega), r1]
          exact x1 k (by omega) c2
        · rw [if_neg c2]
          by_cases c3 : k < 48
          · rw [if_pos c3]
            by_cases c4 : (k - 36) / 2 < (n : Int)
            · have t := T2 ((k - 36) / 2) (by omega) c4
              rw [if_pos c4, if_pos (show 36 ≤ k ∧ k < 36 + 2 * (n : Int) by omega), t.1, t.2]
            · rw [if_neg c4, if_neg (by omega), if_neg (by omega)]
          · rw [if_neg c3, if_neg (show ¬ (36 ≤ k ∧ k < 36 + 2 * (n : Int)) by omega)]
            by_cases c5 : k = 48
            · rw [if_pos c5, if_neg (show ¬ k = 49 by omega)]
            · rw [if_neg c5]
              by_cases c6 : k = 49
              · rw [if_pos c6, if_pos c6]
              · rw [if_neg c6, if_neg c6]
                by_cases c7 : k = 50
                · rw [if_pos c7]
                · rw [if_neg c7]
                  by_cases c8 : k = 51
                  · rw [if_pos c8]
                  · rw [if_neg c8]
  have Wp : wp (St_begin h 100 c) (fun r h' => r = 0 ∧ On (fun a k => (a = 100 ∧ 4 ≤ k ∧ k < 9) ∨ a = 101 ∨ a = 102 ∨ a = 103) h h' ∧ StA h' 100 n (f0V n ru pd)) := by
    unfold St_begin
    rw [cC_s ys.1 rfl, cC_s S7.1 rfl, pu_s, c4, pu_s]
    have Fa : On (fun a k => (a = 100 ∧ 4 ≤ k ∧ k < 9) ∨ a = 101 ∨ a = 102 ∨ a = 103) h (up (up h 100 4 (n : Int)) 100 5 0) := (On.up (Or.inl ⟨rfl, by decide, by decide⟩)).tr (On.up (Or.inl ⟨rfl, by decide, by decide⟩))
    rw [ea _ (ru 1) (by rw [Fa _ _ (by omega)]; exact cr 1 (by decide) (by decide)), cl_s, pu_s, pu_s, pu_s]
    have Fb : On (fun a k => (a = 100 ∧ 4 ≤ k ∧ k < 9) ∨ a = 101 ∨ a = 102 ∨ a = 103) h (up (up (up (up (up h 100 4 (n : Int)) 100 5 0) 100 6 (ru 1)) 100 7 0) 100 8 0) := ((Fa.tr (On.up (Or.inl ⟨rfl, by decide, by decide⟩))).tr (On.up (Or.inl ⟨rfl, by decide, by decide⟩))).tr (On.up (Or.inl ⟨rfl, by decide, by decide⟩))
    have x4 : up (up (up (up (up h 100 4 (n : Int)) 100 5 0) 100 6 (ru 1)) 100 7 0) 100 8 0 100 4 = (n : Int) := by rw [up_off (by decide), up_off (by decide), up_off (by decide), up_off (by decide), up_at]
    have x5 : up (up (up (up (up h 100 4 (n : Int)) 100 5 0) 100 6 (ru 1)) 100 7 0) 100 8 0 100 5 = 0 := by rw [up_off (by decide), up_off (by decide), up_off (by decide), up_at]
    have x6 : up (up (up (up (up h 100 4 (n : Int)) 100 5 0) 100 6 (ru 1)) 100 7 0) 100 8 0 100 6 = ru 1 := by rw [up_off (by decide), up_off (by decide), up_at]
    have x7 : up (up (up (up (up h 100 4 (n : Int)) 100 5 0) 100 6 (ru 1)) 100 7 0) 100 8 0 100 7 = 0 := by rw [up_off (by decide), up_at]
    have x8 : up (up (up (up (up h 100 4 (n : Int)) 100 5 0) 100 6 (ru 1)) 100 7 0) 100 8 0 100 8 = 0 := up_at
    generalize up (up (up (up (up h 100 4 (n : Int)) 100 5 0) 100 6 (ru 1)) 100 7 0) 100 8 0 = g at Fb x4 x5 x6 x7 x8
    unfold St_begin_b33
    refine itr_wp (fun i σ => ∃ h2 : Hp, σ = (h2, 100, c, (i : Int)) ∧ On (fun a _ => a = 101) g h2 ∧ ∀ k : Int, 0 ≤ k → k < (i : Int) → h2 101 k = 0) 36 ?_ ?_ (FU_gt (by decide)) ⟨g, rfl, On.rf, fun p p0 p1 => absurd p1 (by omega)⟩
    · rintro i σ kk hi ⟨h2, rfl, F2, T2⟩ KK
      show wp (St_begin_b33_body kk h2 100 c (i : Int)) _
      unfold St_begin_b33_body
      rw [cC_s S7.1 rfl, e101, cN_s S1 (by decide) (by decide), S1, w32_n (x := (i : Int)) (by omega) (by omega), if_pos (show (i : Int) < w32 ((36 : Nat) : Int) by rw [w32_n (x := ((36 : Nat) : Int)) (by omega) (by omega)]; omega), put_eq S1 (by decide) (by omega) (by omega) (by decide), cl_s, show (i : Int) + 1 = ((i + 1 : Nat) : Int) by omega]
      refine KK _ ⟨_, rfl, F2.tr (On.up rfl), fun k k0 k1 => ?_⟩
      by_cases z : k = (i : Int)
      · rw [z, up_at]
      · rw [up_off z]; exact T2 k k0 (by omega)
    · rintro σ kk ⟨h2, rfl, F2, T2⟩
      show wp (St_begin_b33_body kk h2 100 c ((36 : Nat) : Int)) _
      unfold St_begin_b33_body
      rw [cC_s S7.1 rfl, e101, cN_s S1 (by decide) (by decide), S1, if_neg (Int.lt_irrefl _)]
      exact lastp h2 (Fb.tr (F2.w (fun a k q => Or.inr (Or.inl q)))) (by rw [F2 100 4 (by omega)]; exact x4) (by rw [F2 100 5 (by omega)]; exact x5) (by rw [F2 100 6 (by omega)]; exact x6) (by rw [F2 100 7 (by omega)]; exact x7) (by rw [F2 100 8 (by omega)]; exact x8) (fun k k0 k1 => T2 k k0 (by omega))
  obtain ⟨r, h', e, rfl, q⟩ := Wp
  exact ⟨h', e, q⟩
end C
section M
variable {h : Hp} {n : Nat} {Q : Int → Hp → Prop}
theorem k223 (K : ∀ h', On (fun a _ => a = 2018) h h' → (∀ k : Int, 0 ≤ k → k < 2 → h' 2018 k = h 2019 k) → wp (Md_text_b248 h' 2000 0) Q) : wp (Md_text_b223 h 2000 0) Q := by
  unfold Md_text_b223
  refine itr_wp (fun i σ => ∃ h2 : Hp, σ = (h2, 2000, (i : Int)) ∧ On (fun a _ => a = 2018) h h2 ∧ ∀ k : Int, 0 ≤ k → k < (i : Int) → h2 2018 k = h 2019 k) 2 ?_ ?_ (FU_gt (by decide)) ⟨h, rfl, On.rf, fun p p0 p1 => absurd p1 (by omega)⟩
  · rintro i σ kk hi ⟨h2, rfl, F2, T2⟩ KK
    show wp (Md_text_b223_body kk h2 2000 (i : Int)) _
    unfold Md_text_b223_body
    rw [w32_n (x := (i : Int)) (by omega) (by omega), if_pos (by omega), cC_s SH2000' rfl, cX_s SH2019 (by omega) (by omega) (by decide), cY_s SH2018 (by decide) (by omega) (by omega) (by decide), pu_s, rd_ge (by decide), F2 2019 _ (by omega), show (i : Int) + 1 = ((i + 1 : Nat) : Int) by omega]
    refine KK _ ⟨_, rfl, F2.tr (On.up rfl), fun k k0 k1 => ?_⟩
    by_cases z : k = (i : Int)
    · rw [z, up_at]
    · rw [up_off z]; exact T2 k k0 (by omega)
  · rintro σ kk ⟨h2, rfl, F2, T2⟩
    show wp (Md_text_b223_body kk h2 2000 ((2 : Nat) : Int)) _
    unfold Md_text_b223_body
    rw [if_neg (by decide)]
    exact K h2 F2 (fun k k0 k1 => T2 k k0 (by omega))
theorem k248 (K : ∀ h', On (fun a _ => a = 2020) h h' → (∀ k : Int, 0 ≤ k → k < 18 → h' 2020 k = h 2021 k) → wp (Md_text_b274 h' 2000 0) Q) : wp (Md_text_b248 h 2000 0) Q := by
  unfold Md_text_b248
  refine itr_wp (fun i σ => ∃ h2 : Hp, σ = (h2, 2000, (i : Int)) ∧ On (fun a _ => a = 2020) h h2 ∧ ∀ k : Int, 0 ≤ k → k < (i : Int) → h2 2020 k = h 2021 k) 18 ?_ ?_ (FU_gt (by decide)) ⟨h, rfl, On.rf, fun p p0 p1 => absurd p1 (by omega)⟩
  · rintro i σ kk hi ⟨h2, rfl, F2, T2⟩ KK
    show wp (Md_text_b248_body kk h2 2000 (i : Int)) _
    unfold Md_text_b248_body
    rw [w32_n (x := (i : Int)) (by omega) (by omega), if_pos (by omega), cC_s SH2000' rfl, cX_s SH2021 (by omega) (by omega) (by decide), cY_s SH2020 (by decide) (by omega) (by omega) (by decide), pu_s, rd_ge (by decide), F2 2021 _ (by omega), show (i : Int) + 1 = ((i + 1 : Nat) : Int) by omega]
    refine KK _ ⟨_, rfl, F2.tr (On.up rfl), fun k k0 k1 => ?_⟩
    by_cases z : k = (i : Int)
    · rw [z, up_at]
    · rw [up_off z]; exact T2 k k0 (by omega)
  · rintro σ kk ⟨h2, rfl, F2, T2⟩
    show wp (Md_text_b248_body kk h2 2000 ((18 : Nat) : Int)) _
    unfold Md_text_b248_body
    rw [if_neg (by decide)]
    exact K h2 F2 (fun k k0 k1 => T2 k k0 (by omega))
theorem k274 (K : ∀ h', On (fun a _ => a = 2022) h h' → (∀ k : Int, 0 ≤ k → k < 24 → h' 2022 k = h 2023 k) → wp (Md_text_b300 h' 2000 0) Q) : wp (Md_text_b274 h 2000 0) Q := by
  unfold Md_text_b274
  refine itr_wp (fun i σ => ∃ h2 : Hp, σ = (h2, 2000, (i : Int)) ∧ On (fun a _ => a = 2022) h h2 ∧ ∀ k : Int, 0 ≤ k → k < (i : Int) → h2 2022 k = h 2023 k) 24 ?_ ?_ (FU_gt (by decide)) ⟨h, rfl, On.rf, fun p p0 p1 => absurd p1 (by omega)⟩
  · rintro i σ kk hi ⟨h2, rfl, F2, T2⟩ KK
    show wp (Md_text_b274_body kk h2 2000 (i : Int)) _
    unfold Md_text_b274_body
    rw [w32_n (x := (i : Int)) (by omega) (by omega), if_pos (by omega), cC_s SH2000' rfl, cX_s SH2023 (by omega) (by omega) (by decide), cY_s SH2022 (by decide) (by omega) (by omega) (by decide), pu_s, rd_ge (by decide), F2 2023 _ (by omega), show (i : Int) + 1 = ((i + 1 : Nat) : Int) by omega]
    refine KK _ ⟨_, rfl, F2.tr (On.up rfl), fun k k0 k1 => ?_⟩
    by_cases z : k = (i : Int)
    · rw [z, up_at]
    · rw [up_off z]; exact T2 k k0 (by omega)
  · rintro σ kk ⟨h2, rfl, F2, T2⟩
    show wp (Md_text_b274_body kk h2 2000 ((24 : Nat) : Int)) _
    unfold Md_text_b274_body
    rw [if_neg (by decide)]
    exact K h2 F2 (fun k k0 k1 => T2 k k0 (by omega))
theorem k300 (K : ∀ h', On (fun a _ => a = 2032) h h' → (∀ k : Int, 0 ≤ k → k < 233 → h' 2032 k = 0) → wp (Md_text_b322 h' 2000 0) Q) : wp (Md_text_b300 h 2000 0) Q := by
  unfold Md_text_b300
  refine itr_wp (fun i σ => ∃ h2 : Hp, σ = (h2, 2000, (i : Int)) ∧ On (fun a _ => a = 2032) h h2 ∧ ∀ k : Int, 0 ≤ k → k < (i : Int) → h2 2032 k = 0) 233 ?_ ?_ (FU_gt (by decide)) ⟨h, rfl, On.rf, fun p p0 p1 => absurd p1 (by omega)⟩
  · rintro i σ kk hi ⟨h2, rfl, F2, T2⟩ KK
    show wp (Md_text_b300_body kk h2 2000 (i : Int)) _
    unfold Md_text_b300_body
    rw [w32_n (x := (i : Int)) (by omega) (by omega), if_pos (by omega), cC_s SH2000' rfl, cY_s SH2032' (by decide) (by omega) (by omega) (by decide), pu_s, show (i : Int) + 1 = ((i + 1 : Nat) : Int) by omega]
    refine KK _ ⟨_, rfl, F2.tr (On.up rfl), fun k k0 k1 => ?_⟩
    by_cases z : k = (i : Int)
    · rw [z, up_at]
    · rw [up_off z]; exact T2 k k0 (by omega)
  · rintro σ kk ⟨h2, rfl, F2, T2⟩
    show wp (Md_text_b300_body kk h2 2000 ((233 : Nat) : Int)) _
    unfold Md_text_b300_body
    rw [if_neg (by decide)]
    exact K h2 F2 (fun k k0 k1 => T2 k k0 (by omega))
theorem k322 {ru pd : Int → Int} (n6 : n ≤ 6) (h26 : h 2000 26 = (n : Int)) (cr : h 2018 1 = ru 1) (cp : ∀ k : Int, 0 ≤ k → k < 3 * (n : Int) → h 2020 k = pd k) (z : ∀ k : Int, 0 ≤ k → k < 233 → h 2032 k = 0) (K : ∀ h', On (fun a k => a = 2032 ∨ (a = 2000 ∧ (k = 50 ∨ k = 42 ∨ k = 53))) h h' → (∀ k : Int, 0 ≤ k → k < 52 → h' 2032 k = f0V n ru pd k) → h' 2032 52 = 0 → h' 2000 50 = 0 → h' 2000 42 = 0 → h' 2000 53 = 0 → Q (n : Int) h') : wp (Md_text_b322 h 2000 0) Q := by
  unfold Md_text_b322
  refine itr_wp (fun i σ => ∃ h2 : Hp, σ = (h2, 2000, (i : Int)) ∧ On (fun a _ => a = 2032) h h2 ∧ ∀ k : Int, 0 ≤ k → k < 233 → h2 2032 k = f0W i pd k) n ?_ ?_ (FU_gt (by omega)) ⟨h, rfl, On.rf, fun k k0 k1 => by rw [z k k0 k1]; unfold f0W; rw [if_neg (by omega)]⟩
  · rintro i σ kk hi ⟨h2, rfl, F2, T2⟩ KK
    show wp (Md_text_b322_body kk h2 2000 (i : Int)) _
    have e20 : ∀ (g : Hp) (j : Int), rd g 2020 j = g 2020 j := fun g => rd_ge (by decide)
    have e0 : 36 + 2 * (i : Int) + 0 = 36 + 2 * (i : Int) := by omega
    unfold Md_text_b322_body
    rw [cC_s SH2000' rfl, F2 2000 26 (by omega), h26, w32_n (x := (i : Int)) (by omega) (by omega), w32_n (x := (n : Int)) (by omega) (by omega), if_pos (show (i : Int) < (n : Int) by omega), cX_s SH2020 (by omega) (by omega) (by decide), cY_s SH2032' (by decide) (by omega) (by omega) (by decide), e0, w32_n (x := 36 + 2 * (i : Int)) (by omega) (by omega), w32_n (x := 3 * (i : Int)) (by omega) (by omega), e20, F2 2020 _ (by omega), cp (3 * (i : Int)) (by omega) (by omega), pu_s, cX_s SH2020 (by omega) (by omega) (by decide), cY_s SH2032' (by decide) (by omega) (by omega) (by decide), w32_n (x := 36 + 2 * (i : Int) + 1) (by omega) (by omega), w32_n (x := 3 * (i : Int) + 1) (by omega) (by omega), e20, up_ne (by decide), F2 2020 _ (by omega), cp (3 * (i : Int) + 1) (by omega) (by omega), pu_s, show (i : Int) + 1 = ((i + 1 : Nat) : Int) by omega]
    refine KK _ ⟨_, rfl, (F2.tr (On.up rfl)).tr (On.up rfl), fun k k0 k1 => ?_⟩
    by_cases c1 : k = 36 + 2 * (i : Int) + 1
    · rw [c1, up_at]
      unfold f0W
      rw [if_pos (by omega), if_neg (by omega), show 3 * ((36 + 2 * (i : Int) + 1 - 36) / 2) + 1 = 3 * (i : Int) + 1 by omega]
    · rw [up_off c1]
      by_cases c2 : k = 36 + 2 * (i : Int)
      · rw [c2, up_at]
        unfold f0W
        rw [if_pos (by omega), if_pos (by omega), show 3 * ((36 + 2 * (i : Int) - 36) / 2) = 3 * (i : Int) by omega]
      · rw [up_off c2, T2 k k0 k1]
        unfold f0W
        by_cases c3 : 36 ≤ k ∧ k < 36 + 2 * (i : Int)
        · rw [if_pos c3, if_pos (show 36 ≤ k ∧ k < 36 + 2 * ((i + 1 : Nat) : Int) by omega)]
        · rw [if_neg c3, if_neg (show ¬ (36 ≤ k ∧ k < 36 + 2 * ((i + 1 : Nat) : Int)) by omega)]
  · rintro σ kk ⟨h2, rfl, F2, T2⟩
    show wp (Md_text_b322_body kk h2 2000 (n : Int)) _
    unfold Md_text_b322_body
    rw [cC_s SH2000' rfl, F2 2000 26 (by omega), h26, if_neg (Int.lt_irrefl _), cX_s SH2018 (by decide) (by decide) (by decide), cY_s SH2032' (by decide) (by decide) (by decide) (by decide), rd_ge (by decide), F2 2018 1 (by omega), cr, pu_s, pu_s, pu_s, pu_s, up_off (by decide), up_off (by decide), up_off (by decide), up_ne (by decide), F2 2000 26 (by omega), h26]
    have G : On (fun a k => a = 2032 ∨ (a = 2000 ∧ (k = 50 ∨ k = 42 ∨ k = 53))) h h2 := F2.w (fun a k q => Or.inl q)
    refine wp_i (K _ ((((G.tr (On.up (Or.inl rfl))).tr (On.up (Or.inr ⟨rfl, Or.inl rfl⟩))).tr (On.up (Or.inr ⟨rfl, Or.inr (Or.inl rfl)⟩))).tr (On.up (Or.inr ⟨rfl, Or.inr (Or.inr rfl)⟩))) (fun k k0 k1 => ?_) ?_ ?_ ?_ ?_)
    · rw [up_ne (by decide), up_ne (by decide), up_ne (by decide)]
      by_cases c1 : k = 49
      · rw [c1, up_at]
        unfold f0V
        rw [if_neg (by omega), if_pos rfl]
      · rw [up_off c1, T2 k k0 (by omega)]
        unfold f0W f0V
        by_cases c3 : 36 ≤ k ∧ k < 36 + 2 * (n : Int)
        · rw [if_pos c3, if_pos c3]
        · rw [if_neg c3, if_neg c3, if_neg c1]
    · rw [up_ne (by decide), up_ne (by decide), up_ne (by decide), up_off (by decide), T2 52 (by decide) (by decide)]
      unfold f0W
      rw [if_neg (by omega)]
    · rw [up_off (by decide), up_off (by decide), up_at]
    · rw [up_off (by decide), up_at]
    · rw [up_at]
end M
end PureBegin
