section PureKeepPast
/-! THE PAST: a state offered and kept; remembered -/
section K
variable {h h' : Hp} {n W : Nat} {f : Int → Int}
theorem offer_e {fst acts : Nat} (A : StA h 110 n f) (h1 : h 55 1 = (fst : Int)) (h2 : h 55 2 = (acts : Int)) (f1 : fst < 41) (f2 : acts ≤ 40) : ∃ h', Ps_offer h 55 110 = some (0, h') ∧ Fr (fun x => x = paA fst acts ∨ x = paA fst acts + 1 ∨ x = paA fst acts + 2 ∨ x = paA fst acts + 3) h h' ∧ StA h' (paA fst acts) n f := by
  have b := paA_b fst acts
  have iS : IsS (paA fst acts) := ⟨by omega, by omega, b.2.2⟩
  obtain ⟨h', e, F, S⟩ := St_copy_e iS A (by omega)
  refine ⟨h', ?_, F, S⟩
  unfold Ps_offer
  rw [cC_s SH55 rfl, last_e h1 h2 f1 f2, cl_s, cC_s (IsS_sh iS).1 rfl, e, cl_s]
theorem paA_ne {fst j acts : Nat} (hj : j < acts) (ha : acts ≤ 40) : paA fst j ≠ paA fst acts := by
  unfold paA
  omega
theorem paA_s {fst j : Nat} : paA ((fst + 1) % 41) j = paA fst (j + 1) := by
  unfold paA
  have : ((fst + 1) % 41 + j) % 41 = (fst + (j + 1)) % 41 := by omega
  rw [this]
theorem rb52_e {j : Nat} (hj : j < 40) (h42 : h 2000 42 = (j : Int)) : ∃ h', Md_remember_b52 h 2000 0 = some (0, h') ∧ On (fun a k => (a = 2041 ∧ 233 * (j : Int) ≤ k) ∨ (a = 2000 ∧ k = 42)) h h' ∧ h' 2000 42 = (j : Int) + 1 ∧ ∀ k : Int, 0 ≤ k → k < 233 → h' 2041 (233 * (j : Int) + k) = h 2032 k := by
  have Wp : wp (Md_remember_b52 h 2000 0) (fun r h' => r = 0 ∧ On (fun a k => (a = 2041 ∧ 233 * (j : Int) ≤ k) ∨ (a = 2000 ∧ k = 42)) h h' ∧ h' 2000 42 = (j : Int) + 1 ∧ ∀ k : Int, 0 ≤ k → k < 233 → h' 2041 (233 * (j : Int) + k) = h 2032 k) := by
    unfold Md_remember_b52
    refine itr_wp (fun i σ => ∃ h2 : Hp, σ = (h2, 2000, (i : Int)) ∧ On (fun a k => a = 2041 ∧ 233 * (j : Int) ≤ k) h h2 ∧ ∀ m : Int, 0 ≤ m → m < (i : Int) → h2 2041 (233 * (j : Int) + m) = h 2032 m) 233 ?_ ?_ (FU_gt (by decide)) ⟨h, rfl, On.rf, fun j j0 j1 => absurd j1 (by omega)⟩
    · rintro i σ k hi ⟨h2, rfl, F2, T2⟩ K
      show wp (Md_remember_b52_body k h2 2000 (i : Int)) _
      have e42 : h2 2000 42 = (j : Int) := by rw [F2 2000 42 (by omega)]; exact h42
      unfold Md_remember_b52_body
      rw [w32_n (x := (i : Int)) (by omega) (by omega), if_pos (by omega), cC_s SH2000' rfl, cX_s SH2032' (by omega) (by omega) (by decide), e42, cY_s SH2041 (by decide) (by omega) (by omega) (by decide), pu_s, rd_ge (by decide), w32_n (x := 233 * (j : Int) + (i : Int)) (by omega) (by omega), F2 2032 _ (by omega)]
      refine K _ ⟨_, rfl, F2.tr (On.up ⟨rfl, by omega⟩), fun m m0 m1 => ?_⟩
      by_cases z : m = (i : Int)
      · rw [z, up_at]
      · rw [up_off (by omega)]; exact T2 m m0 (by omega)
    · rintro σ k ⟨h2, rfl, F2, T2⟩
      show wp (Md_remember_b52_body k h2 2000 ((233 : Nat) : Int)) _
      unfold Md_remember_b52_body
      rw [if_neg (by decide), cC_s SH2000' rfl, F2 2000 42 (by omega), h42, pu_s]
      exact wp_i ⟨rfl, (F2.w (fun a k q => Or.inl q)).tr (On.up (Or.inr ⟨rfl, rfl⟩)), up_at, fun m m0 m1 => by rw [up_ne (by decide)]; exact T2 m m0 (by omega)⟩
  obtain ⟨r, h', e, rfl, q⟩ := Wp
  exact ⟨h', e, q⟩
theorem rb11_e (h42 : h 2000 42 = 40) : ∃ h', Md_remember_b11 h 2000 0 = some (0, h') ∧ On (fun a k => a = 2041 ∨ (a = 2000 ∧ k = 42)) h h' ∧ h' 2000 42 = 40 ∧ (∀ k : Int, 0 ≤ k → k < 233 → h' 2041 (9087 + k) = h 2032 k) ∧ ∀ x : Int, 0 ≤ x → x < 9087 → h' 2041 x = h 2041 (x + 233) := by
  have Wp : wp (Md_remember_b11 h 2000 0) (fun r h' => r = 0 ∧ On (fun a k => a = 2041 ∨ (a = 2000 ∧ k = 42)) h h' ∧ h' 2000 42 = 40 ∧ (∀ k : Int, 0 ≤ k → k < 233 → h' 2041 (9087 + k) = h 2032 k) ∧ ∀ x : Int, 0 ≤ x → x < 9087 → h' 2041 x = h 2041 (x + 233)) := by
    unfold Md_remember_b11
    refine itr_wp (fun i σ => ∃ h2 : Hp, σ = (h2, 2000, (i : Int)) ∧ On (fun a k => a = 2041 ∧ k < (i : Int)) h h2 ∧ ∀ m : Int, 0 ≤ m → m < (i : Int) → h2 2041 m = h 2041 (m + 233)) 9087 ?_ ?_ (FU_gt (by decide)) ⟨h, rfl, On.rf, fun j j0 j1 => absurd j1 (by omega)⟩
    · rintro i σ k hi ⟨h2, rfl, F2, T2⟩ K
      show wp (Md_remember_b11_body k h2 2000 (i : Int)) _
      unfold Md_remember_b11_body
      rw [w32_n (x := (i : Int)) (by omega) (by omega), if_pos (by omega), cC_s SH2000' rfl, cX_s SH2041 (by omega) (by omega) (by decide), cY_s SH2041 (by decide) (by omega) (by omega) (by decide), pu_s, rd_ge (by decide), w32_n (x := (i : Int) + 233) (by omega) (by omega), F2 2041 _ (by omega)]
      refine K _ ⟨_, rfl, (F2.w (fun a k q => ⟨q.1, by omega⟩)).tr (On.up ⟨rfl, by omega⟩), fun m m0 m1 => ?_⟩
      by_cases z : m = (i : Int)
      · rw [z, up_at]
      · rw [up_off (by omega)]; exact T2 m m0 (by omega)
    · rintro σ k ⟨h2, rfl, F2, T2⟩
      show wp (Md_remember_b11_body k h2 2000 ((9087 : Nat) : Int)) _
      obtain ⟨h3, e3, F3, x42, T3⟩ := rb52_e (h := up h2 2000 42 39) (j := 39) (by decide) up_at
      have e39 : (40 : Int) - 1 = 39 := rfl
      unfold Md_remember_b11_body
      rw [if_neg (by decide), cC_s SH2000' rfl, F2 2000 42 (by omega), h42, e39, pu_s, e3]
      refine wp_i ⟨rfl, ((F2.w (fun a k q => Or.inl q.1)).tr (On.up (Or.inr ⟨rfl, rfl⟩))).tr (F3.w (fun a k q => by omega)), x42, fun m m0 m1 => ?_, fun x x0 x1 => ?_⟩
      · have t := T3 m m0 m1
        rw [up_ne (by decide), F2 2032 m (by omega)] at t
        exact t
      · rw [F3 2041 x (by omega), up_ne (by decide)]
        exact T2 x x0 (by omega)
  obtain ⟨r, h', e, rfl, q⟩ := Wp
  exact ⟨h', e, q⟩
end K
end PureKeepPast
