section PureStart
/-! THE START; all 39 together -/
theorem z0S {a : Int} (k : Int) (h1 : a ≠ 20) (h2 : a ≠ 21) (h3 : a ≠ 2000) : hS0 a k = 0 := by
  show up (up (up hC4 2000 5 2001) 2000 34 (-1)) 2000 35 3 a k = 0
  rw [up_ne h3, up_ne h3, up_ne h3]
  exact zC4 h2 h1 h3 k
theorem if_ss {c : Prop} [Decidable c] {x : Int} : (if c then x else x) = x := by
  by_cases q : c
  · rw [if_pos q]
  · rw [if_neg q]
theorem gd0 : Gd 0 (fun _ => 0) := ⟨by decide, fun _ _ _ => ⟨Int.le_refl _, show (0 : Int) ≤ 99 by decide⟩, fun _ _ _ _ _ _ => rfl, fun _ _ _ => rfl, fun _ _ _ => ⟨Int.le_refl _, show (0 : Int) ≤ 9 by decide, Int.le_refl _, show (0 : Int) ≤ 9 by decide⟩, ⟨Int.le_refl _, show (0 : Int) < 256 by decide⟩, ⟨Int.le_refl _, show (0 : Int) ≤ 999 by decide⟩⟩
theorem inv0 : Inv hS0 := by
  have c20 : hS0 20 1 = 30 ∧ hS0 20 2 = 40 ∧ hS0 20 5 = 0 ∧ hS0 20 6 = -1 ∧ hS0 20 7 = 0 ∧ hS0 20 8 = 3 ∧ hS0 20 12 = 0 ∧ hS0 21 1 = 0 := by decide +kernel
  have c00 : hS0 2000 6 = 0 ∧ hS0 2000 7 = 0 ∧ hS0 2000 26 = 0 ∧ hS0 2000 27 = 0 ∧ hS0 2000 30 = 0 ∧ hS0 2000 34 = -1 ∧ hS0 2000 35 = 3 ∧ hS0 2000 42 = 0 ∧ hS0 2000 50 = 0 ∧ hS0 2000 53 = 0 := by decide +kernel
  obtain ⟨a1, a2, a5, a6, a7, a8, a12, a21⟩ := c20
  obtain ⟨b6, b7, b26, b27, b30, b34, b35, b42, b50, b53⟩ := c00
  have z := fun (a k : Int) (h1 : a ≠ 20) (h2 : a ≠ 21) (h3 : a ≠ 2000) => z0S (a := a) k h1 h2 h3
  generalize hS0 = h at a1 a2 a5 a6 a7 a8 a12 a21 b6 b7 b26 b27 b30 b34 b35 b42 b50 b53 z
  have r : ∀ (a k : Int), a ≠ 20 → a ≠ 21 → a ≠ 2000 → h a k = 0 := z
  have A : StA h 110 0 (fun _ => 0) := by
    refine ⟨⟨by decide, by decide, by decide⟩, r 110 4 (by decide) (by decide) (by decide), ?_, gd0⟩
    funext k
    have e1 : h (110 + 1) k = 0 := r _ k (by decide) (by decide) (by decide)
    have e2 : h (110 + 2) ((k - 36) / 2) = 0 := r _ _ (by decide) (by decide) (by decide)
    have e3 : h (110 + 3) ((k - 36) / 2) = 0 := r _ _ (by decide) (by decide) (by decide)
    have e4 : ∀ j : Int, h 110 j = 0 := fun j => r _ j (by decide) (by decide) (by decide)
    unfold cR
    rw [e1, e2, e3, e4, e4, e4, e4, e4, if_ss, if_ss, if_ss, if_ss, if_ss, if_ss, if_ss, if_ss, if_ss]
  have M : StM h 2032 0 (fun _ => 0) := by
    refine ⟨Or.inl rfl, b26, ?_, gd0⟩
    funext k
    unfold mR
    rw [r 2032 k (by decide) (by decide) (by decide), if_ss]
  refine ⟨0, 0, 0, 0, fun _ => 0, fun _ => 0, fun _ => 0, fun _ => 0, fun _ => ([], fun _ => none), -1, 3, ⟨0, fun _ => 0, bok0 _, a21, b6, fun k hk => absurd hk (by omega), fun k hk => absurd hk (by omega)⟩, ⟨⟨⟨Or.inl a1, by rw [a1]; exact r _ _ (by decide) (by decide) (by decide), by decide⟩, by rw [a1]; exact r _ _ (by decide) (by decide) (by decide), by decide, fun k _ _ => by rw [a1]; exact r _ _ (by decide) (by decide) (by decide), fun k k0 k1 => absurd k1 (by omega), fun k k0 k1 => absurd k1 (by omega)⟩, ⟨b26, by decide, b27, by decide, fun k _ _ => r _ _ (by decide) (by decide) (by decide), fun k k0 k1 => absurd k1 (by omega), fun k k0 k1 => absurd k1 (by omega)⟩, ⟨fun q => absurd q (by omega), fun p p0 p1 => absurd p1 (by omega), fun w w0 w1 => absurd w1 (by omega), fun _ => rfl⟩, by rw [a1, a2]; rfl⟩, ⟨a5, b7, by decide, fun i hi => absurd hi (by omega)⟩, ⟨a6, b34, by decide, by decide⟩, fun s s0 s1 => Or.inl (r _ _ (by decide) (by decide) (by decide)), ⟨a7, b30, by decide, fun i hi => absurd hi (by omega)⟩, ⟨a8, b35, by decide, by decide⟩, ⟨A, M, ⟨Int.le_refl _, by decide⟩, ⟨Int.le_refl _, by decide⟩, ⟨Int.le_refl _, by decide⟩⟩, ⟨by rw [r 2032 52 (by decide) (by decide) (by decide)]; rfl, fun i i0 i1 => absurd i1 (by show ¬ i < min 60 0; omega)⟩, fun q => absurd q (by omega), Or.inl ⟨a12, b53⟩, ⟨0, 0, fun _ _ => 0, r _ _ (by decide) (by decide) (by decide), r _ _ (by decide) (by decide) (by decide), b42, by decide, by decide, fun j hj => absurd hj (by omega), fun i j _ hj => absurd hj (by omega)⟩, ⟨0, r _ _ (by decide) (by decide) (by decide), b50, by decide, fun i i0 i1 => absurd i1 (by omega)⟩, fun q => absurd q (by omega)⟩
theorem pure_all : S_all39 Inv ∧ Inv hS0 := ⟨⟨So_feed, So_end, So_fault, So_text, So_person, So_wrong, So_law, So_sin, So_sentence, So_evening, So_appeal, So_pardon, So_lunch, So_teach, So_give, So_years, So_undo, So_log, So_step, So_run, So_perform, So_owed, So_tonight, So_served, So_sooner, So_matched, So_firm, So_given, So_graves, So_ask, So_crime, So_game, So_rests, So_odds, So_all, So_circle, So_image, So_back, So_count⟩, inv0⟩
end PureStart
