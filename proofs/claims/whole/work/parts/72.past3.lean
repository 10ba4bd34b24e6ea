section PurePast3
/-! THE PAST kept: what both hold alike behind an act -/
section K
variable {h hF : Hp} {n W : Nat} {f : Int → Int}
theorem pa_kept {fst acts : Nat} {PF : Nat → Int → Int} {e : Int} (p4 : fst < 41) (p5 : acts ≤ 40) (p6 : ∀ j : Nat, j < acts → StA h (paA fst j) n (PF j) ∧ (∀ k : Int, 0 ≤ k → k < 52 → h 2041 (233 * (j : Int) + k) = PF j k) ∧ FB W (PF j) ∧ LG (h 61) (fun k => h 2041 (233 * (j : Int) + k)) (PF j 51) ∧ PF j 51 ≤ f 51) (p7 : ∀ i j : Nat, i ≤ j → j < acts → PF i 51 ≤ PF j 51) (A : StA hF (paA fst acts) n f) (M : ∀ k : Int, 0 ≤ k → k < 52 → h 2032 k = f k) (fb : FB W f) (Lg : LG (h 61) (h 2032) (f 51)) (sl : ∀ j : Nat, j < acts → (∀ k : Int, 4 ≤ k → k < 9 → hF (paA fst j) k = h (paA fst j) k) ∧ ∀ m : Int, 1 ≤ m → m < 4 → hF (paA fst j + m) = h (paA fst j + m)) (x1 : hF 55 1 = ((if acts = 40 then (fst + 1) % 41 else fst : Nat) : Int)) (x2 : hF 55 2 = ((if acts = 40 then 40 else acts + 1 : Nat) : Int)) (x42 : hF 2000 42 = ((if acts = 40 then 40 else acts + 1 : Nat) : Int)) (r41 : acts < 40 → (∀ k : Int, k < 233 * (acts : Int) → hF 2041 k = h 2041 k) ∧ ∀ k : Int, 0 ≤ k → k < 233 → hF 2041 (233 * (acts : Int) + k) = h 2032 k) (s41 : acts = 40 → (∀ x : Int, 0 ≤ x → x < 9087 → hF 2041 x = h 2041 (x + 233)) ∧ ∀ k : Int, 0 ≤ k → k < 233 → hF 2041 (9087 + k) = h 2032 k) (r61 : ∀ x : Int, x ≤ f 51 → hF 61 x = h 61 x) (he : f 51 ≤ e) : PaI hF n W e := by
  by_cases c : acts = 40
  · subst c
    rw [if_pos rfl] at x1 x2 x42
    obtain ⟨s1, s2⟩ := s41 rfl
    refine ⟨(fst + 1) % 41, 40, fun j => if j = 39 then f else PF (j + 1), x1, x2, x42, Nat.mod_lt _ (by decide), Nat.le_refl _, fun j hj => ?_, fun i j hij hj => ?_⟩
    · rw [paA_s]
      by_cases z : j = 39
      · subst z
        have e39 : ∀ k : Int, 233 * ((39 : Nat) : Int) + k = 9087 + k := fun k => rfl
        dsimp only
        rw [if_pos rfl]
        refine ⟨A, fun k k0 k1 => ?_, fb, lg_d Lg (fun i i0 i1 i2 => r61 _ (by omega)) (fun k k0 k1 => ?_), he⟩
        · rw [e39, s2 k k0 (by omega)]; exact M k k0 k1
        · show hF 2041 (233 * ((39 : Nat) : Int) + k) = h 2032 k
          rw [e39, s2 k (by omega) k1]
      · dsimp only
        rw [if_neg z]
        obtain ⟨q1, q2, q3, q4, q5⟩ := p6 (j + 1) (by omega)
        obtain ⟨l1, l2⟩ := sl (j + 1) (by omega)
        have e1 : ∀ k : Int, 0 ≤ k → k < 233 → hF 2041 (233 * (j : Int) + k) = h 2041 (233 * ((j + 1 : Nat) : Int) + k) := fun k k0 k1 => by
          rw [s1 _ (by omega) (by omega)]
          congr 1
          omega
        refine ⟨q1.c l1 l2, fun k k0 k1 => ?_, q3, lg_d q4 (fun i i0 i1 i2 => r61 _ (by omega)) (fun k k0 k1 => e1 k (by omega) k1), by omega⟩
        rw [e1 k k0 (by omega)]
        exact q2 k k0 k1
    · show (if i = 39 then f else PF (i + 1)) 51 ≤ (if j = 39 then f else PF (j + 1)) 51
      by_cases z : j = 39
      · rw [if_pos z]
        by_cases y : i = 39
        · rw [if_pos y]; exact Int.le_refl _
        · rw [if_neg y]; exact (p6 (i + 1) (by omega)).2.2.2.2
      · rw [if_neg z, if_neg (by omega)]
        exact p7 (i + 1) (j + 1) (by omega) (by omega)
  · rw [if_neg c] at x1 x2 x42
    obtain ⟨s1, s2⟩ := r41 (by omega)
    refine ⟨fst, acts + 1, fun j => if j = acts then f else PF j, x1, x2, x42, p4, by omega, fun j hj => ?_, fun i j hij hj => ?_⟩
    · by_cases z : j = acts
      · subst z
        dsimp only
        rw [if_pos rfl]
        refine ⟨A, fun k k0 k1 => ?_, fb, lg_d Lg (fun i i0 i1 i2 => r61 _ (by omega)) (fun k k0 k1 => s2 k (by omega) k1), he⟩
        rw [s2 k k0 (by omega)]; exact M k k0 k1
      · dsimp only
        rw [if_neg z]
        obtain ⟨q1, q2, q3, q4, q5⟩ := p6 j (by omega)
        obtain ⟨l1, l2⟩ := sl j (by omega)
        have e1 : ∀ k : Int, 0 ≤ k → k < 233 → hF 2041 (233 * (j : Int) + k) = h 2041 (233 * (j : Int) + k) := fun k k0 k1 => s1 _ (by omega)
        refine ⟨q1.c l1 l2, fun k k0 k1 => ?_, q3, lg_d q4 (fun i i0 i1 i2 => r61 _ (by omega)) (fun k k0 k1 => e1 k (by omega) k1), by omega⟩
        rw [e1 k k0 (by omega)]
        exact q2 k k0 k1
    · show (if i = acts then f else PF i) 51 ≤ (if j = acts then f else PF j) 51
      by_cases z : j = acts
      · rw [if_pos z]
        by_cases y : i = acts
        · rw [if_pos y]; exact Int.le_refl _
        · rw [if_neg y]; exact (p6 i (by omega)).2.2.2.2
      · rw [if_neg z, if_neg (by omega)]
        exact p7 i j hij (by omega)
theorem keep_e2 {fst acts : Nat} (h1 : h 55 1 = (fst : Int)) (h2 : h 55 2 = (acts : Int)) (f1 : fst < 41) (f2 : acts ≤ 40) : ∃ h', Ps_keep h 55 = some (0, h') ∧ On (fun a k => a = 55 ∧ (k = 1 ∨ k = 2)) h h' ∧ h' 55 1 = ((if acts = 40 then (fst + 1) % 41 else fst : Nat) : Int) ∧ h' 55 2 = ((if acts = 40 then 40 else acts + 1 : Nat) : Int) := by
  have w41 : w32 41 = 41 := by decide
  have d41 : ∀ A : Option (Int × Hp), cD 41 A = A := fun A => if_neg (by decide)
  have ec : ((fst : Int) + 1).tmod 41 = (((fst + 1) % 41 : Nat) : Int) := by
    rw [Int.tmod_eq_emod_of_nonneg (by omega)]
    omega
  unfold Ps_keep
  rw [cC_s SH55 rfl, h2, w32_n (x := (acts : Int)) (by omega) (by omega)]
  by_cases c : acts = 40
  · rw [if_neg (by omega), d41, h1, w32_n (x := (fst : Int) + 1) (by omega) (by omega), w41, ec, pu_s, if_pos c, if_pos c]
    exact ⟨_, rfl, On.up ⟨rfl, Or.inl rfl⟩, up_at, by rw [up_off (by decide), h2, c]⟩
  · rw [if_pos (by omega), pu_s, if_neg c, if_neg c]
    exact ⟨_, rfl, On.up ⟨rfl, Or.inr rfl⟩, by rw [up_off (by decide)]; exact h1, by rw [up_at]; rfl⟩
theorem remember_e {acts : Nat} (h42 : h 2000 42 = (acts : Int)) (f2 : acts ≤ 40) : ∃ h', Md_remember h 2000 = some (0, h') ∧ On (fun a k => a = 2041 ∨ (a = 2000 ∧ k = 42)) h h' ∧ h' 2000 42 = ((if acts = 40 then 40 else acts + 1 : Nat) : Int) ∧ (acts < 40 → (∀ k : Int, k < 233 * (acts : Int) → h' 2041 k = h 2041 k) ∧ ∀ k : Int, 0 ≤ k → k < 233 → h' 2041 (233 * (acts : Int) + k) = h 2032 k) ∧ (acts = 40 → (∀ x : Int, 0 ≤ x → x < 9087 → h' 2041 x = h 2041 (x + 233)) ∧ ∀ k : Int, 0 ≤ k → k < 233 → h' 2041 (9087 + k) = h 2032 k) := by
  unfold Md_remember
  rw [cC_s SH2000' rfl, h42, w32_n (x := (acts : Int)) (by omega) (by omega)]
  by_cases c : acts = 40
  · obtain ⟨h', e1, F1, x1, t1, t2⟩ := rb11_e (h := h) (by rw [h42, c]; rfl)
    rw [if_pos (by omega), if_pos c]
    exact ⟨h', e1, F1, x1, fun q => absurd q (by omega), fun _ => ⟨t2, t1⟩⟩
  · obtain ⟨h', e1, F1, x1, t1⟩ := rb52_e (h := h) (j := acts) (by omega) h42
    rw [if_neg (by omega), if_neg c]
    exact ⟨h', e1, F1.w (fun a k q => q.elim (fun z => Or.inl z.1) Or.inr), x1, fun _ => ⟨fun k hk => F1 2041 k (by omega), t1⟩, fun q => absurd q c⟩
end K
end PurePast3
