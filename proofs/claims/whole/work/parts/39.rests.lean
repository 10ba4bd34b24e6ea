section PureU
/-! RESTS: the pairs of choices where neither gains by another -/
variable {h h' : Hp} {n W : Nat} {f ru pd wd : Int → Int}
theorem ga_b (g : Gd n f) {a b x y : Int} (a0 : 0 ≤ a) (a1 : a < n) : -12 ≤ gaV n f a b x y ∧ gaV n f a b x y ≤ 11 := by
  have n6 := g.1
  have L := Gd_l g a0 (by omega)
  have e2 : -3 ≤ (if x = y then (-3 : Int) else 0) ∧ (if x = y then (-3 : Int) else 0) ≤ 0 := by
    by_cases c : x = y
    · rw [if_pos c]; omega
    · rw [if_neg c]; omega
  have e3 : 0 ≤ (if x = b ∧ y = a then (2 : Int) else 0) ∧ (if x = b ∧ y = a then (2 : Int) else 0) ≤ 2 := by
    by_cases c : x = b ∧ y = a
    · rw [if_pos c]; omega
    · rw [if_neg c]; omega
  have e1 : -9 ≤ (if x = a then -9 else if 0 ≤ x ∧ x < (n : Int) then f (36 + 2 * a) - f (37 + 2 * x) else -9) ∧ (if x = a then -9 else if 0 ≤ x ∧ x < (n : Int) then f (36 + 2 * a) - f (37 + 2 * x) else -9) ≤ 9 := by
    by_cases c : x = a
    · rw [if_pos c]; omega
    · rw [if_neg c]
      by_cases c2 : 0 ≤ x ∧ x < (n : Int)
      · have B := Gd_b g c2.1 (by omega)
        rw [if_pos c2]; omega
      · rw [if_neg c2]; omega
  unfold gaV
  omega
def bsB (n : Nat) (f : Int → Int) (a b x y : Int) : Prop := ∀ z : Nat, z < n → ¬ (gaV n f a b x y < gaV n f a b (z : Int) y)
def bsD (n : Nat) (f : Int → Int) (a b x y : Int) : Decidable (bsB n f a b x y) := by
  unfold bsB
  infer_instance
def bsV (n : Nat) (f : Int → Int) (a b x y : Int) : Int := @ite Int (bsB n f a b x y) (bsD n f a b x y) 1 0
theorem bsV_1 {a b x y : Int} (q : bsB n f a b x y) : bsV n f a b x y = 1 := @if_pos _ (bsD n f a b x y) q Int 1 0
theorem bsV_0 {a b x y : Int} (q : ¬ bsB n f a b x y) : bsV n f a b x y = 0 := @if_neg _ (bsD n f a b x y) q Int 1 0
theorem c_best (C : CoA h n) (A : StA h 110 n f) {a b x y : Int} (ha : ir a) (hb : ir b) (hx : ir x) (hy : ir y) (a0 : 0 ≤ a) (a1 : a < n) : Cc_isBest h 20 a b x y = some (bsV n f a b x y, h) := by
  have n6 := A.2.2.2.1
  have s0 := (IsS_sh A.1).1
  have W : wp (Cc_isBest h 20 a b x y) (fun r h' => r = bsV n f a b x y ∧ h' = h) := by
    unfold Cc_isBest
    rw [cC_s SH20' rfl, c_gains C A ha hb hx hy a0 a1, cl_s]
    unfold Cc_isBest_b14
    refine itr_wpx (fun d σ => ∃ i : Nat, σ = (h, 20, a, b, y, gaV n f a b x y, (i : Int)) ∧ i + d = n ∧ ∀ z : Nat, z < i → ¬ (gaV n f a b x y < gaV n f a b (z : Int) y)) ?_ (n := n) (FU_gt (by omega)) ⟨0, rfl, by omega, fun z q => absurd q (by omega)⟩
    rintro d σ k ⟨i, rfl, hd, V⟩ K
    show wp (Cc_isBest_b14_body k h 20 a b y (gaV n f a b x y) (i : Int)) _
    unfold Cc_isBest_b14_body
    have B1 := ga_b A.2.2.2 (a := a) (b := b) (x := x) (y := y) a0 a1
    have B2 := ga_b A.2.2.2 (a := a) (b := b) (x := (i : Int)) (y := y) a0 a1
    rw [cC_s SH20' rfl, cC_s s0 rfl, A.2.1, w32_n (x := (i : Int)) (by omega) (by omega), w32_n (x := (n : Int)) (by omega) (by omega)]
    by_cases ci : i < n
    · rw [if_pos (by omega), c_gains C A ha hb ⟨by omega, by omega⟩ hy a0 a1, cl_s, w32_id (x := gaV n f a b x y) (by omega) (by omega), w32_id (x := gaV n f a b (i : Int) y) (by omega) (by omega)]
      by_cases c : gaV n f a b x y < gaV n f a b (i : Int) y
      · rw [if_pos c]
        exact wp_i ⟨(bsV_0 (fun q => q i ci c)).symm, rfl⟩
      · rw [if_neg c]
        refine K (d - 1) _ (by omega) ⟨i + 1, rfl, by omega, fun z hz => ?_⟩
        by_cases e : z = i
        · subst e
          exact c
        · exact V z (by omega)
    · rw [if_neg (by omega)]
      exact wp_i ⟨(bsV_1 (fun z hz => V z (by omega))).symm, rfl⟩
  obtain ⟨r, h', e, rfl, rfl⟩ := W
  exact e
def rsJ (n : Nat) (f : Int → Int) (a b t : Int) (i : Nat) (K : Int → Int) : Nat → Nat → Int → Int
  | 0, _, c => K c
  | d + 1, j, c => if bsV n f a b (i : Int) (j : Int) = 0 then rsJ n f a b t i K d (j + 1) c else if bsV n f b a (j : Int) (i : Int) = 0 then rsJ n f a b t i K d (j + 1) c else if c = t then 10 * (i : Int) + (j : Int) else rsJ n f a b t i K d (j + 1) (c + 1)
def rsI (n : Nat) (f : Int → Int) (a b t : Int) : Nat → Nat → Int → Int
  | 0, _, c => if t = -1 then c else -1
  | d + 1, i, c => rsJ n f a b t i (rsI n f a b t d (i + 1)) n 0 c
theorem c_rests (C : CoA h n) (A : StA h 110 n f) {a b t : Int} (ha : ir a) (hb : ir b) (ht : ir t) (a0 : 0 ≤ a) (a1 : a < n) (b0 : 0 ≤ b) (b1 : b < n) : Cc_rests_b17 h 20 a b t 0 0 = some (rsI n f a b t n 0 0, h) := by
  have n6 := A.2.2.2.1
  have s0 := (IsS_sh A.1).1
  generalize hV : rsI n f a b t n 0 0 = V
  have W : wp (Cc_rests_b17 h 20 a b t 0 0) (fun r h' => r = V ∧ h' = h) := by
    unfold Cc_rests_b17
    refine itr_wpx (fun d σ => ∃ (i : Nat) (c : Int), σ = (h, 20, a, b, t, c, (i : Int)) ∧ i + d = n ∧ 0 ≤ c ∧ c ≤ 6 * (i : Int) ∧ rsI n f a b t d i c = V) ?_ (n := n) (FU_gt (by omega)) ⟨0, 0, rfl, by omega, by omega, by omega, hV⟩
    rintro d σ k ⟨i, c, rfl, hd, c0, c1, v⟩ K
    show wp (Cc_rests_b17_body k h 20 a b t c (i : Int)) _
    unfold Cc_rests_b17_body
    rw [cC_s SH20' rfl, cC_s s0 rfl, A.2.1, w32_n (x := (i : Int)) (by omega) (by omega), w32_n (x := (n : Int)) (by omega) (by omega)]
    cases d with
    | zero =>
      rw [if_neg (by omega), ri ht]
      have v' : (if t = -1 then c else -1) = V := v
      by_cases ct : t = -1
      · rw [if_pos ct] at v' ⊢
        exact wp_i ⟨v', rfl⟩
      · rw [if_neg ct] at v' ⊢
        exact wp_i ⟨v', rfl⟩
    | succ d =>
      rw [if_pos (by omega)]
      have v' : rsJ n f a b t i (rsI n f a b t d (i + 1)) n 0 c = V := v
      unfold Cc_rests_b32
      refine itr_wpx (fun e σ => ∃ (j : Nat) (c : Int), σ = (h, 20, a, b, t, c, (i : Int), (j : Int)) ∧ j + e = n ∧ 0 ≤ c ∧ c ≤ 6 * (i : Int) + (j : Int) ∧ rsJ n f a b t i (rsI n f a b t d (i + 1)) e j c = V) ?_ (n := n) (FU_gt (by omega)) ⟨0, c, rfl, by omega, c0, by omega, v'⟩
      rintro e σ k2 ⟨j, c, rfl, he, c0, c1, v⟩ K2
      show wp (Cc_rests_b32_body k k2 h 20 a b t c (i : Int) (j : Int)) _
      unfold Cc_rests_b32_body
      rw [cC_s SH20' rfl, cC_s s0 rfl, A.2.1, w32_n (x := (j : Int)) (by omega) (by omega), w32_n (x := (n : Int)) (by omega) (by omega)]
      cases e with
      | zero =>
        rw [if_neg (by omega)]
        exact K d _ (by omega) ⟨i + 1, c, rfl, by omega, c0, by omega, v⟩
      | succ e =>
        have v' : (if bsV n f a b (i : Int) (j : Int) = 0 then rsJ n f a b t i (rsI n f a b t d (i + 1)) e (j + 1) c else if bsV n f b a (j : Int) (i : Int) = 0 then rsJ n f a b t i (rsI n f a b t d (i + 1)) e (j + 1) c else if c = t then 10 * (i : Int) + (j : Int) else rsJ n f a b t i (rsI n f a b t d (i + 1)) e (j + 1) (c + 1)) = V := v
        have Ii : ir (i : Int) := ⟨by omega, by omega⟩
        have Ij : ir (j : Int) := ⟨by omega, by omega⟩
        rw [if_pos (by omega), c_best C A ha hb Ii Ij a0 a1, cl_s]
        by_cases q1 : bsB n f a b (i : Int) (j : Int)
        · rw [bsV_1 q1] at v' ⊢
          rw [if_neg (show ¬ (1 : Int) = 0 by decide)] at v'
          rw [if_neg (show ¬ w32 1 = 0 by decide), c_best C A hb ha Ij Ii b0 b1, cl_s]
          by_cases q2 : bsB n f b a (j : Int) (i : Int)
          · rw [bsV_1 q2] at v' ⊢
            rw [if_neg (show ¬ (1 : Int) = 0 by decide)] at v'
            rw [if_neg (show ¬ w32 1 = 0 by decide), w32_n (x := c) (by omega) (by omega), ri ht]
            by_cases ct : c = t
            · rw [if_pos ct] at v' ⊢
              exact wp_i ⟨v', rfl⟩
            · rw [if_neg ct] at v' ⊢
              exact K2 e _ (by omega) ⟨j + 1, c + 1, rfl, by omega, by omega, by omega, v'⟩
          · rw [bsV_0 q2] at v' ⊢
            rw [if_pos rfl] at v'
            rw [if_pos (show w32 0 = 0 by decide)]
            exact K2 e _ (by omega) ⟨j + 1, c, rfl, by omega, c0, by omega, v'⟩
        · rw [bsV_0 q1] at v' ⊢
          rw [if_pos rfl] at v'
          rw [if_pos (show w32 0 = 0 by decide)]
          exact K2 e _ (by omega) ⟨j + 1, c, rfl, by omega, c0, by omega, v'⟩
  obtain ⟨r, h', e, rfl, rfl⟩ := W
  exact e
end PureU
