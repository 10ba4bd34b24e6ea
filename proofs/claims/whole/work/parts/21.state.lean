section PureS
/-! a State of the class: its cells, and the row of numbers that it stands for (as the reference's row) -/
def IsS (s : Int) : Prop := 100 ≤ s ∧ s < 610 ∧ s % 10 = 0
theorem IsS_sh {s : Int} (hs : IsS s) : SH s = (7, 0) ∧ SH (s + 1) = (100, 36) ∧ SH (s + 2) = (100, 6) ∧ SH (s + 3) = (100, 6) ∧ SH (s + 4) = (100, 6) := by
  have key : ∀ n : Nat, n < 51 → SH (100 + 10 * (n : Int)) = (7, 0) ∧ SH (100 + 10 * (n : Int) + 1) = (100, 36) ∧ SH (100 + 10 * (n : Int) + 2) = (100, 6) ∧ SH (100 + 10 * (n : Int) + 3) = (100, 6) ∧ SH (100 + 10 * (n : Int) + 4) = (100, 6) := by decide +kernel
  obtain ⟨h1, h2, h3⟩ := hs
  have e : s = 100 + 10 * (((s - 100) / 10).toNat : Int) := by omega
  rw [e]
  exact key _ (by omega)
def cR (h : Hp) (s : Int) : Int → Int := fun k => if k < 0 then 0 else if k < 36 then h (s + 1) k else if k < 48 then (if (k - 36) / 2 < h s 4 then (if k % 2 = 0 then h (s + 2) ((k - 36) / 2) else h (s + 3) ((k - 36) / 2)) else 0) else if k = 48 then h s 5 else if k = 49 then h s 6 else if k = 50 then h s 7 else if k = 51 then h s 8 else 0
section C
variable {h h' : Hp} {s : Int}
theorem cR_d {k : Int} (h0 : 0 ≤ k) (h1 : k < 36) : cR h s k = h (s + 1) k := by
  unfold cR
  rw [if_neg (by omega), if_pos h1]
theorem cR_l {p : Int} (h0 : 0 ≤ p) (h1 : p < 6) (h2 : p < h s 4) : cR h s (36 + 2 * p) = h (s + 2) p := by
  unfold cR
  have e : (36 + 2 * p - 36) / 2 = p := by omega
  rw [if_neg (by omega), if_neg (by omega), if_pos (by omega), e, if_pos h2, if_pos (by omega)]
theorem cR_b {p : Int} (h0 : 0 ≤ p) (h1 : p < 6) (h2 : p < h s 4) : cR h s (37 + 2 * p) = h (s + 3) p := by
  unfold cR
  have e : (37 + 2 * p - 36) / 2 = p := by omega
  rw [if_neg (by omega), if_neg (by omega), if_pos (by omega), e, if_pos h2, if_neg (by omega)]
theorem cR_48 : cR h s 48 = h s 5 := rfl
theorem cR_49 : cR h s 49 = h s 6 := rfl
theorem cR_50 : cR h s 50 = h s 7 := rfl
theorem cR_51 : cR h s 51 = h s 8 := rfl
theorem cR_c (h4 : h' s 4 = h s 4) (h5 : h' s 5 = h s 5) (h6 : h' s 6 = h s 6) (h7 : h' s 7 = h s 7) (h8 : h' s 8 = h s 8) (r1 : h' (s + 1) = h (s + 1)) (r2 : h' (s + 2) = h (s + 2)) (r3 : h' (s + 3) = h (s + 3)) : cR h' s = cR h s := by
  funext k
  unfold cR
  rw [h4, h5, h6, h7, h8, r1, r2, r3]
theorem cR_fr {S : Int → Prop} (f : Fr S h h') (n0 : ¬ S s) (n1 : ¬ S (s + 1)) (n2 : ¬ S (s + 2)) (n3 : ¬ S (s + 3)) : cR h' s = cR h s := by
  have e := f s n0
  exact cR_c (by rw [e]) (by rw [e]) (by rw [e]) (by rw [e]) (by rw [e]) (f _ n1) (f _ n2) (f _ n3)
theorem cR_ud {k v : Int} (h0 : 0 ≤ k) (h1 : k < 36) : cR (up h (s + 1) k v) s = ud (cR h s) k v := by
  funext j
  unfold cR
  rw [up_row h (s + 1) k v, up_off_row (h := h) (b := s + 2) (by omega), up_off_row (h := h) (b := s + 3) (by omega), up_off_row (h := h) (b := s) (by omega)]
  unfold ud
  by_cases e : j = k
  · rw [if_neg (by omega), if_pos (by omega), if_pos e, if_pos e]
  · rw [if_neg e, if_neg e]
theorem cR_ul {p v : Int} (h0 : 0 ≤ p) (h1 : p < 6) (h2 : p < h s 4) : cR (up h (s + 2) p v) s = ud (cR h s) (36 + 2 * p) v := by
  funext j
  unfold cR
  rw [up_row h (s + 2) p v, up_off_row (h := h) (b := s + 1) (by omega), up_off_row (h := h) (b := s + 3) (by omega), up_off_row (h := h) (b := s) (by omega)]
  unfold ud
  by_cases e : j = 36 + 2 * p
  · have e2 : (j - 36) / 2 = p := by omega
    rw [if_neg (by omega), if_neg (by omega), if_pos (by omega), e2, if_pos h2, if_pos (by omega), if_pos rfl, if_pos e]
  · rw [if_neg e]
    dsimp only
    by_cases a1 : j < 0
    · rw [if_pos a1, if_pos a1]
    · rw [if_neg a1, if_neg a1]
      by_cases a2 : j < 36
      · rw [if_pos a2, if_pos a2]
      · rw [if_neg a2, if_neg a2]
        by_cases a3 : j < 48
        · rw [if_pos a3, if_pos a3]
          by_cases a5 : (j - 36) / 2 < h s 4
          · rw [if_pos a5, if_pos a5]
            by_cases a4 : j % 2 = 0
            · rw [if_pos a4, if_pos a4, if_neg (by omega)]
            · rw [if_neg a4, if_neg a4]
          · rw [if_neg a5, if_neg a5]
        · rw [if_neg a3, if_neg a3]
theorem cR_ub {p v : Int} (h0 : 0 ≤ p) (h1 : p < 6) (h2 : p < h s 4) : cR (up h (s + 3) p v) s = ud (cR h s) (37 + 2 * p) v := by
  funext j
  unfold cR
  rw [up_row h (s + 3) p v, up_off_row (h := h) (b := s + 1) (by omega), up_off_row (h := h) (b := s + 2) (by omega), up_off_row (h := h) (b := s) (by omega)]
  unfold ud
  by_cases e : j = 37 + 2 * p
  · have e2 : (j - 36) / 2 = p := by omega
    rw [if_neg (by omega), if_neg (by omega), if_pos (by omega), e2, if_pos h2, if_neg (by omega), if_pos rfl, if_pos e]
  · rw [if_neg e]
    dsimp only
    by_cases a1 : j < 0
    · rw [if_pos a1, if_pos a1]
    · rw [if_neg a1, if_neg a1]
      by_cases a2 : j < 36
      · rw [if_pos a2, if_pos a2]
      · rw [if_neg a2, if_neg a2]
        by_cases a3 : j < 48
        · rw [if_pos a3, if_pos a3]
          by_cases a5 : (j - 36) / 2 < h s 4
          · rw [if_pos a5, if_pos a5]
            by_cases a4 : j % 2 = 0
            · rw [if_pos a4, if_pos a4]
            · rw [if_neg a4, if_neg a4, if_neg (by omega)]
          · rw [if_neg a5, if_neg a5]
        · rw [if_neg a3, if_neg a3]
theorem cR_uf {i v : Int} (hi : i = 5 ∨ i = 6 ∨ i = 7 ∨ i = 8) : cR (up h s i v) s = ud (cR h s) (43 + i) v := by
  funext j
  unfold cR
  rw [up_row h s i v, up_off_row (h := h) (b := s + 1) (by omega), up_off_row (h := h) (b := s + 2) (by omega), up_off_row (h := h) (b := s + 3) (by omega)]
  have e4 : ud (h s) i v 4 = h s 4 := ud_ne (by omega)
  rw [e4]
  unfold ud
  by_cases e : j = 43 + i
  · rw [if_pos e, if_neg (by omega), if_neg (by omega), if_neg (by omega)]
    rcases hi with rfl | rfl | rfl | rfl <;> subst e <;> rfl
  · rw [if_neg e]
    dsimp only
    by_cases a1 : j < 0
    · rw [if_pos a1, if_pos a1]
    · rw [if_neg a1, if_neg a1]
      by_cases a2 : j < 36
      · rw [if_pos a2, if_pos a2]
      · rw [if_neg a2, if_neg a2]
        by_cases a3 : j < 48
        · rw [if_pos a3, if_pos a3]
        · rw [if_neg a3, if_neg a3]
          by_cases b1 : j = 48
          · rw [if_pos b1, if_pos b1, if_neg (by omega)]
          · rw [if_neg b1, if_neg b1]
            by_cases b2 : j = 49
            · rw [if_pos b2, if_pos b2, if_neg (by omega)]
            · rw [if_neg b2, if_neg b2]
              by_cases b3 : j = 50
              · rw [if_pos b3, if_pos b3, if_neg (by omega)]
              · rw [if_neg b3, if_neg b3]
                by_cases b4 : j = 51
                · rw [if_pos b4, if_pos b4, if_neg (by omega)]
                · rw [if_neg b4, if_neg b4]
theorem cR_ux {i v : Int} (hi : i = 9 ∨ i = 10) : cR (up h s i v) s = cR h s := by
  have e : ∀ j : Int, j ≠ i → up h s i v s j = h s j := fun j hj => up_off hj
  exact cR_c (e 4 (by omega)) (e 5 (by omega)) (e 6 (by omega)) (e 7 (by omega)) (e 8 (by omega)) (up_off_row (by omega)) (up_off_row (by omega)) (up_off_row (by omega))
end C
/-- what holds of every row: n persons -/
def Gd (n : Nat) (f : Int → Int) : Prop := n ≤ 6 ∧ (∀ k : Int, 0 ≤ k → k < 36 → 0 ≤ f k ∧ f k ≤ 99) ∧ (∀ a b : Int, 0 ≤ a → a < 6 → 0 ≤ b → b < 6 → f (6 * a + b) = f (6 * b + a)) ∧ (∀ a : Int, 0 ≤ a → a < 6 → f (7 * a) = 0) ∧
  (∀ p : Int, 0 ≤ p → p < 6 → 0 ≤ f (36 + 2 * p) ∧ f (36 + 2 * p) ≤ 9 ∧ 0 ≤ f (37 + 2 * p) ∧ f (37 + 2 * p) ≤ 9) ∧ (0 ≤ f 48 ∧ f 48 < 256) ∧ (0 ≤ f 49 ∧ f 49 ≤ 999)
theorem Gd_d {n : Nat} {f : Int → Int} (g : Gd n f) {a b : Int} (a0 : 0 ≤ a) (a1 : a < 6) (b0 : 0 ≤ b) (b1 : b < 6) : 0 ≤ f (6 * a + b) ∧ f (6 * a + b) ≤ 99 := g.2.1 _ (by omega) (by omega)
theorem Gd_l {n : Nat} {f : Int → Int} (g : Gd n f) {p : Int} (a0 : 0 ≤ p) (a1 : p < 6) : 0 ≤ f (36 + 2 * p) ∧ f (36 + 2 * p) ≤ 9 := ⟨(g.2.2.2.2.1 p a0 a1).1, (g.2.2.2.2.1 p a0 a1).2.1⟩
theorem Gd_b {n : Nat} {f : Int → Int} (g : Gd n f) {p : Int} (a0 : 0 ≤ p) (a1 : p < 6) : 0 ≤ f (37 + 2 * p) ∧ f (37 + 2 * p) ≤ 9 := ⟨(g.2.2.2.2.1 p a0 a1).2.2.1, (g.2.2.2.2.1 p a0 a1).2.2.2⟩
/-- a State at hand: n persons, its row, the row's bounds -/
def StA (h : Hp) (s : Int) (n : Nat) (f : Int → Int) : Prop := IsS s ∧ h s 4 = (n : Int) ∧ cR h s = f ∧ Gd n f
/-! the methods that only look -/
section L
variable {h : Hp} {s : Int} {n : Nat} {f : Int → Int}
theorem St_lonelyOf_e (A : StA h s n f) {p : Int} (p0 : 0 ≤ p) (p1 : p < n) : St_lonelyOf h s p = some (f (36 + 2 * p), h) := by
  obtain ⟨i, hn, e, g⟩ := A
  obtain ⟨s0, s1, s2, s3, s4⟩ := IsS_sh i
  have n6 := g.1
  unfold St_lonelyOf
  rw [cC_s s0 rfl, at_eq s2 (by have := i.1; omega) p0 (by omega) (by decide), cl_s, ← e, cR_l p0 (by omega) (by omega)]
theorem St_boreOf_e (A : StA h s n f) {p : Int} (p0 : 0 ≤ p) (p1 : p < n) : St_boreOf h s p = some (f (37 + 2 * p), h) := by
  obtain ⟨i, hn, e, g⟩ := A
  obtain ⟨s0, s1, s2, s3, s4⟩ := IsS_sh i
  have n6 := g.1
  unfold St_boreOf
  rw [cC_s s0 rfl, at_eq s3 (by have := i.1; omega) p0 (by omega) (by decide), cl_s, ← e, cR_b p0 (by omega) (by omega)]
theorem St_owes_e (A : StA h s n f) {a b : Int} (a0 : 0 ≤ a) (a1 : a < 6) (b0 : 0 ≤ b) (b1 : b < 6) : St_owes h s a b = some (f (6 * a + b), h) := by
  obtain ⟨i, hn, e, g⟩ := A
  obtain ⟨s0, s1, s2, s3, s4⟩ := IsS_sh i
  have n6 := g.1
  have e6 : a * 6 + b = 6 * a + b := by omega
  unfold St_owes
  rw [w32_n a0 (by omega), w32_n b0 (by omega), if_neg (by omega), if_pos a1, if_neg (by omega), if_pos b1, cC_s s0 rfl, at_eq s1 (by have := i.1; omega) (by omega) (by omega) (by decide), cl_s, ← e, e6, cR_d (by omega) (by omega)]
theorem St_owes_o (h : Hp) (s : Int) {a b : Int} (ha : ir a) (hb : ir b) (ho : ¬ (0 ≤ a ∧ a < 6 ∧ 0 ≤ b ∧ b < 6)) : St_owes h s a b = some (0, h) := by
  unfold St_owes
  rw [ri ha, ri hb]
  by_cases h1 : a < 0
  · rw [if_pos h1]
  · rw [if_neg h1]
    by_cases h2 : a < 6
    · rw [if_pos h2]
      by_cases h3 : b < 0
      · rw [if_pos h3]
      · rw [if_neg h3, if_neg (by omega)]
    · rw [if_neg h2]
theorem St_debtOf_e (A : StA h s n f) {p : Int} (p0 : 0 ≤ p) (p1 : p < 6) : St_debtOf h s p = some (sm (fun q => f (6 * p + (q : Int))) n, h) := by
  have A' := A
  obtain ⟨i, hn, e, g⟩ := A
  obtain ⟨s0, s1, s2, s3, s4⟩ := IsS_sh i
  have n6 := g.1
  unfold St_debtOf St_debtOf_b4
  refine itr_run (fun q : Nat => (h, s, p, sm (fun q => f (6 * p + (q : Int))) q, (q : Int))) (n := n) ?_ ?_ (FU_gt (by omega))
  · intro q hq k
    show St_debtOf_b4_body k h s p (sm (fun q => f (6 * p + (q : Int))) q) (q : Int) = _
    unfold St_debtOf_b4_body
    rw [cC_s s0 rfl, hn, w32_n (x := (q : Int)) (by omega) (by omega), w32_n (x := (n : Int)) (by omega) (by omega), if_pos (by omega), St_owes_e A' p0 p1 (by omega) (by omega), cl_s, bd_s]
    rfl
  · intro k
    show St_debtOf_b4_body k h s p (sm (fun q => f (6 * p + (q : Int))) n) (n : Int) = _
    unfold St_debtOf_b4_body
    rw [cC_s s0 rfl, hn, if_neg (by omega)]
end L
end PureS
