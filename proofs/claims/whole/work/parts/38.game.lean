section PureT
/-! GAME: what each of two gains who name whom they would sit with -/
variable {h h' : Hp} {n W : Nat} {f ru pd wd : Int → Int}
def gaV (n : Nat) (f : Int → Int) (a b x y : Int) : Int := (if x = a then -9 else if 0 ≤ x ∧ x < (n : Int) then f (36 + 2 * a) - f (37 + 2 * x) else -9) + (if x = y then -3 else 0) + (if x = b ∧ y = a then 2 else 0)
theorem c_lik (A : StA h 110 n f) {a x : Int} (a0 : 0 ≤ a) (a1 : a < n) (x0 : 0 ≤ x) (x1 : x < n) : Cc_liking h 20 a x = some (f (36 + 2 * a) - f (37 + 2 * x), h) := by
  unfold Cc_liking
  rw [cC_s SH20' rfl, cC_s (IsS_sh A.1).1 rfl, St_lonelyOf_e A a0 a1, cl_s, St_boreOf_e A x0 x1, cl_s]
theorem m_lik (M : StM h 2032 n f) {a x : Int} (a0 : 0 ≤ a) (a1 : a < n) (x0 : 0 ≤ x) (x1 : x < n) : Md_liking h 2000 a x = some (f (36 + 2 * a) - f (37 + 2 * x), h) := by
  have n6 := M.2.2.2.1
  have e : 36 + 2 * x + 1 = 37 + 2 * x := by omega
  unfold Md_liking
  rw [cC_s SH2000' rfl, Md_lonely_e M a0 (by omega), cl_s, e, cX_s SH2032' (by omega) (by omega) (by omega), w32_n (x := 37 + 2 * x) (by omega) (by omega), rd_ge (by omega), M.rd (by omega) (by omega)]
theorem c_g24 {a b x y v : Int} (ha : ir a) (hb : ir b) (hx : ir x) (hy : ir y) : Cc_gains_b24 h a b x y v = some (v + (if x = y then -3 else 0) + (if x = b ∧ y = a then 2 else 0), h) := by
  have k : ∀ v : Int, Cc_gains_b35 h a b x y v = some (v + (if x = b ∧ y = a then 2 else 0), h) := by
    intro v
    unfold Cc_gains_b35
    rw [ri ha, ri hb, ri hx, ri hy]
    by_cases c1 : x = b
    · rw [if_pos c1]
      by_cases c2 : y = a
      · rw [if_pos c2, if_pos ⟨c1, c2⟩]
      · rw [if_neg c2, if_neg (fun q => c2 q.2), Int.add_zero]
    · rw [if_neg c1, if_neg (fun q => c1 q.1), Int.add_zero]
  unfold Cc_gains_b24
  rw [ri hx, ri hy, k, k]
  by_cases c : x = y
  · rw [if_pos c, if_pos c]
  · rw [if_neg c, if_neg c, Int.add_zero]
theorem c_gains (C : CoA h n) (A : StA h 110 n f) {a b x y : Int} (ha : ir a) (hb : ir b) (hx : ir x) (hy : ir y) (a0 : 0 ≤ a) (a1 : a < n) : Cc_gains h 20 a b x y = some (gaV n f a b x y, h) := by
  unfold Cc_gains gaV
  rw [ri ha, ri hx]
  by_cases c : x = a
  · rw [if_pos c, if_pos c, c_g24 ha hb hx hy]
  · rw [if_neg c, if_neg c, cC_s SH20' rfl]
    by_cases q : isP n x
    · have q' : 0 ≤ x ∧ x < (n : Int) := q
      rw [c_isP1 C hx q, cl_s, if_neg (show ¬ w32 1 = 0 by decide), c_lik A a0 a1 q.1 q.2, cl_s, c_g24 ha hb hx hy, if_pos q']
    · have q' : ¬ (0 ≤ x ∧ x < (n : Int)) := q
      rw [c_isP0 C hx q, cl_s, if_pos (show w32 0 = 0 by decide), c_g24 ha hb hx hy, if_neg q']
theorem m_g54 {a b x y v : Int} (ha : ir a) (hb : ir b) (hx : ir x) (hy : ir y) : Md_gameOf_b54 h a b x y v = some (v + (if x = y then -3 else 0) + (if x = b ∧ y = a then 2 else 0), h) := by
  have k : ∀ v : Int, Md_gameOf_b65 h a b x y v = some (v + (if x = b ∧ y = a then 2 else 0), h) := by
    intro v
    unfold Md_gameOf_b65
    rw [ri ha, ri hb, ri hx, ri hy]
    by_cases c1 : x = b
    · rw [if_pos c1]
      by_cases c2 : y = a
      · rw [if_pos c2, if_pos ⟨c1, c2⟩]
      · rw [if_neg c2, if_neg (fun q => c2 q.2), Int.add_zero]
    · rw [if_neg c1, if_neg (fun q => c1 q.1), Int.add_zero]
  unfold Md_gameOf_b54
  rw [ri hx, ri hy, k, k]
  by_cases c : x = y
  · rw [if_pos c, if_pos c]
  · rw [if_neg c, if_neg c, Int.add_zero]
/-- the second player's turn of the last two terms -/
theorem ga_sw {a b x y v : Int} : v + (if x = y then -3 else 0) + (if x = b ∧ y = a then (2 : Int) else 0) = v + (if y = x then -3 else 0) + (if y = a ∧ x = b then 2 else 0) := by
  have e1 : (if x = y then (-3 : Int) else 0) = if y = x then -3 else 0 := by
    by_cases c : x = y
    · rw [if_pos c, if_pos c.symm]
    · rw [if_neg c, if_neg (fun q => c q.symm)]
  have e2 : (if x = b ∧ y = a then (2 : Int) else 0) = if y = a ∧ x = b then 2 else 0 := by
    by_cases c : x = b ∧ y = a
    · rw [if_pos c, if_pos ⟨c.2, c.1⟩]
    · rw [if_neg c, if_neg (fun q => c ⟨q.2, q.1⟩)]
  rw [e1, e2]
theorem m_g23 (c26 : h 2000 26 = (n : Int)) (M : StM h 2032 n f) {a b x y p z : Int} (ha : ir a) (hb : ir b) (hx : ir x) (hy : ir y) (hp : ir p) (hz : ir z) (p0 : 0 ≤ p) (p1 : p < n) : Md_gameOf_b23 h 2000 a b x y p z = some ((if z = p then -9 else if 0 ≤ z ∧ z < (n : Int) then f (36 + 2 * p) - f (37 + 2 * z) else -9) + (if x = y then -3 else 0) + (if x = b ∧ y = a then 2 else 0), h) := by
  have n6 := M.2.2.2.1
  unfold Md_gameOf_b23
  rw [ri hp, ri hz]
  by_cases c : z = p
  · rw [if_pos c, if_pos c, m_g54 ha hb hx hy]
  · rw [if_neg c, if_neg c, cC_s SH2000' rfl]
    by_cases q : isP n z
    · have q' : 0 ≤ z ∧ z < (n : Int) := q
      rw [m_isP1 c26 n6 hz q, cl_s, if_neg (show ¬ w32 1 = 0 by decide), m_lik M p0 p1 q.1 q.2, cl_s, m_g54 ha hb hx hy, if_pos q']
    · have q' : ¬ (0 ≤ z ∧ z < (n : Int)) := q
      rw [m_isP0 c26 n6 hz q, cl_s, if_pos (show w32 0 = 0 by decide), m_g54 ha hb hx hy, if_neg q']
theorem m_ga0 (M : StM h 2032 n f) {a b x y : Int} (ha : ir a) (hb : ir b) (hx : ir x) (hy : ir y) (a0 : 0 ≤ a) (a1 : a < n) : Md_gameOf h 2000 a b x y 0 = some (gaV n f a b x y, h) := by
  unfold Md_gameOf Md_gameOf_b10
  rw [if_pos (show w32 0 = 0 by decide), if_pos (show w32 0 = 0 by decide), m_g23 M.2.1 M ha hb hx hy ha hx a0 a1]
  rfl
theorem m_ga1 (M : StM h 2032 n f) {a b x y : Int} (ha : ir a) (hb : ir b) (hx : ir x) (hy : ir y) (b0 : 0 ≤ b) (b1 : b < n) : Md_gameOf h 2000 a b x y 1 = some (gaV n f b a y x, h) := by
  unfold Md_gameOf Md_gameOf_b10
  rw [if_neg (show ¬ w32 1 = 0 by decide), if_neg (show ¬ w32 1 = 0 by decide), m_g23 M.2.1 M ha hb hx hy hb hy b0 b1, ga_sw]
  rfl
theorem game_e (C : CoA h n) (A : StA h 110 n f) (M : StM h 2032 n f) {a b x y k : Int} (ha : ir a) (hb : ir b) (hx : ir x) (hy : ir y) (hk : ir k) : ∃ r : Int, Cc_game h 20 a b x y k = some (r, h) ∧ Md_game h 2000 a b x y k = some (r, up h 2000 0 0) := by
  have M0 := M.on t0_sc
  have n6 := A.2.2.2.1
  have I0 : ir 0 := ⟨by decide, by decide⟩
  have I5 : ir 5 := ⟨by decide, by decide⟩
  have I1 : ir 1 := ⟨by decide, by decide⟩
  unfold Cc_game Md_game
  rw [cC_s SH20' rfl, cC_s SH2000' rfl, pu_s]
  by_cases q : isT n a b
  · have q' := q
    obtain ⟨⟨a0, a1⟩, ⟨b0, b1⟩, -⟩ := q'
    rw [c_T1 C ha hb q, cl_s, if_neg (show ¬ w32 1 = 0 by decide), m_T1 M0.2.1 n6 ha hb q, cl_s, if_neg (show ¬ w32 1 = 0 by decide), ri hx, ri hy, ri hk]
    by_cases z1 : 0 ≤ x ∧ x ≤ 5
    · rw [if_neg (show ¬ x < 0 by omega), if_pos (show x < 6 by omega), isIn1 hx I0 I5 z1, cl_s, if_neg (show ¬ w32 1 = 0 by decide)]
      by_cases z2 : 0 ≤ y ∧ y ≤ 5
      · rw [if_neg (show ¬ y < 0 by omega), if_pos (show y < 6 by omega), isIn1 hy I0 I5 z2, cl_s, if_neg (show ¬ w32 1 = 0 by decide)]
        by_cases k0 : k = 0
        · subst k0
          exact ⟨_, by rw [if_pos rfl, c_gains C A ha hb hx hy a0 a1, cl_s], by rw [isIn1 I0 I0 I1 ⟨by decide, by decide⟩, cl_s, if_neg (show ¬ w32 1 = 0 by decide), m_ga0 M0 ha hb hx hy a0 a1, cl_s]⟩
        · by_cases k1 : k = 1
          · subst k1
            exact ⟨_, by rw [if_neg k0, if_pos rfl, c_gains C A hb ha hy hx b0 b1, cl_s], by rw [isIn1 I1 I0 I1 ⟨by decide, by decide⟩, cl_s, if_neg (show ¬ w32 1 = 0 by decide), m_ga1 M0 ha hb hx hy b0 b1, cl_s]⟩
          · exact ⟨_, by rw [if_neg k0, if_neg k1], by rw [isIn0 hk I0 I1 (by omega), cl_s, if_pos (show w32 0 = 0 by decide)]⟩
      · rw [isIn0 hy I0 I5 z2, cl_s, if_pos (show w32 0 = 0 by decide)]
        refine ⟨_, ?_, rfl⟩
        by_cases y0 : y < 0
        · rw [if_pos y0]
        · rw [if_neg y0, if_neg (show ¬ y < 6 by omega)]
    · rw [isIn0 hx I0 I5 z1, cl_s, if_pos (show w32 0 = 0 by decide)]
      refine ⟨_, ?_, rfl⟩
      by_cases x0 : x < 0
      · rw [if_pos x0]
      · rw [if_neg x0, if_neg (show ¬ x < 6 by omega)]
  · rw [c_T0 C ha hb q, cl_s, if_pos (show w32 0 = 0 by decide), m_T0 M0.2.1 n6 ha hb q, cl_s, if_pos (show w32 0 = 0 by decide)]
    exact ⟨_, rfl, rfl⟩
end PureT
