section PureV
variable {h h' : Hp} {n W : Nat} {f ru pd wd : Int → Int}
theorem bsV_c (a b x y : Int) : bsV n f a b x y = 1 ∨ bsV n f a b x y = 0 := by
  by_cases q : bsB n f a b x y
  · exact Or.inl (bsV_1 q)
  · exact Or.inr (bsV_0 q)
/-- both are at rest: as the reference looks, both at once -/
theorem m_r54 (M : StM h 2032 n f) {a b t c : Int} (ha : ir a) (hb : ir b) (a0 : 0 ≤ a) (a1 : a < n) (b0 : 0 ≤ b) (b1 : b < n) {i j : Nat} (hi : i < n) (hj : j < n) {Q : Int → Hp → Prop} (k27 : Hp × Int × Int × Int × Int × Int × Int → Option (Int × Hp)) (k39 : Hp × Int × Int × Int × Int × Int × Int × Int → Option (Int × Hp))
    (H1 : bsB n f a b (i : Int) (j : Int) → bsB n f b a (j : Int) (i : Int) → wp (Md_rests_b131 k27 k39 h 2000 a b t c (i : Int) (j : Int) 1) Q)
    (H0 : ¬ (bsB n f a b (i : Int) (j : Int) ∧ bsB n f b a (j : Int) (i : Int)) → wp (Md_rests_b131 k27 k39 h 2000 a b t c (i : Int) (j : Int) 0) Q) : wp (Md_rests_b54 k27 k39 h 2000 a b t c (i : Int) (j : Int) 1 0) Q := by
  have n6 := M.2.2.2.1
  have G := M.2.2.2
  have Ii : ir (i : Int) := ⟨by omega, by omega⟩
  have Ij : ir (j : Int) := ⟨by omega, by omega⟩
  unfold Md_rests_b54
  refine itr_wpx (fun d σ => ∃ (z : Nat) (x : Int), σ = (h, 2000, a, b, t, c, (i : Int), (j : Int), x, (z : Int)) ∧ z + d = n ∧ ((x = 1 ∧ ∀ w : Nat, w < z → ¬ (gaV n f a b (i : Int) (j : Int) < gaV n f a b (w : Int) (j : Int)) ∧ ¬ (gaV n f b a (j : Int) (i : Int) < gaV n f b a (w : Int) (i : Int))) ∨ (x = 0 ∧ ¬ (bsB n f a b (i : Int) (j : Int) ∧ bsB n f b a (j : Int) (i : Int))))) ?_ (n := n) (FU_gt (by omega)) ⟨0, 1, rfl, by omega, Or.inl ⟨rfl, fun w q => absurd q (by omega)⟩⟩
  rintro d σ k ⟨z, x, rfl, hd, V⟩ K
  show wp (Md_rests_b54_body k27 k39 k h 2000 a b t c (i : Int) (j : Int) x (z : Int)) _
  unfold Md_rests_b54_body
  rw [cC_s SH2000' rfl, M.2.1, w32_n (x := (z : Int)) (by omega) (by omega), w32_n (x := (n : Int)) (by omega) (by omega)]
  rcases V with ⟨rfl, V⟩ | ⟨rfl, V⟩
  · by_cases cz : z < n
    · have Iz : ir (z : Int) := ⟨by omega, by omega⟩
      have B1 := ga_b G (a := a) (b := b) (x := (i : Int)) (y := (j : Int)) a0 a1
      have B2 := ga_b G (a := a) (b := b) (x := (z : Int)) (y := (j : Int)) a0 a1
      have B3 := ga_b G (a := b) (b := a) (x := (j : Int)) (y := (i : Int)) b0 b1
      have B4 := ga_b G (a := b) (b := a) (x := (z : Int)) (y := (i : Int)) b0 b1
      rw [if_pos (by omega), if_neg (show ¬ w32 1 = 0 by decide), m_ga0 M ha hb Iz Ij a0 a1, cl_s, m_ga0 M ha hb Ii Ij a0 a1, cl_s, w32_id (x := gaV n f a b (i : Int) (j : Int)) (by omega) (by omega), w32_id (x := gaV n f a b (z : Int) (j : Int)) (by omega) (by omega)]
      by_cases c1 : gaV n f a b (i : Int) (j : Int) < gaV n f a b (z : Int) (j : Int)
      · rw [if_pos c1]
        exact K (d - 1) _ (by omega) ⟨z + 1, 0, rfl, by omega, Or.inr ⟨rfl, fun q => q.1 z cz c1⟩⟩
      · rw [if_neg c1, m_ga1 M ha hb Ii Iz b0 b1, cl_s, m_ga1 M ha hb Ii Ij b0 b1, cl_s, w32_id (x := gaV n f b a (j : Int) (i : Int)) (by omega) (by omega), w32_id (x := gaV n f b a (z : Int) (i : Int)) (by omega) (by omega)]
        by_cases c2 : gaV n f b a (j : Int) (i : Int) < gaV n f b a (z : Int) (i : Int)
        · rw [if_pos c2]
          exact K (d - 1) _ (by omega) ⟨z + 1, 0, rfl, by omega, Or.inr ⟨rfl, fun q => q.2 z cz c2⟩⟩
        · rw [if_neg c2]
          refine K (d - 1) _ (by omega) ⟨z + 1, 1, rfl, by omega, Or.inl ⟨rfl, fun w hw => ?_⟩⟩
          by_cases e : w = z
          · subst e
            exact ⟨c1, c2⟩
          · exact V w (by omega)
    · rw [if_neg (by omega)]
      exact H1 (fun w hw => (V w (by omega)).1) (fun w hw => (V w (by omega)).2)
  · by_cases cz : z < n
    · rw [if_pos (by omega), if_pos (show w32 0 = 0 by decide)]
      exact H0 V
    · rw [if_neg (by omega)]
      exact H0 V
theorem m_rests (M : StM h 2032 n f) {a b t : Int} (ha : ir a) (hb : ir b) (ht : ir t) (a0 : 0 ≤ a) (a1 : a < n) (b0 : 0 ≤ b) (b1 : b < n) : Md_rests_b27 h 2000 a b t 0 0 = some (rsI n f a b t n 0 0, h) := by
  have n6 := M.2.2.2.1
  generalize hV : rsI n f a b t n 0 0 = V
  have W : wp (Md_rests_b27 h 2000 a b t 0 0) (fun r h' => r = V ∧ h' = h) := by
    unfold Md_rests_b27
    refine itr_wpx (fun d σ => ∃ (i : Nat) (c : Int), σ = (h, 2000, a, b, t, c, (i : Int)) ∧ i + d = n ∧ 0 ≤ c ∧ c ≤ 6 * (i : Int) ∧ rsI n f a b t d i c = V) ?_ (n := n) (FU_gt (by omega)) ⟨0, 0, rfl, by omega, by omega, by omega, hV⟩
    rintro d σ k ⟨i, c, rfl, hd, c0, c1, v⟩ K
    show wp (Md_rests_b27_body k h 2000 a b t c (i : Int)) _
    unfold Md_rests_b27_body
    rw [cC_s SH2000' rfl, M.2.1, w32_n (x := (i : Int)) (by omega) (by omega), w32_n (x := (n : Int)) (by omega) (by omega)]
    cases d with
    | zero =>
      rw [if_neg (by omega), ri ht]
      have v' : (if t = -1 then c else -1) = V := v
      by_cases ct : t = -1
      · rw [if_pos ct] at v' ⊢
        exact wp_i ⟨v', rfl⟩
      · rw [if_neg ct] at v' ⊢
        exact wp_i ⟨v', rfl⟩
    | succ d =>
      rw [if_pos (by omega)]
      have v' : rsJ n f a b t i (rsI n f a b t d (i + 1)) n 0 c = V := v
      unfold Md_rests_b39
      refine itr_wpx (fun e σ => ∃ (j : Nat) (c : Int), σ = (h, 2000, a, b, t, c, (i : Int), (j : Int)) ∧ j + e = n ∧ 0 ≤ c ∧ c ≤ 6 * (i : Int) + (j : Int) ∧ rsJ n f a b t i (rsI n f a b t d (i + 1)) e j c = V) ?_ (n := n) (FU_gt (by omega)) ⟨0, c, rfl, by omega, c0, by omega, v'⟩
      rintro e σ k2 ⟨j, c, rfl, he, c0, c1, v⟩ K2
      show wp (Md_rests_b39_body k k2 h 2000 a b t c (i : Int) (j : Int)) _
      unfold Md_rests_b39_body
      rw [cC_s SH2000' rfl, M.2.1, w32_n (x := (j : Int)) (by omega) (by omega), w32_n (x := (n : Int)) (by omega) (by omega)]
      cases e with
      | zero =>
        rw [if_neg (by omega)]
        exact K d _ (by omega) ⟨i + 1, c, rfl, by omega, c0, by omega, v⟩
      | succ e =>
        have v' : (if bsV n f a b (i : Int) (j : Int) = 0 then rsJ n f a b t i (rsI n f a b t d (i + 1)) e (j + 1) c else if bsV n f b a (j : Int) (i : Int) = 0 then rsJ n f a b t i (rsI n f a b t d (i + 1)) e (j + 1) c else if c = t then 10 * (i : Int) + (j : Int) else rsJ n f a b t i (rsI n f a b t d (i + 1)) e (j + 1) (c + 1)) = V := v
        rw [if_pos (by omega)]
        refine m_r54 M ha hb a0 a1 b0 b1 (by omega) (by omega) k k2 (fun q1 q2 => ?_) (fun q => ?_)
        · rw [bsV_1 q1, bsV_1 q2, if_neg (show ¬ (1 : Int) = 0 by decide), if_neg (show ¬ (1 : Int) = 0 by decide)] at v'
          unfold Md_rests_b131
          rw [if_neg (show ¬ w32 1 = 0 by decide), w32_n (x := c) (by omega) (by omega), ri ht]
          by_cases ct : c = t
          · rw [if_pos ct] at v' ⊢
            exact wp_i ⟨v', rfl⟩
          · rw [if_neg ct] at v' ⊢
            exact K2 e _ (by omega) ⟨j + 1, c + 1, rfl, by omega, by omega, by omega, v'⟩
        · have v2 : rsJ n f a b t i (rsI n f a b t d (i + 1)) e (j + 1) c = V := by
            by_cases q1 : bsB n f a b (i : Int) (j : Int)
            · have q2 : ¬ bsB n f b a (j : Int) (i : Int) := fun z => q ⟨q1, z⟩
              rw [bsV_1 q1, bsV_0 q2, if_neg (show ¬ (1 : Int) = 0 by decide), if_pos rfl] at v'
              exact v'
            · rw [bsV_0 q1, if_pos rfl] at v'
              exact v'
          unfold Md_rests_b131
          rw [if_pos (show w32 0 = 0 by decide)]
          exact K2 e _ (by omega) ⟨j + 1, c, rfl, by omega, c0, by omega, v2⟩
  obtain ⟨r, h', e, rfl, rfl⟩ := W
  exact e
theorem rsJ_lo {a b t : Int} (ht : t < -1) {i : Nat} {K : Int → Int} (hK : ∀ c, 0 ≤ c → K c = -1) : ∀ (d j : Nat) (c : Int), 0 ≤ c → rsJ n f a b t i K d j c = -1
  | 0, _, c, h0 => hK c h0
  | d + 1, j, c, h0 => by
    show (if bsV n f a b (i : Int) (j : Int) = 0 then rsJ n f a b t i K d (j + 1) c else if bsV n f b a (j : Int) (i : Int) = 0 then rsJ n f a b t i K d (j + 1) c else if c = t then 10 * (i : Int) + (j : Int) else rsJ n f a b t i K d (j + 1) (c + 1)) = -1
    rw [if_neg (show ¬ c = t by omega), rsJ_lo ht hK d (j + 1) c h0, rsJ_lo ht hK d (j + 1) (c + 1) (by omega)]
    by_cases q1 : bsV n f a b (i : Int) (j : Int) = 0
    · rw [if_pos q1]
    · rw [if_neg q1]
      by_cases q2 : bsV n f b a (j : Int) (i : Int) = 0
      · rw [if_pos q2]
      · rw [if_neg q2]
theorem rsI_lo {a b t : Int} (ht : t < -1) : ∀ (d i : Nat) (c : Int), 0 ≤ c → rsI n f a b t d i c = -1
  | 0, _, c, _ => if_neg (by omega)
  | d + 1, i, c, h0 => rsJ_lo ht (fun c hc => rsI_lo ht d (i + 1) c hc) n 0 c h0
theorem rests_e (C : CoA h n) (A : StA h 110 n f) (M : StM h 2032 n f) {a b t : Int} (ha : ir a) (hb : ir b) (ht : ir t) : ∃ r : Int, Cc_rests h 20 a b t = some (r, h) ∧ Md_rests h 2000 a b t = some (r, up h 2000 0 0) := by
  have M0 := M.on t0_sc
  have n6 := A.2.2.2.1
  unfold Cc_rests Md_rests
  rw [cC_s SH20' rfl, cC_s SH2000' rfl, pu_s]
  by_cases q : isT n a b
  · have q' := q
    obtain ⟨⟨a0, a1⟩, ⟨b0, b1⟩, -⟩ := q'
    rw [c_T1 C ha hb q, cl_s, if_neg (show ¬ w32 1 = 0 by decide), m_T1 M0.2.1 n6 ha hb q, cl_s, if_neg (show ¬ w32 1 = 0 by decide), ri ht, c_rests C A ha hb ht a0 a1 b0 b1, m_rests M0 ha hb ht a0 a1 b0 b1]
    by_cases z : t < -1
    · rw [if_pos z, rsI_lo z n 0 0 (Int.le_refl _)]
      exact ⟨_, rfl, rfl⟩
    · rw [if_neg z]
      exact ⟨_, rfl, rfl⟩
  · rw [c_T0 C ha hb q, cl_s, if_pos (show w32 0 = 0 by decide), m_T0 M0.2.1 n6 ha hb q, cl_s, if_pos (show w32 0 = 0 by decide)]
    exact ⟨_, rfl, rfl⟩
end PureV
