section PureGraves
/-! GRAVES and ASK: how grave a wrong may be by what was given -/
def alF (gw gb gm : Int → Int) (x v : Int) : Nat → Nat → Int
  | 0, _ => 1
  | d + 1, i => if gw (i : Int) = x then (if (if v < gb (i : Int) then 0 else 1) = gm (i : Int) then alF gw gb gm x v d (i + 1) else 0) else alF gw gb gm x v d (i + 1)
theorem alF_c (gw gb gm : Int → Int) (x v : Int) : ∀ d i, alF gw gb gm x v d i = 0 ∨ alF gw gb gm x v d i = 1
  | 0, i => Or.inr rfl
  | d + 1, i => by
    have ih := alF_c gw gb gm x v d (i + 1)
    show (if gw (i : Int) = x then (if (if v < gb (i : Int) then 0 else 1) = gm (i : Int) then alF gw gb gm x v d (i + 1) else 0) else alF gw gb gm x v d (i + 1)) = 0 ∨ (if gw (i : Int) = x then (if (if v < gb (i : Int) then 0 else 1) = gm (i : Int) then alF gw gb gm x v d (i + 1) else 0) else alF gw gb gm x v d (i + 1)) = 1
    by_cases c : gw (i : Int) = x
    · rw [if_pos c]
      by_cases e : (if v < gb (i : Int) then (0 : Int) else 1) = gm (i : Int)
      · rw [if_pos e]; exact ih
      · rw [if_neg e]; exact Or.inl rfl
    · rw [if_neg c]; exact ih
/-- told, a wrong of so grave would be worth so much -/
def wtV (ru pd wd : Int → Int) (ly : Nat → Pw) (k a g : Int) : Int := mwV (ru 0) (woV ly k g (pd (3 * wd (3 * a) + 2)) (pd (3 * wd (3 * a + 1))) (pd (3 * wd (3 * a + 1) + 1)) 0 0)
section Q
variable {h h' : Hp} {n W lc sc : Nat} {f ru pd wd : Int → Int} {ly : Nat → Pw} {k sn a : Int}
theorem sc0 (W8 : W ≤ 8) (who : Int) : scV W wd 0 who = 0 := by
  have key : ∀ m, m ≤ W → m ≤ 8 → sm (scI wd 0 who) m = 0 := by
    intro m
    induction m with
    | zero => intro _ _; rfl
    | succ m ih =>
      intro h1 h2
      show sm (scI wd 0 who) m + scI wd 0 who m = 0
      rw [ih (by omega) (by omega)]
      unfold scI
      have b0 : ∀ i : Nat, i < 8 → ¬ w32 (iand (ishr 0 (i : Int)) 1) = 1 := by decide +kernel
      by_cases c : w32 (wd (3 * (m : Int))) = w32 who
      · rw [if_pos c, if_neg (b0 m (by omega))]; rfl
      · rw [if_neg c]; rfl
  exact key W (Nat.le_refl _) W8
theorem f0_v (n6 : n ≤ 6) {p : Int} (p0 : 0 ≤ p) (p1 : p < n) : f0V n ru pd (36 + 2 * p) = pd (3 * p) ∧ f0V n ru pd (37 + 2 * p) = pd (3 * p + 1) ∧ f0V n ru pd 48 = 0 ∧ f0V n ru pd 51 = 0 := by
  have e1 : (36 + 2 * p - 36) / 2 = p := by omega
  have e2 : (37 + 2 * p - 36) / 2 = p := by omega
  unfold f0V
  refine ⟨?_, ?_, ?_, ?_⟩
  · rw [if_pos (by omega), if_pos (by omega), e1]
  · rw [if_pos (by omega), if_neg (by omega), e2]
  · rw [if_neg (by omega), if_neg (by decide)]
  · rw [if_neg (by omega), if_neg (by decide)]
theorem kok_told (b : CyB n W ru pd wd) (q : isWr W a) {g : Int} (g1 : 0 ≤ g) (g2 : g ≤ 9) : KOk g (pd (3 * wd (3 * a) + 2)) (pd (3 * wd (3 * a + 1))) (pd (3 * wd (3 * a + 1) + 1)) 0 0 := by
  obtain ⟨w1, w2, -⟩ := b.2.2.1 a q.1 q.2
  exact ⟨⟨g1, g2⟩, b.2.1 _ (by omega) (by omega), b.2.1 _ (by omega) (by omega), b.2.1 _ (by omega) (by omega), ⟨by omega, by omega⟩, by omega, by omega⟩
theorem wt_b (r1 : 1 ≤ ru 0 ∧ ru 0 ≤ 30) {g : Int} : 1 ≤ wtV ru pd wd ly k a g ∧ wtV ru pd wd ly k a g ≤ 30 := by
  have := mwV_b (x := woV ly k g (pd (3 * wd (3 * a) + 2)) (pd (3 * wd (3 * a + 1))) (pd (3 * wd (3 * a + 1) + 1)) 0 0) r1.1
  unfold wtV
  omega
theorem n_pos (b : CyB n W ru pd wd) (q : isWr W a) : 0 < n := by
  obtain ⟨w1, -⟩ := b.2.2.1 a q.1 q.2
  omega
theorem wt_c (I : IvP h n W lc sc ru pd wd f ly k sn) (q : isWr W a) {g : Int} (g1 : 0 ≤ g) (g2 : g ≤ 9) : ∃ h', Cc_worthBy h 20 100 (wd (3 * a)) (wd (3 * a + 1)) g = some (wtV ru pd wd ly k a g, h') ∧ On SCA h h' ∧ h' 69 = h 69 := by
  obtain ⟨Tp, Ct, Lw, Lh, Mm, Ss, Sn, Nw, Lg, Td, -⟩ := I
  have n0 := n_pos Ct.2.2.1 q
  have n6 := Ct.1.1.2.2
  obtain ⟨w1, w2, -⟩ := Ct.2.2.1.2.2.1 a q.1 q.2
  have f0 := f0_v (ru := ru) (pd := pd) n6 w2.1 w2.2
  have s0 := sc0 (wd := wd) Ct.1.2.2.1 (wd (3 * a))
  have K := kok_told Ct.2.2.1 q g1 g2
  obtain ⟨h1, e1, F1⟩ := c_worth (s := 100) (f := f0V n ru pd) (g := g) Ct.1 (Td n0) Lw Lh (Ct.2.2.1.1 n0).2.1 (by rw [f0.2.2.1]; exact ⟨by omega, by have := Nat.pow_pos (n := W) (show 0 < 2 by decide); omega⟩) w1.1 w1.2 w2.1 w2.2 (by rw [f0.1, f0.2.1, f0.2.2.1, f0.2.2.2, s0]; exact K)
  rw [f0.1, f0.2.1, f0.2.2.1, f0.2.2.2, s0] at e1
  exact ⟨h1, e1, wc_sc F1, F1.row (fun j q => by unfold WC at q; omega)⟩
theorem wt_m (I : IvP h n W lc sc ru pd wd f ly k sn) (q : isWr W a) {g : Int} (g1 : 0 ≤ g) (g2 : g ≤ 9) : ∃ h', Md_worthTold h 2000 a g = some (wtV ru pd wd ly k a g, h') ∧ IvP h' n W lc sc ru pd wd f ly k sn ∧ On SC2 h h' := by
  have J := I
  obtain ⟨Tp, Ct, Lw, Lh, Mm, Ss, Sn, Nw, Lg, Td, -⟩ := J
  have n0 := n_pos Ct.2.2.1 q
  have n6 := Ct.1.1.2.2
  have W8 := Ct.1.2.2.1
  have q' := q
  obtain ⟨q0, q1⟩ := q'
  obtain ⟨w1, w2, -⟩ := Ct.2.2.1.2.2.1 a q.1 q.2
  obtain ⟨h1, e1, F1, Mm1⟩ := m_even Ct.2.1 Lw Mm Lh (Ct.2.2.1.1 n0).2.1 (kok_told Ct.2.2.1 q g1 g2)
  refine ⟨h1, ?_, I.q (mw_2 F1) Mm1, mw_2 F1⟩
  unfold Md_worthTold
  rw [cC_s SH2000' rfl, cX_s SH2022 (by omega) (by omega) (by decide), bd_s, cX_s SH2022 (by omega) (by omega) (by decide), bd_s, rd_ge (by decide), rd_ge (by decide), w32_n (x := 3 * a) (by omega) (by omega), w32_n (x := 3 * a + 1) (by omega) (by omega), Ct.2.1.2.2.2.2.2.2 _ (by omega) (by omega), Ct.2.1.2.2.2.2.2.2 _ (by omega) (by omega), cX_s SH2020 (by omega) (by omega) (by decide), cX_s SH2020 (by omega) (by omega) (by decide), cX_s SH2020 (by omega) (by omega) (by decide), rd_ge (by decide), rd_ge (by decide), rd_ge (by decide), w32_n (x := 3 * wd (3 * a) + 2) (by omega) (by omega), w32_n (x := 3 * wd (3 * a + 1)) (by omega) (by omega), w32_n (x := 3 * wd (3 * a + 1) + 1) (by omega) (by omega), Ct.2.1.2.2.2.2.2.1 _ (by omega) (by omega), Ct.2.1.2.2.2.2.2.1 _ (by omega) (by omega), Ct.2.1.2.2.2.2.2.1 _ (by omega) (by omega), e1, cl_s]
  rfl
/-- what is given, as both hold it -/
def GvR (h : Hp) (gc W : Nat) (gw gb gm : Int → Int) : Prop := h 65 4 = (gc : Int) ∧ h 2000 50 = (gc : Int) ∧ gc ≤ 10 ∧ ∀ i : Int, 0 ≤ i → i < (gc : Int) → (h 66 i = gw i ∧ h 2049 (3 * i) = gw i ∧ 0 ≤ gw i ∧ gw i < (W : Int)) ∧ (h 67 i = gb i ∧ h 2049 (3 * i + 1) = gb i ∧ 1 ≤ gb i ∧ gb i ≤ 30) ∧ h 68 i = gm i ∧ h 2049 (3 * i + 2) = gm i ∧ (gm i = 0 ∨ gm i = 1)
theorem gvr (G : GvI h W) : ∃ (gc : Nat) (gw gb gm : Int → Int), GvR h gc W gw gb gm := by
  obtain ⟨gc, g1, g2, g3, g4⟩ := G
  refine ⟨gc, h 66, h 67, h 68, g1, g2, g3, fun i i0 i1 => ?_⟩
  obtain ⟨⟨a1, a2, a3⟩, ⟨b1, b2, b3⟩, c1, c2⟩ := g4 i i0 i1
  exact ⟨⟨rfl, a1.symm, a2, a3⟩, ⟨rfl, b1.symm, b2, b3⟩, rfl, c1.symm, c2⟩
theorem GvR.on {gc : Nat} {gw gb gm : Int → Int} (G : GvR h gc W gw gb gm) (F : On SC2 h h') : GvR h' gc W gw gb gm := by
  have E := F.e sd_Gv
  have r1 : h' 66 = h 66 := row_e E (fun k => by unfold GvC; omega)
  have r2 : h' 67 = h 67 := row_e E (fun k => by unfold GvC; omega)
  have r3 : h' 68 = h 68 := row_e E (fun k => by unfold GvC; omega)
  have r4 : h' 2049 = h 2049 := row_e E (fun k => by unfold GvC; omega)
  unfold GvR
  rw [r1, r2, r3, r4, E 65 4 (by unfold GvC; omega), E 2000 50 (by unfold GvC; omega)]
  exact G
theorem allow_e {gc : Nat} {gw gb gm : Int → Int} (G : GvR h gc W gw gb gm) (W8 : W ≤ 8) {x v : Int} (x0 : 0 ≤ x) (x1 : x < (W : Int)) (v0 : 0 ≤ v) (v1 : v ≤ 30) : Gv_allow h 65 x v = some (alF gw gb gm x v gc 0, h) := by
  obtain ⟨g1, g2, g3, g4⟩ := G
  have Wp : wp (Gv_allow h 65 x v) (fun r h' => r = alF gw gb gm x v gc 0 ∧ h' = h) := by
    generalize hV : alF gw gb gm x v gc 0 = V
    unfold Gv_allow Gv_allow_b2
    refine itr_wpx (fun d σ => ∃ i : Nat, σ = (h, 65, x, v, (i : Int)) ∧ i + d = gc ∧ alF gw gb gm x v d i = V) ?_ (n := gc) (FU_gt (by omega)) ⟨0, rfl, by omega, hV⟩
    rintro d σ k ⟨i, rfl, hd, e⟩ K
    show wp (Gv_allow_b2_body k h 65 x v (i : Int)) _
    unfold Gv_allow_b2_body
    rw [cC_s SH65 rfl, g1, w32_n (x := (i : Int)) (by omega) (by omega), w32_n (x := (gc : Int)) (by omega) (by omega)]
    cases d with
    | zero => rw [if_neg (by omega)]; exact wp_i ⟨e, rfl⟩
    | succ d =>
      obtain ⟨⟨a1, a2, a3, a4⟩, ⟨b1, b2, b3, b4⟩, c1, c2, c3⟩ := g4 (i : Int) (by omega) (by omega)
      have e' : (if gw (i : Int) = x then (if (if v < gb (i : Int) then 0 else 1) = gm (i : Int) then alF gw gb gm x v d (i + 1) else 0) else alF gw gb gm x v d (i + 1)) = V := e
      rw [if_pos (by omega), if_pos (by omega), cX_s SHgv.1 (by omega) (by omega) (by decide), rd_ge (by decide), a1, w32_n (x := gw (i : Int)) (by omega) (by omega), w32_n (x := x) (by omega) (by omega)]
      by_cases z : gw (i : Int) = x
      · rw [if_pos z] at e' ⊢
        have b41 : ∀ y : Int, (y = 0 ∨ y = 1) → wp (Gv_allow_b41 k h 65 x v (i : Int) y) (fun r h' => r = V ∧ h' = h) ∨ (if y = gm (i : Int) then alF gw gb gm x v d (i + 1) else 0) ≠ V := by
          intro y hy
          by_cases w : (if y = gm (i : Int) then alF gw gb gm x v d (i + 1) else 0) = V
          · refine Or.inl ?_
            unfold Gv_allow_b41
            rw [cC_s SH65 rfl, cX_s SHgv.2.2.1 (by omega) (by omega) (by decide), rd_ge (by decide), w32_n (x := (i : Int)) (by omega) (by omega), c1, w32_n (x := y) (by omega) (by omega), w32_n (x := gm (i : Int)) (by omega) (by omega)]
            by_cases s : y = gm (i : Int)
            · rw [if_pos s] at w ⊢
              exact K d _ (by omega) ⟨i + 1, rfl, by omega, w⟩
            · rw [if_neg s] at w ⊢
              exact wp_i ⟨w, rfl⟩
          · exact Or.inr w
        rw [cX_s SHgv.2.1 (by omega) (by omega) (by decide), rd_ge (by decide), b1, w32_n (x := v) (by omega) (by omega), w32_n (x := gb (i : Int)) (by omega) (by omega)]
        by_cases w : v < gb (i : Int)
        · rw [if_pos w] at e' ⊢
          exact (b41 0 (Or.inl rfl)).resolve_right (fun q => q e')
        · rw [if_neg w] at e' ⊢
          exact (b41 1 (Or.inr rfl)).resolve_right (fun q => q e')
      · rw [if_neg z] at e' ⊢
        exact K d _ (by omega) ⟨i + 1, rfl, by omega, e'⟩
  obtain ⟨r, h', e, rfl, rfl⟩ := Wp
  exact e
theorem isGrave_e (I : IvP h n W lc sc ru pd wd f ly k sn) {gc : Nat} {gw gb gm : Int → Int} (G : GvR h gc W gw gb gm) (q : isWr W a) {g : Int} (g1' : 0 ≤ g) (g2' : g ≤ 9) : ∃ h', Md_isGrave h 2000 a g = some (alF gw gb gm a (wtV ru pd wd ly k a g) gc 0, h') ∧ IvP h' n W lc sc ru pd wd f ly k sn ∧ GvR h' gc W gw gb gm := by
  have W8 := I.2.1.1.2.2.1
  have n0 := n_pos I.2.1.2.2.1 q
  have rb := (I.2.1.2.2.1.1 n0).2.1
  have wb := wt_b (pd := pd) (wd := wd) (ly := ly) (k := k) (a := a) (g := g) rb
  have q' := q
  obtain ⟨q0, q1⟩ := q'
  have g3 := G.2.2.1
  have Wp : wp (Md_isGrave h 2000 a g) (fun r h' => r = alF gw gb gm a (wtV ru pd wd ly k a g) gc 0 ∧ IvP h' n W lc sc ru pd wd f ly k sn ∧ GvR h' gc W gw gb gm) := by
    generalize hV : alF gw gb gm a (wtV ru pd wd ly k a g) gc 0 = V
    unfold Md_isGrave Md_isGrave_b2
    refine itr_wpx (fun d σ => ∃ (h2 : Hp) (i : Nat), σ = (h2, 2000, a, g, (i : Int)) ∧ i + d = gc ∧ IvP h2 n W lc sc ru pd wd f ly k sn ∧ GvR h2 gc W gw gb gm ∧ alF gw gb gm a (wtV ru pd wd ly k a g) d i = V) ?_ (n := gc) (FU_gt (by omega)) ⟨h, 0, rfl, by omega, I, G, hV⟩
    rintro d σ kk ⟨h2, i, rfl, hd, I2, G2, e⟩ K
    show wp (Md_isGrave_b2_body kk h2 2000 a g (i : Int)) _
    unfold Md_isGrave_b2_body
    rw [cC_s SH2000' rfl, G2.2.1, w32_n (x := (i : Int)) (by omega) (by omega), w32_n (x := (gc : Int)) (by omega) (by omega)]
    cases d with
    | zero => rw [if_neg (by omega)]; exact wp_i ⟨e, I2, G2⟩
    | succ d =>
      obtain ⟨⟨a1, a2, a3, a4⟩, ⟨b1, b2, b3, b4⟩, c1, c2, c3⟩ := G2.2.2.2 (i : Int) (by omega) (by omega)
      have e' : (if gw (i : Int) = a then (if (if wtV ru pd wd ly k a g < gb (i : Int) then 0 else 1) = gm (i : Int) then alF gw gb gm a (wtV ru pd wd ly k a g) d (i + 1) else 0) else alF gw gb gm a (wtV ru pd wd ly k a g) d (i + 1)) = V := e
      rw [if_pos (by omega), cX_s SHgv.2.2.2 (by omega) (by omega) (by decide), rd_ge (by decide), w32_n (x := 3 * (i : Int)) (by omega) (by omega), a2, w32_n (x := gw (i : Int)) (by omega) (by omega), w32_n (x := a) (by omega) (by omega)]
      by_cases z : gw (i : Int) = a
      · rw [if_pos z] at e' ⊢
        obtain ⟨h3, e3, I3, F3⟩ := wt_m I2 q g1' g2'
        have G3 := G2.on F3
        obtain ⟨-, ⟨-, b2', -⟩, -, c2', -⟩ := G3.2.2.2 (i : Int) (by omega) (by omega)
        have b46 : ∀ y : Int, (y = 0 ∨ y = 1) → (if y = gm (i : Int) then alF gw gb gm a (wtV ru pd wd ly k a g) d (i + 1) else 0) = V → wp (Md_isGrave_b46 kk h3 2000 a g (i : Int) y) (fun r h' => r = V ∧ IvP h' n W lc sc ru pd wd f ly k sn ∧ GvR h' gc W gw gb gm) := by
          intro y hy w
          unfold Md_isGrave_b46 Md_isGrave_b65
          have w01 : w32 1 = 1 := by decide
          have w00 : w32 0 = 0 := by decide
          rw [cC_s SH2000' rfl, cX_s SHgv.2.2.2 (by omega) (by omega) (by decide), rd_ge (by decide), w32_n (x := 3 * (i : Int) + 2) (by omega) (by omega), c2', w32_n (x := y) (by omega) (by omega), w32_n (x := gm (i : Int)) (by omega) (by omega), w01, w00]
          have fin : ∀ m : Int, m = gm (i : Int) → wp (if y = m then kk (h3, 2000, a, g, (i : Int) + 1) else some (0, h3)) (fun r h' => r = V ∧ IvP h' n W lc sc ru pd wd f ly k sn ∧ GvR h' gc W gw gb gm) := by
            intro m hm
            by_cases s : y = m
            · rw [if_pos s]
              rw [if_pos (by omega)] at w
              exact K d _ (by omega) ⟨h3, i + 1, rfl, by omega, I3, G3, w⟩
            · rw [if_neg s]
              rw [if_neg (by omega)] at w
              exact wp_i ⟨w, I3, G3⟩
          rcases c3 with c3 | c3
          · rw [if_neg (by omega)]; exact fin 0 c3.symm
          · rw [if_pos c3]; exact fin 1 c3.symm
        rw [e3, cl_s, cX_s SHgv.2.2.2 (by omega) (by omega) (by decide), rd_ge (by decide), w32_n (x := 3 * (i : Int) + 1) (by omega) (by omega), b2', w32_n (x := wtV ru pd wd ly k a g) (by omega) (by omega), w32_n (x := gb (i : Int)) (by omega) (by omega)]
        by_cases w : wtV ru pd wd ly k a g < gb (i : Int)
        · rw [if_pos w] at e' ⊢
          exact b46 0 (Or.inl rfl) e'
        · rw [if_neg w] at e' ⊢
          exact b46 1 (Or.inr rfl) e'
      · rw [if_neg z] at e' ⊢
        exact K d _ (by omega) ⟨h2, i + 1, rfl, by omega, I2, G2, e'⟩
  obtain ⟨r, h', e, rfl, q2⟩ := Wp
  exact ⟨h', e, q2⟩
/-- whether so grave may be, and how many -/
def ftS (v : Int → Int) : Nat → Int
  | 0 => 0
  | g + 1 => ftS v g + v ((g : Int) + 1)
theorem SH69 : SH 69 = (100, 10) := by decide +kernel
theorem fit_e (I : IvP h n W lc sc ru pd wd f ly k sn) {gc : Nat} {gw gb gm : Int → Int} (G : GvR h gc W gw gb gm) (q : isWr W a) : ∃ h', Cc_fit h 20 a = some (ftS (fun g => alF gw gb gm a (wtV ru pd wd ly k a g) gc 0) 9, h') ∧ On SCA h h' ∧ ∀ g : Int, 1 ≤ g → g < 10 → h' 69 g = if alF gw gb gm a (wtV ru pd wd ly k a g) gc 0 = 0 then 0 else wtV ru pd wd ly k a g := by
  have W8 := I.2.1.1.2.2.1
  have n0 := n_pos I.2.1.2.2.1 q
  have rb := (I.2.1.2.2.1.1 n0).2.1
  have q' := q
  obtain ⟨q0, q1⟩ := q'
  have Wp : wp (Cc_fit h 20 a) (fun r h' => r = ftS (fun g => alF gw gb gm a (wtV ru pd wd ly k a g) gc 0) 9 ∧ On SCA h h' ∧ ∀ g : Int, 1 ≤ g → g < 10 → h' 69 g = if alF gw gb gm a (wtV ru pd wd ly k a g) gc 0 = 0 then 0 else wtV ru pd wd ly k a g) := by
    unfold Cc_fit Cc_fit_b4
    refine itr_wp (fun i σ => ∃ h2 : Hp, σ = (h2, 20, a, ftS (fun g => alF gw gb gm a (wtV ru pd wd ly k a g) gc 0) i, (i : Int) + 1) ∧ On SCA h h2 ∧ ∀ g : Int, 1 ≤ g → g < (i : Int) + 1 → h2 69 g = if alF gw gb gm a (wtV ru pd wd ly k a g) gc 0 = 0 then 0 else wtV ru pd wd ly k a g) 9 ?_ ?_ (FU_gt (by decide)) ⟨h, rfl, On.rf, fun g g0 g1 => absurd g1 (by omega)⟩
    · rintro i σ kk hi ⟨h2, rfl, F2, T2⟩ K
      show wp (Cc_fit_b4_body kk h2 20 a (ftS (fun g => alF gw gb gm a (wtV ru pd wd ly k a g) gc 0) i) ((i : Int) + 1)) _
      have I2 := I.qs F2
      have wb := wt_b (pd := pd) (wd := wd) (ly := ly) (k := k) (a := a) (g := (i : Int) + 1) rb
      obtain ⟨h3, e3, F3, r69⟩ := wt_c I2 q (g := (i : Int) + 1) (by omega) (by omega)
      have cw := c_who I2.2.1.1 q
      have G3 := G.on ((F2.tr F3).w (fun _ _ t => Or.inl t))
      have al := allow_e G3 W8 q0 q1 (v := wtV ru pd wd ly k a ((i : Int) + 1)) (by omega) (by omega)
      have ac := alF_c gw gb gm a (wtV ru pd wd ly k a ((i : Int) + 1)) gc 0
      unfold Cc_fit_b4_body
      rw [w32_n (x := (i : Int) + 1) (by omega) (by omega), if_neg (by omega), cC_s SH20' rfl, cC_s I2.2.1.1.shc.1 rfl, cw.1, cl_s, cC_s I2.2.1.1.shc.1 rfl, cw.2.1, cl_s, e3, cl_s, cC_s SH65 rfl, al, cl_s]
      have b68 : ∀ v : Int, v = (if alF gw gb gm a (wtV ru pd wd ly k a ((i : Int) + 1)) gc 0 = 0 then 0 else wtV ru pd wd ly k a ((i : Int) + 1)) → wp (Cc_fit_b68 kk h3 20 a (ftS (fun g => alF gw gb gm a (wtV ru pd wd ly k a g) gc 0) i) ((i : Int) + 1) (alF gw gb gm a (wtV ru pd wd ly k a ((i : Int) + 1)) gc 0) 69 ((i : Int) + 1) v) (fun r h' => r = ftS (fun g => alF gw gb gm a (wtV ru pd wd ly k a g) gc 0) 9 ∧ On SCA h h' ∧ ∀ g : Int, 1 ≤ g → g < 10 → h' 69 g = if alF gw gb gm a (wtV ru pd wd ly k a g) gc 0 = 0 then 0 else wtV ru pd wd ly k a g) := by
        intro v hv
        have F4 : On SCA h (up h3 69 ((i : Int) + 1) v) := (F2.tr F3).tr (On.up (Or.inr (Or.inl rfl)))
        have T4 : ∀ g : Int, 1 ≤ g → g < ((i + 1 : Nat) : Int) + 1 → up h3 69 ((i : Int) + 1) v 69 g = if alF gw gb gm a (wtV ru pd wd ly k a g) gc 0 = 0 then 0 else wtV ru pd wd ly k a g := by
          intro g g0 g1
          by_cases z : g = (i : Int) + 1
          · rw [z, up_at, hv]
          · rw [up_off z, r69]; exact T2 g g0 (by omega)
        unfold Cc_fit_b68
        rw [put_eq SH69 (by decide) (by omega) (by omega) (by decide), cl_s]
        have ef : ftS (fun g => alF gw gb gm a (wtV ru pd wd ly k a g) gc 0) (i + 1) = ftS (fun g => alF gw gb gm a (wtV ru pd wd ly k a g) gc 0) i + alF gw gb gm a (wtV ru pd wd ly k a ((i : Int) + 1)) gc 0 := rfl
        rcases ac with ac | ac
        · rw [ac, if_pos wz0, bd_s]
          refine K _ ⟨_, ?_, F4, T4⟩
          rw [ef, ac]
          rfl
        · rw [ac, if_neg wn1, bd_s]
          refine K _ ⟨_, ?_, F4, T4⟩
          rw [ef, ac]
          rfl
      rcases ac with ac' | ac'
      · rw [if_pos (by rw [ac']; decide)]
        exact b68 0 (by rw [if_pos ac'])
      · rw [if_neg (by rw [ac']; decide)]
        exact b68 _ (by rw [if_neg (by rw [ac']; decide)])
    · rintro σ kk ⟨h2, rfl, F2, T2⟩
      show wp (Cc_fit_b4_body kk h2 20 a _ (((9 : Nat) : Int) + 1)) _
      unfold Cc_fit_b4_body
      rw [if_pos (by decide)]
      exact wp_i ⟨rfl, F2, T2⟩
  obtain ⟨r, h', e, rfl, q2⟩ := Wp
  exact ⟨h', e, q2⟩
end Q
end PureGraves
