section PureFirmM
/-! FIRM: the reference's side -/
section B
variable {h : Hp} {n : Nat} {f st : Int → Int}
theorem m_has0 (M : StM h 2032 n f) (K : seOK n st) (T : ∀ k : Nat, k < n → h 2038 (k : Int) = st (k : Int)) {a : Nat} (a1 : a < n) : Md_has0 h 2000 (a : Int) = some (slV f st (a : Int), h) := by
  have n6 := M.2.2.2.1
  have k := K a a1
  unfold Md_has0 slV
  rw [cC_s SH2000' rfl, cX_s SH2038 (by omega) (by omega) (by decide), rd_ge (by decide), w32_n (x := (a : Int)) (by omega) (by omega), T a a1, w32_id (x := st (a : Int)) (by omega) (by omega)]
  by_cases c : st (a : Int) = 9
  · rw [if_pos c, if_pos c]
  · rw [if_neg c, if_neg c, cX_s SH2038 (by omega) (by omega) (by decide), m_lik M (by omega) (by omega) (by omega) (by omega), cl_s]
theorem m_rowOf (n6 : n ≤ 6) (h26 : h 2000 26 = (n : Int)) (K : seOK n st) (T : ∀ k : Nat, k < n → h 2038 (k : Int) = st (k : Int)) : Md_rowOf h 2000 = some (rowN n st, h) := by
  unfold Md_rowOf Md_rowOf_b4
  refine itr_run (fun p : Nat => (h, 2000, rowN p st, (p : Int))) (n := n) ?_ ?_ (FU_gt (by omega))
  · intro p hp k
    show Md_rowOf_b4_body k h 2000 (rowN p st) (p : Int) = _
    have kp := K p hp
    unfold Md_rowOf_b4_body
    rw [cC_s SH2000' rfl, h26, w32_n (x := (p : Int)) (by omega) (by omega), w32_n (x := (n : Int)) (by omega) (by omega), if_pos (by omega), cX_s SH2038 (by omega) (by omega) (by decide), rd_ge (by decide), T p hp, w32_id (x := st (p : Int)) (by omega) (by omega), if_neg (by omega), cX_s SH2038 (by omega) (by omega) (by decide), bd_s, rowN_s, Int.mul_comm]
    rfl
  · intro k
    show Md_rowOf_b4_body k h 2000 (rowN n st) (n : Int) = _
    unfold Md_rowOf_b4_body
    rw [cC_s SH2000' rfl, h26, if_neg (Int.lt_irrefl _)]
theorem m_isFirm (M : StM h 2032 n f) (K : seOK n st) (T : ∀ k : Nat, k < n → h 2038 (k : Int) = st (k : Int)) : wp (Md_isFirm h 2000) (fun r h' => h' = h ∧ frR n f st r) := by
  have n6 := M.2.2.2.1
  have g := M.2.2.2
  have h26 := M.2.1
  have second : (∀ a : Nat, a < n → 0 ≤ slV f st (a : Int)) → wp (Md_isFirm_b45 h 2000 0) (fun r h' => h' = h ∧ frR n f st r) := by
    intro P0
    unfold Md_isFirm_b45
    refine itr_wpx (n := n) (fun m σ => ∃ a : Nat, σ = (h, 2000, (a : Int)) ∧ m + a = n ∧ ∀ c b : Nat, c < a → c < b → b < n → ¬ frQ f st c b) ?_ (FU_gt (by omega)) ⟨0, rfl, rfl, fun c b hc => absurd hc (by omega)⟩
    rintro m σ kk ⟨a, rfl, hm, P2⟩ KK
    show wp (Md_isFirm_b45_body kk h 2000 (a : Int)) _
    unfold Md_isFirm_b45_body
    rw [cC_s SH2000' rfl, h26, w32_n (x := (a : Int)) (by omega) (by omega), w32_n (x := (n : Int)) (by omega) (by omega)]
    by_cases c : a < n
    · have sb := slV_b g K c
      rw [if_pos (by omega), bd_s]
      unfold Md_isFirm_b57
      refine itr_wpx (n := n - (a + 1)) (fun m2 σ => ∃ b : Nat, σ = (h, 2000, (a : Int), (b : Int)) ∧ m2 + b = n ∧ a < b ∧ ∀ c : Nat, a < c → c < b → ¬ frQ f st a c) ?_ (FU_gt (by omega)) ⟨a + 1, by rw [show (a : Int) + 1 = ((a + 1 : Nat) : Int) by omega], by omega, by omega, fun c c0 c1 => absurd c1 (by omega)⟩
      rintro m2 σ k2 ⟨b, rfl, hb, ab, Q1⟩ K2
      show wp (Md_isFirm_b57_body kk k2 h 2000 (a : Int) (b : Int)) _
      unfold Md_isFirm_b57_body
      rw [cC_s SH2000' rfl, h26, w32_n (x := (b : Int)) (by omega) (by omega), w32_n (x := (n : Int)) (by omega) (by omega)]
      have nx : b < n → ¬ frQ f st a b → wp (k2 (h, 2000, (a : Int), (b : Int) + 1)) (fun r h' => h' = h ∧ frR n f st r) := fun hbn nq => K2 (m2 - 1) _ (by omega) ⟨b + 1, by rw [show (b : Int) + 1 = ((b + 1 : Nat) : Int) by omega], by omega, by omega, fun c c0 c1 => by
        by_cases z : c = b
        · rw [z]; exact nq
        · exact Q1 c c0 (by omega)⟩
      by_cases e : b < n
      · have ka := K a c
        have lb1 := lkV_b g (a := (a : Int)) (b := (b : Int)) (by omega) (by omega) (by omega) (by omega)
        have lb2 := lkV_b g (a := (b : Int)) (b := (a : Int)) (by omega) (by omega) (by omega) (by omega)
        have sb2 := slV_b g K e
        rw [if_pos (by omega), cX_s SH2038 (by omega) (by omega) (by decide), rd_ge (by decide), w32_n (x := (a : Int)) (by omega) (by omega), T a c, w32_id (x := st (a : Int)) (by omega) (by omega)]
        by_cases z : st (a : Int) = (b : Int)
        · rw [if_pos z]
          exact nx e (fun q => q.1 z)
        · have l1 : Md_liking h 2000 (a : Int) (b : Int) = some (lkV f (a : Int) (b : Int), h) := m_lik M (by omega) (by omega) (by omega) (by omega)
          have l2 : Md_liking h 2000 (b : Int) (a : Int) = some (lkV f (b : Int) (a : Int), h) := m_lik M (by omega) (by omega) (by omega) (by omega)
          rw [if_neg z, l1, cl_s, m_has0 M K T c, cl_s, w32_id (x := slV f st (a : Int)) (by omega) (by omega), w32_id (x := lkV f (a : Int) (b : Int)) (by omega) (by omega)]
          by_cases y : slV f st (a : Int) < lkV f (a : Int) (b : Int)
          · rw [if_pos y, l2, cl_s, m_has0 M K T e, cl_s, w32_id (x := slV f st (b : Int)) (by omega) (by omega), w32_id (x := lkV f (b : Int) (a : Int)) (by omega) (by omega)]
            by_cases x : slV f st (b : Int) < lkV f (b : Int) (a : Int)
            · rw [if_pos x]
              exact wp_i ⟨rfl, Or.inr ⟨rfl, fun q => q.2 a b ab e ⟨z, y, x⟩⟩⟩
            · rw [if_neg x]
              exact nx e (fun q => x q.2.2)
          · rw [if_neg y]
            exact nx e (fun q => y q.2.1)
      · rw [if_neg (by omega)]
        refine KK (m - 1) _ (by omega) ⟨a + 1, by rw [show (a : Int) + 1 = ((a + 1 : Nat) : Int) by omega], by omega, fun c0 b0 hc0 hcb hbn => ?_⟩
        by_cases z : c0 = a
        · rw [z]; exact Q1 b0 (by omega) (by omega)
        · exact P2 c0 b0 (by omega) hcb hbn
    · rw [if_neg (by omega)]
      have ea : a = n := by omega
      subst ea
      exact wp_i ⟨rfl, Or.inl ⟨rfl, P0, fun c0 b0 hcb hb => P2 c0 b0 (by omega) hcb hb⟩⟩
  unfold Md_isFirm Md_isFirm_b2
  refine itr_wpx (n := n) (fun m σ => ∃ a : Nat, σ = (h, 2000, (a : Int)) ∧ m + a = n ∧ ∀ c : Nat, c < a → 0 ≤ slV f st (c : Int)) ?_ (FU_gt (by omega)) ⟨0, rfl, rfl, fun c hc => absurd hc (by omega)⟩
  rintro m σ kk ⟨a, rfl, hm, P1⟩ KK
  show wp (Md_isFirm_b2_body kk h 2000 (a : Int)) _
  unfold Md_isFirm_b2_body
  rw [cC_s SH2000' rfl, h26, w32_n (x := (a : Int)) (by omega) (by omega), w32_n (x := (n : Int)) (by omega) (by omega)]
  by_cases c : a < n
  · have sb := slV_b g K c
    have ka := K a c
    have nx : 0 ≤ slV f st (a : Int) → wp (kk (h, 2000, (a : Int) + 1)) (fun r h' => h' = h ∧ frR n f st r) := fun s0 => KK (m - 1) _ (by omega) ⟨a + 1, by rw [show (a : Int) + 1 = ((a + 1 : Nat) : Int) by omega], by omega, fun c0 hc0 => by
      by_cases z : c0 = a
      · rw [z]; exact s0
      · exact P1 c0 (by omega)⟩
    rw [if_pos (by omega), cX_s SH2038 (by omega) (by omega) (by decide), rd_ge (by decide), T a c, w32_id (x := st (a : Int)) (by omega) (by omega)]
    by_cases z : st (a : Int) = 9
    · rw [if_pos z]
      exact nx (by unfold slV; rw [if_pos z]; exact Int.le_refl _)
    · have l1 : Md_liking h 2000 (a : Int) (st (a : Int)) = some (slV f st (a : Int), h) := by
        unfold slV
        rw [if_neg z]
        exact m_lik M (by omega) (by omega) (by omega) (by omega)
      rw [if_neg z, cX_s SH2038 (by omega) (by omega) (by decide), l1, cl_s, w32_id (x := slV f st (a : Int)) (by omega) (by omega)]
      by_cases d : slV f st (a : Int) < 0
      · rw [if_pos d]
        exact wp_i ⟨rfl, Or.inr ⟨rfl, fun q => absurd (q.1 a c) (by omega)⟩⟩
      · rw [if_neg d]
        exact nx (by omega)
  · rw [if_neg (by omega)]
    have ea : a = n := by omega
    subst ea
    exact second P1
end B
/-- one row counted -/
noncomputable def fmS (n : Nat) (f : Int → Int) (i : Int) (s : Nat × Int) (st : Int → Int) : Nat × Int := @ite _ (frP n f st) (Classical.propDecidable _) (s.1 + 1, if (s.1 : Int) = i then rowN n st else s.2) s
section F
variable {n : Nat} {f : Int → Int} {i : Int}
theorem fmS_1 {s : Nat × Int} {st : Int → Int} (p : frP n f st) : fmS n f i s st = (s.1 + 1, if (s.1 : Int) = i then rowN n st else s.2) := if_pos p
theorem fmS_0 {s : Nat × Int} {st : Int → Int} (p : ¬ frP n f st) : fmS n f i s st = s := if_neg p
theorem fmV_1 {st : Int → Int} {l : List (Int → Int)} {c : Nat} (p : frP n f st) : fmV n f i (st :: l) c = if (c : Int) = i then rowN n st else fmV n f i l (c + 1) := if_pos p
theorem fmV_0 {st : Int → Int} {l : List (Int → Int)} {c : Nat} (p : ¬ frP n f st) : fmV n f i (st :: l) c = fmV n f i l c := if_neg p
theorem fm_n : ∀ (l : List (Int → Int)) (c : Nat) (r : Int), i < -1 → fmV n f i l c = -1 := by
  intro l
  induction l with
  | nil => exact fun c r hi => if_neg (by omega)
  | cons st l ih =>
    intro c r hi
    by_cases p : frP n f st
    · rw [fmV_1 p, if_neg (by omega), ih _ r hi]
    · rw [fmV_0 p, ih _ r hi]
theorem fm_c : ∀ (l : List (Int → Int)) (c : Nat) (r : Int), i = -1 → ((l.foldl (fmS n f i) (c, r)).1 : Int) = fmV n f i l c := by
  intro l
  induction l with
  | nil => exact fun c r hi => (if_pos hi).symm
  | cons st l ih =>
    intro c r hi
    rw [List.foldl_cons]
    by_cases p : frP n f st
    · rw [fmV_1 p, if_neg (by omega), fmS_1 p, ih _ _ hi]
    · rw [fmV_0 p, fmS_0 p, ih _ _ hi]
theorem fm_s : ∀ (l : List (Int → Int)) (c : Nat) (r : Int), i < (c : Int) → (l.foldl (fmS n f i) (c, r)).2 = r := by
  intro l
  induction l with
  | nil => exact fun c r hi => rfl
  | cons st l ih =>
    intro c r hi
    rw [List.foldl_cons]
    by_cases p : frP n f st
    · rw [fmS_1 p]
      show (l.foldl (fmS n f i) (c + 1, if (c : Int) = i then rowN n st else r)).2 = r
      rw [if_neg (by omega), ih _ _ (by omega)]
    · rw [fmS_0 p, ih _ _ hi]
theorem fm_r : ∀ (l : List (Int → Int)) (c : Nat), (c : Int) ≤ i → (l.foldl (fmS n f i) (c, -1)).2 = fmV n f i l c := by
  intro l
  induction l with
  | nil => exact fun c hi => (if_neg (by omega)).symm
  | cons st l ih =>
    intro c hi
    rw [List.foldl_cons]
    by_cases p : frP n f st
    · rw [fmS_1 p, fmV_1 p]
      show (l.foldl (fmS n f i) (c + 1, if (c : Int) = i then rowN n st else -1)).2 = _
      by_cases z : (c : Int) = i
      · rw [if_pos z, if_pos z, fm_s l _ _ (by omega)]
      · rw [if_neg z, if_neg z, ih _ (by omega)]
    · rw [fmS_0 p, fmV_0 p, ih _ hi]
theorem fm_cb : ∀ (l : List (Int → Int)) (s : Nat × Int), (l.foldl (fmS n f i) s).1 ≤ s.1 + l.length := by
  intro l
  induction l with
  | nil => exact fun s => Nat.le_refl _
  | cons st l ih =>
    intro s
    rw [List.foldl_cons]
    have ll : (st :: l).length = l.length + 1 := rfl
    rw [ll]
    by_cases p : frP n f st
    · rw [fmS_1 p]
      have := ih (s.1 + 1, if (s.1 : Int) = i then rowN n st else s.2)
      have e : (s.1 + 1, if (s.1 : Int) = i then rowN n st else s.2).1 = s.1 + 1 := rfl
      rw [e] at this
      omega
    · rw [fmS_0 p]
      have := ih s
      omega
end F
end PureFirmM
