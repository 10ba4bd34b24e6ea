section PureLawD
/-! the class reads terms, sums, conditions -/
theorem cl_cl {α : Type} (A : Option (Int × Hp)) (F : Int → Hp → Option (Int × Hp)) (G : Int → Hp → Option α) : cl (cl A F) G = cl A (fun r h => cl (F r h) G) := by
  cases A with
  | none => rfl
  | some x => rfl
section C
variable {B : Nat → Int} {L p q s : Nat} {h h1 : Hp} {a d : Int} {c : List Int} {r : Rs}
/-- a row of things with signs between, in the class -/
theorem rw_it (ia : IsL a) (b : BOK B L) {Bd : (Hp × Int × Int × Int × Int → Option (Int × Hp)) → Hp × Int × Int × Int × Int → Option (Int × Hp)} {X : Nat → Rs} {T : Hp → Option (Int × Hp)} {s1 s2 : Int} (z1 : 1 ≤ s1) (z2 : 1 ≤ s2) (S : CSp a B L X T)
    (hb : ∀ (k : Hp × Int × Int × Int × Int → Option (Int × Hp)) (h : Hp) (p i : Nat), i < 240 → PTp h B L p → Bd k (h, a, 21, d, (i : Int)) = if chP B L (nxP B L p) = s1 ∨ chP B L (nxP B L p) = s2 then cl (T (up h 21 2 ((nxP B L p + 1 : Nat) : Int))) (fun x h8 => if w32 x = 0 then some (0, h8) else cl (Lw_emit h8 a (chP B L (nxP B L p))) (fun _ h9 => k (h9, a, 21, d, (i : Int) + 1))) else some (1, up h 21 2 ((nxP B L p : Nat) : Int)))
    {h0 : Hp} {p0 : Nat} : ∀ (f M i p : Nat) (h : Hp) (x : Pl), L < p + f → f < M → i < p → p0 < p → On (LTc a) h0 h → PC h a B L p (c ++ x.1) s → wp (itr Bd M (h, a, 21, d, (i : Int))) (CRs a B L c s p0 (rwL B L s1 s2 X f p x) h0) := by
  intro f
  induction f with
  | zero =>
    intro M i p h x h1 h2 h3 h4 F P
    have := P.1.2.2.1
    omega
  | succ f ih =>
    intro M i p h x h1 h2 h3 h4 F P
    obtain ⟨M, rfl⟩ : ∃ M', M = M' + 1 := ⟨M - 1, by omega⟩
    obtain ⟨n1, n2, n3⟩ := nxP_r (B := B) P.1.2.2.1
    have L240 := b.1
    rw [itr_s, hb _ _ p i (by omega) P.1]
    show wp _ (CRs a B L c s p0 (if chP B L (nxP B L p) = s1 ∨ chP B L (nxP B L p) = s2 then bnP (X (nxP B L p + 1)) (fun p' y => rwL B L s1 s2 X f p' (cbP (chP B L (nxP B L p)) x y)) else (nxP B L p, some x)) h0)
    by_cases c1 : chP B L (nxP B L p) = s1 ∨ chP B L (nxP B L p) = s2
    · have hl := chP_lt (B := B) (L := L) (p := nxP B L p) (by rcases c1 with e | e <;> omega)
      rw [if_pos c1, if_pos c1]
      refine wp_CR (S _ _ (s + 1) _ (P.mv ia (q := nxP B L p + 1) (t := s + 1) (by omega) (by omega))) ?_ ?_
      · intro w h' e hw F2 e3
        rw [if_pos (show w32 0 = 0 by decide), e, bnP_n]
        exact CR_0 ((F.tr lt_2).tr F2) hw e3 rfl
      · intro q y h' e F2 hq P2
        rw [if_neg (show ¬ w32 1 = 0 by decide), e, bnP_s]
        obtain ⟨h3, e3, F3, P3, -⟩ := emit_c ia b P2 (chP B L (nxP B L p))
        rw [e3, cl_s]
        have e5 : c ++ x.1 ++ y.1 ++ [chP B L (nxP B L p)] = c ++ (cbP (chP B L (nxP B L p)) x y).1 := by
          show _ = c ++ (x.1 ++ y.1 ++ [chP B L (nxP B L p)])
          simp only [List.append_assoc]
        rw [e5] at P3
        exact ih M (i + 1) q h3 (cbP (chP B L (nxP B L p)) x y) (by omega) (by omega) (by omega) (by omega) (((F.tr lt_2).tr F2).tr F3) P3
    · rw [if_neg c1, if_neg c1]
      exact CR_1 (F.tr lt_2) (by omega) (P.mv ia n2 (by omega)) rfl
theorem or_ii {P Q : Prop} {x y z : Option (Int × Hp)} [Decidable P] [Decidable Q] [Decidable (P ∨ Q)] (hxy : x = y) : (if P then x else if Q then y else z) = if P ∨ Q then x else z := by
  by_cases p : P
  · rw [if_pos p, if_pos (Or.inl p)]
  · by_cases q : Q
    · rw [if_neg p, if_pos q, if_pos (Or.inr q), hxy]
    · rw [if_neg p, if_neg q, if_neg (fun e => e.elim p q)]
theorem te_b (ia : IsL a) (b : BOK B L) {kf : Hp × Int × Int × Int → Option (Int × Hp)} (k : Hp × Int × Int × Int × Int → Option (Int × Hp)) (h : Hp) (p i : Nat) (hi : i < 240) (T : PTp h B L p) : Lw_term_b13_body kf k h a 21 d (i : Int) = if chP B L (nxP B L p) = 42 ∨ chP B L (nxP B L p) = 47 then cl (Lw_atom kf (up h 21 2 ((nxP B L p + 1 : Nat) : Int)) a 21 d) (fun x h8 => if w32 x = 0 then some (0, h8) else cl (Lw_emit h8 a (chP B L (nxP B L p))) (fun _ h9 => k (h9, a, 21, d, (i : Int) + 1))) else some (1, up h 21 2 ((nxP B L p : Nat) : Int)) := by
  have cb := chP_b (p := nxP B L p) b
  unfold Lw_term_b13_body Lw_term_b42
  rw [if_pos (by rw [w32_n (by omega) (by omega)]; omega), cC_s SH21 rfl, Tp_next_e b T, cl_s, w32_n (x := chP B L (nxP B L p)) (by omega) (by omega), cC_s SH21 rfl, pu_s, up_at, up_up, cC_s (IsL_sh ia).1 rfl, or_ii rfl]
  rfl
theorem su_b (ia : IsL a) (b : BOK B L) {kf : Hp × Int × Int × Int → Option (Int × Hp)} (k : Hp × Int × Int × Int × Int → Option (Int × Hp)) (h : Hp) (p i : Nat) (hi : i < 240) (T : PTp h B L p) : Lw_sum_b13_body kf k h a 21 d (i : Int) = if chP B L (nxP B L p) = 43 ∨ chP B L (nxP B L p) = 45 then cl (Lw_term kf (up h 21 2 ((nxP B L p + 1 : Nat) : Int)) a 21 d) (fun x h8 => if w32 x = 0 then some (0, h8) else cl (Lw_emit h8 a (chP B L (nxP B L p))) (fun _ h9 => k (h9, a, 21, d, (i : Int) + 1))) else some (1, up h 21 2 ((nxP B L p : Nat) : Int)) := by
  have cb := chP_b (p := nxP B L p) b
  unfold Lw_sum_b13_body Lw_sum_b42
  rw [if_pos (by rw [w32_n (by omega) (by omega)]; omega), cC_s SH21 rfl, Tp_next_e b T, cl_s, w32_n (x := chP B L (nxP B L p)) (by omega) (by omega), cC_s SH21 rfl, pu_s, up_at, up_up, cC_s (IsL_sh ia).1 rfl, or_ii rfl]
  rfl
theorem or_self_if {P : Prop} {x z : Option (Int × Hp)} [Decidable P] [Decidable (P ∨ P)] : (if P then x else z) = if P ∨ P then x else z := by
  by_cases p : P
  · rw [if_pos p, if_pos (Or.inl p)]
  · rw [if_neg p, if_neg (fun e => e.elim p p)]
theorem mu_b (ia : IsL a) (b : BOK B L) {kf : Hp × Int × Int × Int × Int → Option (Int × Hp)} (k : Hp × Int × Int × Int × Int → Option (Int × Hp)) (h : Hp) (p i : Nat) (hi : i < 240) (T : PTp h B L p) : Lw_moreUnits_b2_body kf k h a 21 d (i : Int) = if chP B L (nxP B L p) = 38 ∨ chP B L (nxP B L p) = 38 then cl (kf (up h 21 2 ((nxP B L p + 1 : Nat) : Int), a, 21, d, 0)) (fun x h8 => if w32 x = 0 then some (0, h8) else cl (Lw_emit h8 a (chP B L (nxP B L p))) (fun _ h9 => k (h9, a, 21, d, (i : Int) + 1))) else some (1, up h 21 2 ((nxP B L p : Nat) : Int)) := by
  have cb := chP_b (p := nxP B L p) b
  unfold Lw_moreUnits_b2_body
  rw [if_pos (by rw [w32_n (by omega) (by omega)]; omega), cC_s SH21 rfl, Tp_next_e b T, cl_s, w32_n (x := chP B L (nxP B L p)) (by omega) (by omega), pu_s, up_at, up_up, cC_s (IsL_sh ia).1 rfl]
  by_cases c1 : chP B L (nxP B L p) = 38
  · rw [if_pos c1, if_pos (Or.inl c1), c1]
    rfl
  · rw [if_neg c1, if_neg (fun e => e.elim c1 c1)]
theorem cl_if {α : Type} {P : Prop} [Decidable P] (A M : Option (Int × Hp)) (G : Int → Hp → Option α) : cl (if P then A else M) G = if P then cl A G else cl M G := by
  by_cases p : P
  · rw [if_pos p, if_pos p]
  · rw [if_neg p, if_neg p]
/-- units behind a unit -/
def paT (kf : Hp × Int × Int × Int × Int → Option (Int × Hp)) (a d bg : Int) (h : Hp) : Option (Int × Hp) := cl (kf (h, a, 21, d, bg)) (fun r h8 => if w32 r = 0 then some (0, h8) else Lw_moreUnits kf h8 a 21 d)
theorem mt_b (ia : IsL a) (b : BOK B L) {kf : Hp × Int × Int × Int × Int → Option (Int × Hp)} (k : Hp × Int × Int × Int × Int → Option (Int × Hp)) (h : Hp) (p i : Nat) (hi : i < 240) (T : PTp h B L p) : Lw_moreTruths_b2_body kf k h a 21 d (i : Int) = if chP B L (nxP B L p) = 124 ∨ chP B L (nxP B L p) = 124 then cl (paT kf a d 0 (up h 21 2 ((nxP B L p + 1 : Nat) : Int))) (fun x h8 => if w32 x = 0 then some (0, h8) else cl (Lw_emit h8 a (chP B L (nxP B L p))) (fun _ h9 => k (h9, a, 21, d, (i : Int) + 1))) else some (1, up h 21 2 ((nxP B L p : Nat) : Int)) := by
  have cb := chP_b (p := nxP B L p) b
  unfold Lw_moreTruths_b2_body paT
  rw [if_pos (by rw [w32_n (by omega) (by omega)]; omega), cC_s SH21 rfl, Tp_next_e b T, cl_s, w32_n (x := chP B L (nxP B L p)) (by omega) (by omega), pu_s, up_at, up_up, cC_s (IsL_sh ia).1 rfl]
  by_cases c1 : chP B L (nxP B L p) = 124
  · rw [if_pos c1, if_pos (Or.inl c1), c1, cl_cl]
    have e : ∀ (x : Option (Int × Hp)) (F G : Int → Hp → Option (Int × Hp)), (∀ r h, F r h = G r h) → cl x F = cl x G := by
      intro x F G hh
      have : F = G := funext fun r => funext fun h => hh r h
      rw [this]
    refine e _ _ _ (fun r h8 => ?_)
    rw [cl_if, cl_s, if_pos (show w32 0 = 0 by decide)]
  · rw [if_neg c1, if_neg (fun e => e.elim c1 c1)]
theorem term_c (ia : IsL a) (b : BOK B L) {inn : Option (Nat → Rs)} {kf : Hp × Int × Int × Int → Option (Int × Hp)} (I : Inn a B L inn kf d) : CSp a B L (teP B L inn) (fun h => Lw_term kf h a 21 d) := by
  intro h p s c P
  show wp (Lw_term kf h a 21 d) _
  have L240 := b.1
  unfold Lw_term teP
  rw [cC_s (IsL_sh ia).1 rfl]
  refine wp_CR (atom_c ia b I h p s c P) ?_ ?_
  · intro w h' e hw F e3
    rw [if_pos (show w32 0 = 0 by decide), e, bnP_n]
    exact CR_0 F hw e3 rfl
  · intro q y h' e F hq P2
    rw [if_neg (show ¬ w32 1 = 0 by decide), e, bnP_s]
    have key := rw_it (c := c) (s := s) (d := d) (Bd := fun k s => Lw_term_b13_body kf k s.1 s.2.1 s.2.2.1 s.2.2.2.1 s.2.2.2.2) ia b (s1 := 42) (s2 := 47) (by decide) (by decide) (atom_c ia b I) (fun k h p i hi T => te_b ia b k h p i hi T) (L + 1) FU 0 q h' y (by omega) (FU_gt (by omega)) (by omega) hq F P2
    exact key
theorem sum_c (ia : IsL a) (b : BOK B L) {inn : Option (Nat → Rs)} {kf : Hp × Int × Int × Int → Option (Int × Hp)} (I : Inn a B L inn kf d) : CSp a B L (suP B L inn) (fun h => Lw_sum_body kf h a 21 d) := by
  intro h p s c P
  show wp (Lw_sum_body kf h a 21 d) _
  have L240 := b.1
  unfold Lw_sum_body suP
  rw [cC_s (IsL_sh ia).1 rfl]
  refine wp_CR (term_c ia b I h p s c P) ?_ ?_
  · intro w h' e hw F e3
    rw [if_pos (show w32 0 = 0 by decide), e, bnP_n]
    exact CR_0 F hw e3 rfl
  · intro q y h' e F hq P2
    rw [if_neg (show ¬ w32 1 = 0 by decide), e, bnP_s]
    have key := rw_it (c := c) (s := s) (d := d) (Bd := fun k s => Lw_sum_b13_body kf k s.1 s.2.1 s.2.2.1 s.2.2.2.1 s.2.2.2.2) ia b (s1 := 43) (s2 := 45) (by decide) (by decide) (term_c ia b I) (fun k h p i hi T => su_b ia b k h p i hi T) (L + 1) FU 0 q h' y (by omega) (FU_gt (by omega)) (by omega) hq F P2
    exact key
theorem suA_c (ia : IsL a) (b : BOK B L) : ∀ (e N : Nat), e < N → e ≤ 6 → CSp a B L (suA B L e) (fun h => itr (fun k s => Lw_sum_body k s.1 s.2.1 s.2.2.1 s.2.2.2) N (h, a, 21, 6 - (e : Int)))
  | 0, N, hN, he => by
    obtain ⟨N, rfl⟩ : ∃ N', N = N' + 1 := ⟨N - 1, by omega⟩
    exact sum_c ia b (inn := none) (kf := itr (fun k s => Lw_sum_body k s.1 s.2.1 s.2.2.1 s.2.2.2) N) (d := 6 - ((0 : Nat) : Int)) ⟨by omega, Or.inl ⟨rfl, by omega⟩⟩
  | e + 1, N, hN, he => by
    obtain ⟨N, rfl⟩ : ∃ N', N = N' + 1 := ⟨N - 1, by omega⟩
    have ih := suA_c ia b e N (by omega) (by omega)
    have e6 : 6 - ((e + 1 : Nat) : Int) + 1 = 6 - (e : Int) := by omega
    refine sum_c ia b (inn := some (suA B L e)) (kf := itr (fun k s => Lw_sum_body k s.1 s.2.1 s.2.2.1 s.2.2.2) N) (d := 6 - ((e + 1 : Nat) : Int)) ⟨by omega, Or.inr ⟨_, rfl, by omega, ?_⟩⟩
    rw [e6]
    exact ih
theorem RF_12 : RF = 11 + 1 := rfl
theorem suR_c (ia : IsL a) (b : BOK B L) {e : Nat} (he : e ≤ 6) : CSp a B L (suA B L e) (fun h => Lw_sum h a 21 (6 - (e : Int))) := suA_c ia b e RF (by have := RF_12; omega) he
theorem isC1 {x : Int} (b : 0 ≤ x ∧ x ≤ 255) (q : isC x) : Lw_isComparing h x = some (1, h) := by
  unfold Lw_isComparing
  rw [w32_n b.1 (by omega)]
  rcases q with e | e | e
  · rw [if_pos e]
  · rw [if_neg (by omega), if_pos e]
  · rw [if_neg (by omega), if_neg (by omega), if_pos e]
theorem isC0 {x : Int} (b : 0 ≤ x ∧ x ≤ 255) (q : ¬ isC x) : Lw_isComparing h x = some (0, h) := by
  unfold Lw_isComparing
  rw [w32_n b.1 (by omega), if_neg (fun e => q (Or.inl e)), if_neg (fun e => q (Or.inr (Or.inl e))), if_neg (fun e => q (Or.inr (Or.inr e)))]
/-- the second side of a comparison -/
theorem b48_c (ia : IsL a) (b : BOK B L) {kf : Hp × Int × Int × Int × Int → Option (Int × Hp)} {S : Nat → Rs} (hS : CSp a B L S (fun h => Lw_sum h a 21 d)) {h0 : Hp} {p0 : Nat} {x : Pl} (F : On (LTc a) h0 h) (hp : p0 < p) (P : PC h a B L p (c ++ x.1) s) (e : r = cmP B L S p x) : wp (Lw_unit_b48 kf h a 21 d) (CRs a B L c s p0 r h0) := by
  obtain ⟨n1, n2, n3⟩ := nxP_r (B := B) P.1.2.2.1
  have cb := chP_b (p := nxP B L p) b
  unfold cmP at e
  unfold Lw_unit_b48
  rw [cC_s SH21 rfl, Tp_next_e b P.1, cl_s]
  by_cases c1 : isC (chP B L (nxP B L p))
  · have hl := chP_lt (B := B) (L := L) (p := nxP B L p) (by rcases c1 with z | z | z <;> omega)
    rw [ifC_1 c1] at e
    rw [isC1 cb c1, cl_s, if_neg (show ¬ w32 1 = 0 by decide), pu_s, up_at, up_up, cC_s (IsL_sh ia).1 rfl]
    refine wp_CR (hS _ _ (s + 1) _ (P.mv ia (q := nxP B L p + 1) (t := s + 1) (by omega) (by omega))) ?_ ?_
    · intro w h' e2 hw F2 e3
      rw [if_pos (show w32 0 = 0 by decide)]
      rw [e2, bnP_n] at e
      exact CR_0 ((F.tr lt_2).tr F2) hw e3 e
    · intro q y h' e2 F2 hq P2
      rw [if_neg (show ¬ w32 1 = 0 by decide)]
      rw [e2, bnP_s] at e
      obtain ⟨h3, e3, F3, P3, -⟩ := emit_c ia b P2 (chP B L (nxP B L p))
      rw [e3, cl_s]
      have e5 : c ++ x.1 ++ y.1 ++ [chP B L (nxP B L p)] = c ++ (cbP (chP B L (nxP B L p)) x y).1 := by
        show _ = c ++ (x.1 ++ y.1 ++ [chP B L (nxP B L p)])
        simp only [List.append_assoc]
      rw [e5] at P3
      exact CR_1 (((F.tr lt_2).tr F2).tr F3) (by omega) P3 e
  · rw [ifC_0 c1] at e
    rw [isC0 cb c1, cl_s, if_pos (show w32 0 = 0 by decide)]
    have := CR_f (B := B) (c := c) (s := s) (p := p0) (F.tr (lt_2 (a := a) (v := ((nxP B L p : Nat) : Int)))) n2 (up_at (h := h)) e
    rw [cC_s SH21 rfl] at this
    exact this
/-- units behind a first one; truths behind those -/
theorem pa_c (ia : IsL a) (b : BOK B L) {kf : Hp × Int × Int × Int × Int → Option (Int × Hp)} {U : Nat → Rs} (hU : CSp a B L U (fun h => kf (h, a, 21, d, 0))) {bg : Int} {r0 : Rs} (W : wp (kf (h, a, 21, d, bg)) (CRs a B L c s p r0 h1)) : wp (paT kf a d bg h) (CRs a B L c s p (paP B L U r0) h1) := by
  have L240 := b.1
  unfold paT paP
  refine wp_CR W ?_ ?_
  · intro w h' e hw F e3
    rw [if_pos (show w32 0 = 0 by decide), e, bnP_n]
    exact CR_0 F hw e3 rfl
  · intro q y h' e F hq P2
    rw [if_neg (show ¬ w32 1 = 0 by decide), e, bnP_s]
    have key := rw_it (c := c) (s := s) (d := d) (Bd := fun k s => Lw_moreUnits_b2_body kf k s.1 s.2.1 s.2.2.1 s.2.2.2.1 s.2.2.2.2) ia b (s1 := 38) (s2 := 38) (by decide) (by decide) (hU) (fun k h p i hi T => mu_b ia b k h p i hi T) (L + 1) FU 0 q h' y (by omega) (FU_gt (by omega)) (by omega) hq F P2
    exact key
theorem pa_U (ia : IsL a) (b : BOK B L) {kf : Hp × Int × Int × Int × Int → Option (Int × Hp)} {U : Nat → Rs} (hU : CSp a B L U (fun h => kf (h, a, 21, d, 0))) : CSp a B L (fun p => paP B L U (U p)) (paT kf a d 0) := fun h p s c P => pa_c ia b hU (hU h p s c P)
theorem co_c (ia : IsL a) (b : BOK B L) {kf : Hp × Int × Int × Int × Int → Option (Int × Hp)} {U : Nat → Rs} (hU : CSp a B L U (fun h => kf (h, a, 21, d, 0))) {bg : Int} {r0 : Rs} (W : wp (kf (h, a, 21, d, bg)) (CRs a B L c s p r0 h1)) : wp (Lw_condition kf h a 21 d bg) (CRs a B L c s p (coP B L U r0) h1) := by
  have L240 := b.1
  have e : Lw_condition kf h a 21 d bg = cl (paT kf a d bg h) (fun r5 h6 => if w32 r5 = 0 then some (0, h6) else cl (Lw_moreTruths kf h6 a 21 d) (fun r8 h9 => if w32 r8 = 0 then some (0, h9) else some (1, h9))) := by
    unfold Lw_condition paT
    rw [cC_s (IsL_sh ia).1 rfl, cl_cl]
    have ee : ∀ (x : Option (Int × Hp)) (F G : Int → Hp → Option (Int × Hp)), (∀ r h, F r h = G r h) → cl x F = cl x G := by
      intro x F G hh
      have : F = G := funext fun r => funext fun h => hh r h
      rw [this]
    refine ee _ _ _ (fun r h8 => ?_)
    rw [cl_if, cl_s, if_pos (show w32 0 = 0 by decide)]
  rw [e]
  unfold coP
  refine wp_CR (pa_c ia b hU W) ?_ ?_
  · intro w h' e hw F e3
    rw [if_pos (show w32 0 = 0 by decide), e, bnP_n]
    exact CR_0 F hw e3 rfl
  · intro q y h' e F hq P2
    rw [if_neg (show ¬ w32 1 = 0 by decide), e, bnP_s]
    have W2 := rw_it (c := c) (s := s) (d := d) (Bd := fun k s => Lw_moreTruths_b2_body kf k s.1 s.2.1 s.2.2.1 s.2.2.2.1 s.2.2.2.2) ia b (s1 := 124) (s2 := 124) (by decide) (by decide) (pa_U ia b hU) (fun k h p i hi T => mt_b ia b k h p i hi T) (L + 1) FU 0 q h' y (by omega) (FU_gt (by omega)) (by omega) hq F P2
    refine wp_CR W2 ?_ ?_
    · intro w h' e hw F e3
      rw [if_pos (show w32 0 = 0 by decide)]
      exact CR_0 F hw e3 e
    · intro q y h' e F hq P2
      rw [if_neg (show ¬ w32 1 = 0 by decide)]
      exact CR_1 F hq P2 e
end C
end PureLawD
