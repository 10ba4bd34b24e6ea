section PureLawE
/-! the class reads units, clauses, a whole law -/
section C
variable {B : Nat → Int} {L p q s : Nat} {h h1 : Hp} {a d : Int} {c : List Int} {r : Rs}
theorem CR_m {X : Option (Int × Hp)} (W : wp X (CRs a B L c s p r h)) : wp (cl X (fun x h' => some (x % 2, h'))) (CRs a B L c s p r h) := by
  refine wp_CR W ?_ ?_
  · intro w h' e hw F e3
    exact CR_0 F hw e3 e
  · intro q y h' e F hq P
    exact CR_1 F hq P e
def InU (a : Int) (B : Nat → Int) (L : Nat) (nest : Option ((Nat → Rs) × (Nat → Rs))) (kf : Hp × Int × Int × Int × Int → Option (Int × Hp)) (d : Int) : Prop := 0 ≤ d ∧ ((nest = none ∧ d = 6) ∨ ∃ X, nest = some X ∧ d < 6 ∧ CSp a B L X.2 (fun h => kf (h, a, 21, d + 1, 0)) ∧ CSp a B L X.1 (fun h => Lw_condition kf h a 21 (d + 1) 0))
theorem ne_c (ia : IsL a) (b : BOK B L) {nest : Option ((Nat → Rs) × (Nat → Rs))} {kf : Hp × Int × Int × Int × Int → Option (Int × Hp)} (I : InU a B L nest kf d) (P : PC h a B L p c s) (c1 : chP B L (nxP B L p) = 33 ∨ chP B L (nxP B L p) = 40) : wp (Lw_unit_b24 kf (up h 21 2 ((nxP B L p : Nat) : Int)) a 21 d (chP B L (nxP B L p))) (CRs a B L c s p (if chP B L (nxP B L p) = 33 then neU nest (nxP B L p) else neC B L nest (nxP B L p)) h) := by
  obtain ⟨d0, I⟩ := I
  obtain ⟨n1, n2, n3⟩ := nxP_r (B := B) P.1.2.2.1
  have hl := chP_lt (B := B) (L := L) (p := nxP B L p) (by rcases c1 with e | e <;> omega)
  unfold Lw_unit_b24
  rw [cC_s (IsL_sh ia).1 rfl]
  refine CR_m ?_
  unfold Lw_nested
  rcases I with ⟨rfl, rfl⟩ | ⟨X, rfl, d6, S1, S2⟩
  · rw [if_neg (show ¬ w32 6 < 6 by decide)]
    refine CR_f (w := nxP B L p) lt_2 n2 up_at ?_
    rcases c1 with e | e
    · rw [if_pos e]; rfl
    · rw [if_neg (by omega)]; rfl
  · rw [if_pos (by rw [w32_n d0 (by omega)]; omega), cC_s SH21 rfl, pu_s, up_at, up_up]
    rcases c1 with e | e
    · rw [e, if_neg (show ¬ w32 33 = 40 by decide), cC_s (IsL_sh ia).1 rfl, if_pos rfl]
      refine wp_CR (S1 _ _ (s + 1) _ (P.mv ia (q := nxP B L p + 1) (t := s + 1) (by omega) (by omega))) ?_ ?_
      · intro w h' e2 hw F e3
        rw [if_pos (show w32 0 = 0 by decide)]
        exact CR_0 (lt_2.tr F) hw e3 (by unfold neU; dsimp only; rw [e2]; rfl)
      · intro q y h' e2 F hq P2
        rw [if_neg (show ¬ w32 1 = 0 by decide)]
        obtain ⟨h3, e3, F3, P3, -⟩ := emit_c ia b P2 33
        rw [e3, cl_s]
        rw [List.append_assoc] at P3
        exact CR_1 (y := (y.1 ++ [33], fun v => 1 - y.2 v)) ((lt_2.tr F).tr F3) (by omega) P3 (by unfold neU; dsimp only; rw [e2]; rfl)
    · rw [e, if_pos (show w32 40 = 40 by decide), cC_s (IsL_sh ia).1 rfl, if_neg (show ¬ (40 : Int) = 33 by decide)]
      refine wp_CR (S2 _ _ s _ (P.mv ia (q := nxP B L p + 1) (t := s) (by omega) (by omega))) ?_ ?_
      · intro w h' e2 hw F e3
        rw [if_pos (show w32 0 = 0 by decide)]
        exact CR_0 (lt_2.tr F) hw e3 (by show bnP (X.1 (nxP B L p + 1)) _ = _; rw [e2]; rfl)
      · intro q y h' e2 F hq P2
        rw [if_neg (show ¬ w32 1 = 0 by decide)]
        exact cls_c ia b ⟨by decide, by decide⟩ (lt_2.tr F) (by omega) P2 (by show bnP (X.1 (nxP B L p + 1)) _ = _; rw [e2]; rfl)
theorem unit_c (ia : IsL a) (b : BOK B L) {S : Nat → Rs} (hS : CSp a B L S (fun h => Lw_sum h a 21 d)) {nest : Option ((Nat → Rs) × (Nat → Rs))} {kf : Hp × Int × Int × Int × Int → Option (Int × Hp)} (I : InU a B L nest kf d) : CSp a B L (unP B L S nest) (fun h => Lw_unit_body kf h a 21 d 0) := by
  intro h p s c P
  show wp (Lw_unit_body kf h a 21 d 0) _
  obtain ⟨n1, n2, n3⟩ := nxP_r (B := B) P.1.2.2.1
  have cb := chP_b (p := nxP B L p) b
  unfold Lw_unit_body unP
  rw [cC_s SH21 rfl, Tp_next_e b P.1, cl_s, w32_n (x := chP B L (nxP B L p)) (by omega) (by omega), if_pos (show w32 0 = 0 by decide)]
  by_cases c1 : chP B L (nxP B L p) = 33
  · have key := ne_c ia b I P (Or.inl c1)
    rw [if_pos c1] at key ⊢
    rw [if_pos c1]
    exact key
  · by_cases c2 : chP B L (nxP B L p) = 40
    · have key := ne_c ia b I P (Or.inr c2)
      rw [if_neg c1] at key ⊢
      rw [if_pos c2, if_neg c1, if_pos c2]
      exact key
    · rw [if_neg c1, if_neg c2, if_neg c1, if_neg c2]
      unfold Lw_unit_b33
      rw [if_pos (show w32 0 = 0 by decide), cC_s (IsL_sh ia).1 rfl]
      refine wp_CR (hS _ _ s _ (P.mv ia n2 (by omega))) ?_ ?_
      · intro w h' e hw F e3
        rw [if_pos (show w32 0 = 0 by decide), e, bnP_n]
        exact CR_0 (lt_2.tr F) hw e3 rfl
      · intro q y h' e F hq P2
        rw [if_neg (show ¬ w32 1 = 0 by decide), e, bnP_s]
        exact b48_c ia b hS (lt_2.tr F) (by omega) P2 rfl
theorem unA_c (ia : IsL a) (b : BOK B L) : ∀ (e N : Nat), e < N → e ≤ 6 → CSp a B L (unA B L e) (fun h => itr (fun k s => Lw_unit_body k s.1 s.2.1 s.2.2.1 s.2.2.2.1 s.2.2.2.2) N (h, a, 21, 6 - (e : Int), 0))
  | 0, N, hN, he => by
    obtain ⟨N, rfl⟩ : ∃ N', N = N' + 1 := ⟨N - 1, by omega⟩
    exact unit_c ia b (suR_c ia b (e := 0) he) (nest := none) (kf := itr (fun k s => Lw_unit_body k s.1 s.2.1 s.2.2.1 s.2.2.2.1 s.2.2.2.2) N) (d := 6 - ((0 : Nat) : Int)) ⟨by omega, Or.inl ⟨rfl, by omega⟩⟩
  | e + 1, N, hN, he => by
    obtain ⟨N, rfl⟩ : ∃ N', N = N' + 1 := ⟨N - 1, by omega⟩
    have ih := unA_c ia b e N (by omega) (by omega)
    have e6 : 6 - ((e + 1 : Nat) : Int) + 1 = 6 - (e : Int) := by omega
    refine unit_c ia b (suR_c ia b (e := e + 1) he) (nest := some (fun p => coP B L (unA B L e) (unA B L e p), unA B L e)) (kf := itr (fun k s => Lw_unit_body k s.1 s.2.1 s.2.2.1 s.2.2.2.1 s.2.2.2.2) N) (d := 6 - ((e + 1 : Nat) : Int)) ⟨by omega, Or.inr ⟨_, rfl, by omega, ?_, ?_⟩⟩
    · rw [e6]
      exact ih
    · rw [e6]
      intro h p s c P
      exact co_c ia b ih (ih h p s c P)
/-- clauses -/
def CRw (a : Int) (B : Nat → Int) (L : Nat) (c : List Int) (s p : Nat) (r : Nat × Option Pw) (h : Hp) (x : Int) (h' : Hp) : Prop := On (LTc a) h h' ∧ ((∃ w : Nat, r = (w, none) ∧ w ≤ L ∧ x = 0 ∧ h' 21 3 = (w : Int)) ∨ ∃ (q : Nat) (y : Pw), r = (q, some y) ∧ x = 1 ∧ p < q ∧ PC h' a B L q (c ++ y.1) s)
variable {t : Nat × Option Pw}
theorem Cw_0 {w : Nat} (F : On (LTc a) h h1) (hw : w ≤ L) (e3 : h1 21 3 = (w : Int)) (e : t = (w, none)) : wp (some (0, h1)) (CRw a B L c s p t h) := wp_i ⟨F, Or.inl ⟨w, e, hw, rfl, e3⟩⟩
theorem Cw_1 {y : Pw} (F : On (LTc a) h h1) (hq : p < q) (P : PC h1 a B L q (c ++ y.1) s) (e : t = (q, some y)) : wp (some (1, h1)) (CRw a B L c s p t h) := wp_i ⟨F, Or.inr ⟨q, y, e, rfl, hq, P⟩⟩
theorem b110_c (ia : IsL a) (b : BOK B L) {y : Pw} {y1 : List Int} (F : On (LTc a) h h1) (hq : p < q) (P : PC h1 a B L q (c ++ y1) (s + 1)) (ey : y.1 = y1 ++ [59]) (e : t = (q, some y)) : wp (Lw_clause_b110 h1 a) (CRw a B L c s p t h) := by
  unfold Lw_clause_b110
  obtain ⟨h3, e3, F3, P3, -⟩ := emit_c ia b P 59
  rw [cC_s (IsL_sh ia).1 rfl, e3, cl_s]
  rw [List.append_assoc, ← ey] at P3
  exact Cw_1 (F.tr F3) hq P3 e
theorem b72_c (ia : IsL a) (b : BOK B L) {bg : Int} {r0 : Rs} (F : On (LTc a) h h1) (W : wp (Lw_unit_f (h1, a, 21, 0, bg)) (CRs a B L c (s + 1) p r0 h)) (e : t = cl2 B L (coP B L (unA B L 6) r0)) : wp (Lw_clause_b72 h1 a 21 bg) (CRw a B L c s p t h) := by
  have hU : CSp a B L (unA B L 6) (fun h => Lw_unit_f (h, a, 21, 0, 0)) := unA_c ia b 6 RF (by have := RF_12; omega) (by omega)
  unfold cl2 at e
  unfold Lw_clause_b72
  rw [cC_s (IsL_sh ia).1 rfl]
  refine wp_CR (co_c ia b hU W) ?_ ?_
  · intro w h' e2 hw F2 e3
    rw [if_pos (show w32 0 = 0 by decide)]
    rw [e2, bnP_n] at e
    exact Cw_0 F2 hw e3 e
  · intro q x h' e2 F2 hq P2
    rw [if_neg (show ¬ w32 1 = 0 by decide), cC_s SH21 rfl]
    rw [e2, bnP_s] at e
    obtain ⟨n1, n2, n3⟩ := nxP_r (B := B) P2.1.2.2.1
    rcases need_c b P2.1 (x := 63) ⟨by decide, by decide⟩ with ⟨c1, e1⟩ | ⟨c1, e1⟩
    · have hl := chP_l c1 (by decide)
      rw [if_pos c1] at e
      rw [e1, cl_s, if_neg (show ¬ w32 1 = 0 by decide)]
      obtain ⟨h3, e3, F3, P3, -⟩ := emit_c ia b (P2.mv ia (q := nxP B L q + 1) (t := s + 1 + 1) (by omega) (by omega)) 63
      rw [e3, cl_s]
      refine wp_CR (suR_c ia b (e := 6) (by omega) h3 _ _ _ P3) ?_ ?_
      · intro w h' e4 hw F4 e5
        rw [if_pos (show w32 0 = 0 by decide)]
        rw [e4, bnP_n] at e
        exact Cw_0 (((F2.tr lt_2).tr F3).tr F4) hw e5 e
      · intro q2 y h' e4 F4 hq2 P4
        rw [if_neg (show ¬ w32 1 = 0 by decide)]
        rw [e4, bnP_s] at e
        have e5 : c ++ x.1 ++ [63] ++ y.1 = c ++ (x.1 ++ [63] ++ y.1) := by simp only [List.append_assoc]
        rw [e5] at P4
        exact b110_c ia b (((F2.tr lt_2).tr F3).tr F4) (by omega) P4 rfl e
    · rw [if_neg c1] at e
      rw [e1, cl_s, if_pos (show w32 0 = 0 by decide)]
      exact Cw_0 ((F2.tr lt_2).tr lt_3) n2 up_at e
theorem un1_c (ia : IsL a) (b : BOK B L) {h0 : Hp} {p0 : Nat} {x : Pl} (F : On (LTc a) h0 h) (hp : p0 < p) (P : PC h a B L p (c ++ x.1) s) (nn : nxP B L p = p) : wp (Lw_unit_f (h, a, 21, 0, 1)) (CRs a B L c s p0 (cmP B L (suA B L 6) p x) h0) := by
  unfold Lw_unit_f
  rw [RF_12, itr_s]
  show wp (Lw_unit_body _ h a 21 0 1) _
  unfold Lw_unit_body Lw_unit_b33
  rw [cC_s SH21 rfl, Tp_next_e b P.1, cl_s, if_neg (show ¬ w32 1 = 0 by decide), if_neg (show ¬ w32 1 = 0 by decide), nn, up_id P.1.2.1]
  exact b48_c ia b (suR_c ia b (e := 6) (by omega)) F hp P rfl
theorem clause_c (ia : IsL a) (b : BOK B L) (P : PC h a B L p c s) : wp (Lw_clause h a 21) (CRw a B L c s p (clP B L p) h) := by
  obtain ⟨n1, n2, n3⟩ := nxP_r (B := B) P.1.2.2.1
  have hU : CSp a B L (unA B L 6) (fun h => Lw_unit_f (h, a, 21, 0, 0)) := unA_c ia b 6 RF (by have := RF_12; omega) (by omega)
  unfold Lw_clause clP
  rw [cC_s SH21 rfl]
  rcases need_c b P.1 (x := 121) ⟨by decide, by decide⟩ with ⟨c1, e1⟩ | ⟨c1, e1⟩
  · have hl := chP_l c1 (by decide)
    have P1 := P.mv ia (q := nxP B L p + 1) (t := s + 1) (by omega) (by omega)
    obtain ⟨m1, m2, m3⟩ := nxP_r (B := B) P1.1.2.2.1
    rw [if_pos c1, e1, cl_s, if_neg (show ¬ w32 1 = 0 by decide)]
    rcases need_c b P1.1 (x := 58) ⟨by decide, by decide⟩ with ⟨c2, e2⟩ | ⟨c2, e2⟩
    · have hl2 := chP_l c2 (by decide)
      have P2 := P1.mv ia (q := nxP B L (nxP B L p + 1) + 1) (t := s + 2) (by omega) (by omega)
      obtain ⟨k1, k2, k3⟩ := nxP_r (B := B) P2.1.2.2.1
      have P3 := P2.mv ia (q := nxP B L (nxP B L (nxP B L p + 1) + 1)) (t := s + 2) k2 (by omega)
      have F3 : On (LTc a) h (up (up (up h 21 2 ((nxP B L p + 1 : Nat) : Int)) 21 2 ((nxP B L (nxP B L p + 1) + 1 : Nat) : Int)) 21 2 ((nxP B L (nxP B L (nxP B L p + 1) + 1) : Nat) : Int)) := (lt_2.tr lt_2).tr lt_2
      rw [if_pos c2, e2, cl_s, if_neg (show ¬ w32 1 = 0 by decide), Tp_next_e b P2.1, cl_s]
      have nn := nxP_nx (B := B) P2.1.2.2.1
      have pk : p < nxP B L (nxP B L (nxP B L p + 1) + 1) := by omega
      generalize nxP B L (nxP B L (nxP B L p + 1) + 1) = q at *
      generalize up (up (up h 21 2 ((nxP B L p + 1 : Nat) : Int)) 21 2 ((nxP B L (nxP B L p + 1) + 1 : Nat) : Int)) 21 2 (q : Int) = h3 at *
      have cb := chP_b (p := q) b
      unfold cl1
      rw [w32_n (x := chP B L q) (by omega) (by omega)]
      have none1 : wp (Lw_clause_b42 h3 a 21 0) (CRw a B L c s p (cl2 B L (coP B L (unA B L 6) (unA B L 6 q))) h) := by
        unfold Lw_clause_b42 Lw_clause_b58
        rw [if_pos (show w32 0 = 0 by decide), if_pos (show w32 0 = 0 by decide)]
        refine b72_c ia b (s := s) F3 (r0 := unA B L 6 q) ?_ rfl
        refine wp_m (hU h3 q (s + 1) c (P3.le (by omega))) ?_
        rintro x h' ⟨F, ⟨w, e, hw, rfl, e3⟩ | ⟨q2, y, e, rfl, hq, P4⟩⟩
        · exact ⟨F3.tr F, Or.inl ⟨w, e, hw, rfl, e3⟩⟩
        · exact ⟨F3.tr F, Or.inr ⟨q2, y, e, rfl, by omega, P4⟩⟩
      by_cases d1 : chP B L q = 33
      · rw [if_pos d1, if_pos (Or.inl d1)]
        exact none1
      · by_cases d2 : chP B L q = 40
        · rw [if_neg d1, if_pos d2, if_pos (Or.inr d2)]
          exact none1
        · rw [if_neg d1, if_neg d2, if_neg (fun e => e.elim d1 d2)]
          unfold Lw_clause_b42
          rw [if_neg (show ¬ w32 1 = 0 by decide), cC_s (IsL_sh ia).1 rfl]
          refine wp_CR (suR_c ia b (e := 6) (by omega) h3 _ _ _ P3) ?_ ?_
          · intro w h' e hw F e3
            rw [if_pos (show w32 0 = 0 by decide), e, bnP_n]
            exact Cw_0 (F3.tr F) hw e3 rfl
          · intro q2 x h' e F hq P4
            obtain ⟨j1, j2, j3⟩ := nxP_r (B := B) P4.1.2.2.1
            have cb2 := chP_b (p := nxP B L q2) b
            rw [if_neg (show ¬ w32 1 = 0 by decide), e, bnP_s]
            unfold Lw_clause_b58
            rw [if_neg (show ¬ w32 1 = 0 by decide), cC_s SH21 rfl, Tp_next_e b P4.1, cl_s]
            have P5 := P4.mv ia (q := nxP B L q2) (t := s + 2) j2 (by omega)
            by_cases d3 : isC (chP B L (nxP B L q2))
            · rw [isC1 cb2 d3, cl_s, if_neg (show ¬ w32 1 = 0 by decide), ifC_1 d3]
              have ec : cmP B L (suA B L 6) q2 x = cmP B L (suA B L 6) (nxP B L q2) x := by
                unfold cmP
                rw [nxP_nx P4.1.2.2.1]
              rw [ec]
              exact b72_c ia b (s := s) ((F3.tr F).tr lt_2) (un1_c ia b ((F3.tr F).tr lt_2) (by omega) (P5.le (t := s + 1) (by omega)) (nxP_nx P4.1.2.2.1)) rfl
            · rw [isC0 cb2 d3, cl_s, if_pos (show w32 0 = 0 by decide), ifC_0 d3]
              exact b110_c ia b ((F3.tr F).tr lt_2) (by omega) (P5.le (t := s + 1) (by omega)) rfl rfl
    · rw [if_neg c2, e2, cl_s, if_pos (show w32 0 = 0 by decide)]
      exact Cw_0 ((lt_2.tr lt_2).tr lt_3) m2 up_at rfl
  · rw [if_neg c1, e1, cl_s, if_pos (show w32 0 = 0 by decide)]
    exact Cw_0 (lt_2.tr lt_3) n2 up_at rfl
theorem law_it (ia : IsL a) (b : BOK B L) {h0 : Hp} : ∀ (f M i p : Nat) (h : Hp) (c : List Int), L < p + f → f < M → i ≤ p → On (LTc a) h0 h → PC h a B L p c 0 → wp (itr (fun k s => Lw_read_b11_body k s.1 s.2.1 s.2.2.1 s.2.2.2) M (h, a, 21, (i : Int))) (fun x h' => On (LTc a) h0 h' ∧ ((∃ w : Nat, laL B L f p = (w, none) ∧ w ≤ L ∧ x = 0 ∧ h' 21 3 = (w : Int)) ∨ ∃ (q : Nat) (y : Pw), laL B L f p = (q, some y) ∧ x = 1 ∧ PC h' a B L q (c ++ y.1) 0)) := by
  intro f
  induction f with
  | zero =>
    intro M i p h c h1 h2 h3 F P
    have := P.1.2.2.1
    omega
  | succ f ih =>
    intro M i p h c h1 h2 h3 F P
    obtain ⟨M, rfl⟩ : ∃ M', M = M' + 1 := ⟨M - 1, by omega⟩
    have L240 := b.1
    have pL := P.1.2.2.1
    rw [itr_s]
    show wp (Lw_read_b11_body _ h a 21 (i : Int)) _
    unfold Lw_read_b11_body
    rw [if_neg (by rw [w32_n (by omega) (by omega)]; omega), cC_s (IsL_sh ia).1 rfl]
    have el : laL B L (f + 1) p = bnP (clP B L p) (fun p' x => if chP B L (nxP B L p') = 0 then (nxP B L p', some x) else if chP B L (nxP B L p') = 59 then bnP (laL B L f (nxP B L p' + 1)) (fun p2 y => (p2, some (x.1 ++ y.1, fun v => orV (x.2 v) (y.2 v)))) else (nxP B L p', none)) := rfl
    rw [el]
    refine wp_cl (clause_c ia b P) ?_
    rintro x h' ⟨F2, ⟨w, e, hw, rfl, e3⟩ | ⟨q, y, e, rfl, hq, P2⟩⟩
    · rw [if_pos (show w32 0 = 0 by decide), e, bnP_n]
      exact wp_i ⟨F.tr F2, Or.inl ⟨w, rfl, hw, rfl, e3⟩⟩
    · obtain ⟨j1, j2, j3⟩ := nxP_r (B := B) P2.1.2.2.1
      have cb := chP_b (p := nxP B L q) b
      have nn := nxP_nx (B := B) P2.1.2.2.1
      have P3 := P2.mv ia (q := nxP B L q) (t := 0) j2 (by omega)
      rw [if_neg (show ¬ w32 1 = 0 by decide), e, bnP_s, cC_s SH21 rfl, Tp_next_e b P2.1, cl_s, w32_n (x := chP B L (nxP B L q)) (by omega) (by omega)]
      by_cases d1 : chP B L (nxP B L q) = 0
      · rw [if_pos d1, if_pos d1]
        exact wp_i ⟨(F.tr F2).tr lt_2, Or.inr ⟨_, y, rfl, rfl, P3⟩⟩
      · rw [if_neg d1, if_neg d1]
        rcases need_c b P3.1 (x := 59) ⟨by decide, by decide⟩ with ⟨c2, e2⟩ | ⟨c2, e2⟩
        · rw [nn] at c2 e2
          have hl := chP_l c2 (by decide)
          rw [if_pos c2, e2, cl_s, if_neg (show ¬ w32 1 = 0 by decide)]
          refine wp_m (ih M (i + 1) (nxP B L q + 1) _ (c ++ y.1) (by omega) (by omega) (by omega) (((F.tr F2).tr lt_2).tr lt_2) (P3.mv ia (q := nxP B L q + 1) (t := 0) (by omega) (by omega))) ?_
          rintro x h4 ⟨F4, ⟨w, e4, hw, rfl, e5⟩ | ⟨q2, z, e4, rfl, P5⟩⟩
          · exact ⟨F4, Or.inl ⟨w, by rw [e4]; rfl, hw, rfl, e5⟩⟩
          · rw [List.append_assoc] at P5
            exact ⟨F4, Or.inr ⟨q2, (y.1 ++ z.1, fun v => orV (y.2 v) (z.2 v)), by rw [e4]; rfl, rfl, P5⟩⟩
        · rw [nn] at c2 e2
          rw [if_neg c2, e2, cl_s, if_pos (show w32 0 = 0 by decide)]
          exact wp_i ⟨(((F.tr F2).tr lt_2).tr lt_2).tr lt_3, Or.inl ⟨_, rfl, j2, rfl, up_at⟩⟩
/-- a law read by the class -/
theorem Lw_read_e (ia : IsL a) (b : BOK B L) (t1 : h 21 1 = (L : Int)) (t2 : ∀ k : Nat, k < L → h 22 (k : Int) = B k) : ∃ (x : Int) (h' : Hp), Lw_read h a 21 = some (x, h') ∧ On (LTc a) h h' ∧ ((∃ w : Nat, laP B L = (w, none) ∧ w ≤ L ∧ x = 0 ∧ h' 21 3 = (w : Int)) ∨ ∃ (q : Nat) (y : Pw), laP B L = (q, some y) ∧ x = 1 ∧ LCo h' a y.1 ∧ y.1.length ≤ 240) := by
  obtain ⟨i1, i2, i3⟩ := id ia
  have W : wp (Lw_read h a 21) (fun x h' => On (LTc a) h h' ∧ ((∃ w : Nat, laP B L = (w, none) ∧ w ≤ L ∧ x = 0 ∧ h' 21 3 = (w : Int)) ∨ ∃ (q : Nat) (y : Pw), laP B L = (q, some y) ∧ x = 1 ∧ LCo h' a y.1 ∧ y.1.length ≤ 240)) := by
    unfold Lw_read Tp_start
    rw [cC_s (IsL_sh ia).1 rfl, pu_s, cC_s SH21 rfl, cC_s SH21 rfl, pu_s, pu_s, cl_s]
    have P : PC (up (up (up h a 2 0) 21 2 0) 21 3 (-1)) a B L 0 [] 0 := by
      refine ⟨⟨?_, ?_, by omega, ?_⟩, ⟨?_, fun i x e => by simp at e⟩, by simp⟩
      · rw [up_off (by decide), up_off (by decide), up_ne (by omega)]; exact t1
      · rw [up_off (by decide), up_at]; rfl
      · intro k hk
        rw [up_ne (by decide), up_ne (by decide), up_ne (by omega)]; exact t2 k hk
      · rw [up_ne (by omega), up_ne (by omega), up_at]; rfl
    have F : On (LTc a) h (up (up (up h a 2 0) 21 2 0) 21 3 (-1)) := ((On.up (Or.inr (Or.inl ⟨rfl, rfl⟩))).tr lt_2).tr lt_3
    refine wp_m (law_it ia b (L + 1) FU 0 0 _ [] (by omega) (FU_gt (by have := b.1; omega)) (by omega) F P) ?_
    rintro x h' ⟨F2, ⟨w, e, hw, rfl, e3⟩ | ⟨q, y, e, rfl, P2⟩⟩
    · exact ⟨F2, Or.inl ⟨w, e, hw, rfl, e3⟩⟩
    · rw [List.nil_append] at P2
      exact ⟨F2, Or.inr ⟨q, y, e, rfl, P2.2.1, by have := P2.2.2; have := P2.1.2.2.1; have := b.1; omega⟩⟩
  obtain ⟨x, h', e, q⟩ := W
  exact ⟨x, h', e, q⟩
end C
end PureLawE
