section PureLawC
/-! the class reads a law: code behind code, as the grammar tells -/
def IsL (a : Int) : Prop := 1000 ≤ a ∧ a < 1050 ∧ a % 10 = 0
theorem IsL_sh {a : Int} (ha : IsL a) : SH a = (2, 0) ∧ SH (a + 1) = (100, 256) ∧ SH (a + 2) = (100, 64) := by
  have key : ∀ n : Nat, n < 5 → SH (1000 + 10 * (n : Int)) = (2, 0) ∧ SH (1000 + 10 * (n : Int) + 1) = (100, 256) ∧ SH (1000 + 10 * (n : Int) + 2) = (100, 64) := by decide +kernel
  obtain ⟨h1, h2, h3⟩ := ha
  have e : a = 1000 + 10 * (((a - 1000) / 10).toNat : Int) := by omega
  rw [e]
  exact key _ (by omega)
def LCo (h : Hp) (a : Int) (c : List Int) : Prop := h a 2 = (c.length : Int) ∧ ∀ (i : Nat) (x : Int), c[i]? = some x → h (a + 1) (i : Int) = x
def PC (h : Hp) (a : Int) (B : Nat → Int) (L p : Nat) (c : List Int) (s : Nat) : Prop := PTp h B L p ∧ LCo h a c ∧ c.length + s ≤ p
def LTc (a x k : Int) : Prop := (x = 21 ∧ (k = 2 ∨ k = 3)) ∨ (x = a ∧ k = 2) ∨ x = a + 1
def CRs (a : Int) (B : Nat → Int) (L : Nat) (c : List Int) (s p : Nat) (r : Rs) (h : Hp) (x : Int) (h' : Hp) : Prop := On (LTc a) h h' ∧ ((∃ w : Nat, r = (w, none) ∧ w ≤ L ∧ x = 0 ∧ h' 21 3 = (w : Int)) ∨ ∃ (q : Nat) (y : Pl), r = (q, some y) ∧ x = 1 ∧ p < q ∧ PC h' a B L q (c ++ y.1) s)
section C
variable {B : Nat → Int} {L p q s : Nat} {h h1 : Hp} {a : Int} {c : List Int} {r : Rs}
theorem lt_2 {a v : Int} {h : Hp} : On (LTc a) h (up h 21 2 v) := On.up (Or.inl ⟨rfl, Or.inl rfl⟩)
theorem lt_3 {a v : Int} {h : Hp} : On (LTc a) h (up h 21 3 v) := On.up (Or.inl ⟨rfl, Or.inr rfl⟩)
theorem PC.mv (P : PC h a B L p c s) (ia : IsL a) {t : Nat} (hq : q ≤ L) (ht : t + p ≤ s + q) : PC (up h 21 2 (q : Int)) a B L q c t := by
  obtain ⟨i1, i2, i3⟩ := ia
  obtain ⟨P1, ⟨P2, P3⟩, P4⟩ := P
  exact ⟨P1.mv hq, ⟨by rw [up_ne (by omega)]; exact P2, fun i x e => by rw [up_ne (by omega)]; exact P3 i x e⟩, by omega⟩
theorem PC.le (P : PC h a B L p c s) {t : Nat} (ht : t ≤ s) : PC h a B L p c t := ⟨P.1, P.2.1, by have := P.2.2; omega⟩
theorem emit_c (ia : IsL a) (b : BOK B L) (P : PC h a B L p c (s + 1)) (x : Int) : ∃ h', Lw_emit h a x = some (0, h') ∧ On (LTc a) h h' ∧ PC h' a B L p (c ++ [x]) s ∧ h' 21 3 = h 21 3 := by
  obtain ⟨i1, i2, i3⟩ := id ia
  obtain ⟨P1, ⟨P2, P3⟩, P4⟩ := P
  have L240 := b.1
  have pl := P1.2.2.1
  obtain ⟨s0, s1, s2⟩ := IsL_sh ia
  refine ⟨up (up h (a + 1) (c.length : Int) x) a 2 ((c.length : Int) + 1), ?_, (On.up (Or.inr (Or.inr rfl))).tr (On.up (Or.inr (Or.inl ⟨rfl, rfl⟩))), ⟨⟨?_, ?_, P1.2.2.1, ?_⟩, ⟨?_, ?_⟩, ?_⟩, ?_⟩
  · unfold Lw_emit
    rw [cC_s s0 rfl, P2, w32_n (by omega) (by omega), if_pos (by omega), put_eq s1 (by omega) (by omega) (by omega) (by omega), cl_s, pu_s, up_ne (h := h) (a := a + 1) (b := a) (by omega), P2]
  · rw [up_ne (by omega), up_ne (by omega)]; exact P1.1
  · rw [up_ne (by omega), up_ne (by omega)]; exact P1.2.1
  · intro k hk
    rw [up_ne (by omega), up_ne (by omega)]; exact P1.2.2.2 k hk
  · rw [up_at, List.length_append]; rfl
  · intro i y e
    rw [up_ne (by omega)]
    by_cases hi : i < c.length
    · rw [List.getElem?_append_left hi] at e
      rw [up_off (by omega)]
      exact P3 i y e
    · rw [List.getElem?_append_right (by omega)] at e
      cases hd : i - c.length with
      | zero =>
        rw [hd] at e
        have : i = c.length := by omega
        subst this
        rw [up_at]
        exact Option.some.inj e
      | succ d => rw [hd] at e; cases e
  · rw [List.length_append]; show c.length + 1 + s ≤ p; omega
  · rw [up_ne (by omega), up_ne (by omega)]
theorem wp_CR {X : Option (Int × Hp)} {K : Int → Hp → Option (Int × Hp)} {Q : Int → Hp → Prop} (W : wp X (CRs a B L c s p r h)) (k0 : ∀ (w : Nat) (h' : Hp), r = (w, none) → w ≤ L → On (LTc a) h h' → h' 21 3 = (w : Int) → wp (K 0 h') Q) (k1 : ∀ (q : Nat) (y : Pl) (h' : Hp), r = (q, some y) → On (LTc a) h h' → p < q → PC h' a B L q (c ++ y.1) s → wp (K 1 h') Q) : wp (cl X K) Q := by
  refine wp_cl W ?_
  rintro x h' ⟨F, ⟨w, e, hw, rfl, e3⟩ | ⟨q, y, e, rfl, hq, P⟩⟩
  · exact k0 w h' e hw F e3
  · exact k1 q y h' e F hq P
theorem CR_0 {w : Nat} (F : On (LTc a) h h1) (hw : w ≤ L) (e3 : h1 21 3 = (w : Int)) (e : r = (w, none)) : wp (some (0, h1)) (CRs a B L c s p r h) := wp_i ⟨F, Or.inl ⟨w, e, hw, rfl, e3⟩⟩
theorem CR_1 {y : Pl} (F : On (LTc a) h h1) (hq : p < q) (P : PC h1 a B L q (c ++ y.1) s) (e : r = (q, some y)) : wp (some (1, h1)) (CRs a B L c s p r h) := wp_i ⟨F, Or.inr ⟨q, y, e, rfl, hq, P⟩⟩
theorem CR_f {w : Nat} (F : On (LTc a) h h1) (hw : w ≤ L) (e2 : h1 21 2 = (w : Int)) (e : r = (w, none)) : wp (cC 8 21 (cl (Tp_fail h1 21) (fun x h' => some (x % 2, h')))) (CRs a B L c s p r h) := by
  rw [cC_s SH21 rfl, Tp_fail_e, cl_s, e2]
  exact wp_i ⟨F.tr lt_3, Or.inl ⟨w, e, hw, rfl, up_at⟩⟩
/-- a sign that must be there -/
theorem need_c (b : BOK B L) (T : PTp h B L p) {x : Int} (hx : 1 ≤ x ∧ x ≤ 127) : (chP B L (nxP B L p) = x ∧ Tp_need h 21 x = some (1, up h 21 2 ((nxP B L p + 1 : Nat) : Int))) ∨ (¬ chP B L (nxP B L p) = x ∧ Tp_need h 21 x = some (0, up (up h 21 2 ((nxP B L p : Nat) : Int)) 21 3 ((nxP B L p : Nat) : Int))) := by
  have cb := chP_b (p := nxP B L p) b
  unfold Tp_need
  rw [cC_s SH21 rfl, Tp_next_e b T, cl_s, w32_n (x := chP B L (nxP B L p)) (by omega) (by omega), w32_n (x := x) (by omega) (by omega), Tp_fail_e, cl_s, up_at, up_up]
  by_cases c : chP B L (nxP B L p) = x
  · rw [if_pos c]; exact Or.inl ⟨c, rfl⟩
  · rw [if_neg c]; exact Or.inr ⟨c, rfl⟩
theorem chP_l {x : Int} (e : chP B L q = x) (hx : 1 ≤ x) : q < L := chP_lt (B := B) (L := L) (p := q) (by rw [e]; omega)
/-- a closing sign behind what was read -/
theorem cls_c (ia : IsL a) (b : BOK B L) {x : Int} (hx : 1 ≤ x ∧ x ≤ 127) {y : Pl} (F : On (LTc a) h h1) (hp : p < q) (P : PC h1 a B L q (c ++ y.1) s) (e : r = clsP B L x q y) : wp (cl (Tp_need h1 21 x) (fun r10 h11 => if w32 r10 = 0 then some (0, h11) else some (1, h11))) (CRs a B L c s p r h) := by
  obtain ⟨n1, n2, n3⟩ := nxP_r (B := B) P.1.2.2.1
  unfold clsP at e
  rcases need_c b P.1 hx with ⟨c1, e1⟩ | ⟨c1, e1⟩
  · have hl := chP_l c1 hx.1
    rw [if_pos c1] at e
    rw [e1, cl_s, if_neg (show ¬ w32 1 = 0 by decide)]
    exact CR_1 (F.tr lt_2) (by omega) (P.mv ia (by omega) (by omega)) e
  · rw [if_neg c1] at e
    rw [e1, cl_s, if_pos (show w32 0 = 0 by decide)]
    exact CR_0 ((F.tr lt_2).tr lt_3) n2 up_at e
/-- what a reader does, as the grammar tells -/
def CSp (a : Int) (B : Nat → Int) (L : Nat) (X : Nat → Rs) (T : Hp → Option (Int × Hp)) : Prop := ∀ (h : Hp) (p s : Nat) (c : List Int), PC h a B L p c s → wp (T h) (CRs a B L c s p (X p) h)
theorem SH5 : SH 5 = (100, 6) := by decide +kernel
theorem wl5 : w32 ((6 : Nat) : Int) = 6 := by decide
theorem lit5q : ∀ k : Nat, k < 6 → ∀ s : Nat, s < 256 → ((stl (5 : Int).toNat).getD ((k : Int)).toNat 0 = (s : Int) ↔ ltI (s : Int) = (k : Int)) := by decide +kernel
theorem ltI_b {x : Int} : -1 ≤ ltI x ∧ ltI x ≤ 5 := by
  unfold ltI
  repeat (first | omega | split)
/-- a letter -/
theorem let_c (ia : IsL a) (b : BOK B L) {kf : Hp × Int × Int × Int → Option (Int × Hp)} (F : On (LTc a) h h1) (hp : p ≤ q) (P : PC h1 a B L q c s) (e : r = if ltI (chP B L q) < 0 then (q, none) else (q + 1, some ([500 + ltI (chP B L q)], fun v => v (ltI (chP B L q))))) : wp (Lw_atom_b105 kf h1 a 21 (chP B L q) 0) (CRs a B L c s p r h) := by
  have cb := chP_b (p := q) b
  have lb := ltI_b (x := chP B L q)
  obtain ⟨sN, hs⟩ : ∃ sN : Nat, chP B L q = (sN : Int) := ⟨(chP B L q).toNat, by omega⟩
  unfold Lw_atom_b105
  refine itr_wpx (fun d σ => ∃ i : Nat, σ = (h1, a, 21, chP B L q, (i : Int)) ∧ i + d = 6 ∧ ∀ j : Nat, j < i → ¬ ltI (chP B L q) = (j : Int)) ?_ (n := 6) (FU_gt (by omega)) ⟨0, rfl, rfl, fun j hj => absurd hj (by omega)⟩
  rintro d σ k ⟨i, rfl, hd, V⟩ K
  show wp (Lw_atom_b105_body kf k h1 a 21 (chP B L q) (i : Int)) _
  unfold Lw_atom_b105_body
  rw [cN_s SH5 (by decide) (by decide), SH5, wl5, w32_n (x := (i : Int)) (by omega) (by omega)]
  by_cases ci : i < 6
  · have e5 := lit5q i ci sN (by omega)
    rw [← hs] at e5
    rw [if_pos (by omega), at_st SH5 (by decide) (by omega) (by omega) (by decide), cl_s, w32_n (x := chP B L q) (by omega) (by omega)]
    have w5 : w32 ((stl (5 : Int).toNat).getD ((i : Int)).toNat 0) = (stl (5 : Int).toNat).getD ((i : Int)).toNat 0 := by
      have : ∀ k : Nat, k < 6 → w32 ((stl (5 : Int).toNat).getD ((k : Int)).toNat 0) = (stl (5 : Int).toNat).getD ((k : Int)).toNat 0 := by decide +kernel
      exact this i ci
    rw [w5]
    by_cases ce : ltI (chP B L q) = (i : Int)
    · have hl := chP_lt (B := B) (L := L) (p := q) (fun z => by rw [z] at ce; have z0 : ltI 0 = -1 := (by decide); omega)
      rw [if_pos (e5.mpr ce), cC_s SH21 rfl, pu_s, P.1.2.1, cC_s (IsL_sh ia).1 rfl]
      have P2 : PC (up h1 21 2 ((q : Int) + 1)) a B L (q + 1) c (s + 1) := P.mv ia (q := q + 1) (by omega) (by omega)
      obtain ⟨h2, e2, F2, P3, -⟩ := emit_c ia b P2 (500 + (i : Int))
      rw [e2, cl_s]
      rw [if_neg (by omega), ce] at e
      exact CR_1 ((F.tr lt_2).tr F2) (by omega) P3 e
    · rw [if_neg (fun z => ce (e5.mp z))]
      refine K (d - 1) _ (by omega) ⟨i + 1, rfl, by omega, fun j hj => ?_⟩
      by_cases ej : j = i
      · rw [ej]; exact ce
      · exact V j (by omega)
  · rw [if_neg (by omega)]
    rw [if_pos (by
      by_cases z : ltI (chP B L q) < 0
      · exact z
      · exact absurd (show ltI (chP B L q) = (((ltI (chP B L q)).toNat : Nat) : Int) by omega) (V _ (by omega)))] at e
    exact CR_f F P.1.2.2.1 P.1.2.1 e
/-- deeper: a reader one level down, or none -/
def Inn (a : Int) (B : Nat → Int) (L : Nat) (inn : Option (Nat → Rs)) (kf : Hp × Int × Int × Int → Option (Int × Hp)) (d : Int) : Prop := 0 ≤ d ∧ ((inn = none ∧ d = 6) ∨ ∃ X, inn = some X ∧ d < 6 ∧ CSp a B L X (fun h => kf (h, a, 21, d + 1)))
theorem atom_c (ia : IsL a) (b : BOK B L) {inn : Option (Nat → Rs)} {kf : Hp × Int × Int × Int → Option (Int × Hp)} {d : Int} (I : Inn a B L inn kf d) : CSp a B L (atP B L inn) (fun h => Lw_atom kf h a 21 d) := by
  intro h p s c P
  obtain ⟨d0, I⟩ := I
  obtain ⟨n1, n2, n3⟩ := nxP_r (B := B) P.1.2.2.1
  have cb := chP_b (p := nxP B L p) b
  have P2 := P.mv ia (q := nxP B L p) (t := s) n2 (by omega)
  show wp (Lw_atom kf h a 21 d) _
  unfold Lw_atom atP
  rw [cC_s SH21 rfl, Tp_next_e b P.1, cl_s, w32_n (x := chP B L (nxP B L p)) (by omega) (by omega)]
  by_cases c1 : chP B L (nxP B L p) = 91
  · have hl := chP_l c1 (by decide)
    rw [if_pos c1, if_pos c1]
    unfold atI
    rcases I with ⟨rfl, rfl⟩ | ⟨X, rfl, d6, S⟩
    · rw [if_neg (show ¬ w32 6 < 6 by decide)]
      have := CR_f (a := a) (B := B) (c := c) (s := s) (p := p) (r := (nxP B L p, none)) (h := h) lt_2 n2 (up_at (h := h) (a := 21) (i := 2) (v := ((nxP B L p : Nat) : Int))) rfl
      rw [cC_s SH21 rfl] at this
      exact this
    · rw [if_pos (by rw [w32_n d0 (by omega)]; omega), pu_s, up_at, cC_s (IsL_sh ia).1 rfl, up_up]
      have P3 := P.mv ia (q := nxP B L p + 1) (t := s) (by omega) (by omega)
      refine wp_CR (S _ _ _ _ P3) ?_ ?_
      · intro w h' e hw F e3
        rw [if_pos (show w32 0 = 0 by decide)]
        exact CR_0 (lt_2.tr F) hw e3 (by show bnP (X (nxP B L p + 1)) _ = _; rw [e]; rfl)
      · intro q y h' e F hq P4
        rw [if_neg (show ¬ w32 1 = 0 by decide)]
        exact cls_c ia b ⟨by decide, by decide⟩ (lt_2.tr F) (by omega) P4 (by show bnP (X (nxP B L p + 1)) _ = _; rw [e]; rfl)
  · rw [if_neg c1, if_neg c1]
    by_cases c2 : isD (chP B L (nxP B L p))
    · rw [Tp_isD1 cb c2, cl_s, if_neg (show ¬ w32 1 = 0 by decide), ifD_1 c2]
      unfold nuP
      have nn := nxP_nx (B := B) P.1.2.2.1
      rcases Tp_number_e b P2.1 (m := 4) (by decide) (by decide) (lo := 0) (hi := 9999) ⟨by decide, by decide⟩ ⟨by decide, by decide⟩ with ⟨w, e1, hw, e2⟩ | ⟨q, v, e1, hq, hq2, v0, v1, -, -, e2⟩
      · rw [nn] at e1
        have e2' : Tp_number (up h 21 2 ((nxP B L p : Nat) : Int)) 21 4 0 9999 = _ := e2
        rw [up_up] at e2'
        rw [e2', cl_s, cC_s (IsL_sh ia).1 rfl, e1]
        have hp : p ≤ w := by
          have := e1
          unfold nuG at this
          rw [ifD_1 c2] at this
          have r1 := (dgP_r b 4 (nxP B L p) 0 n2).1
          have r4 : nxP B L p + 1 ≤ (dgP B L 4 (nxP B L p) 0).1 := by
            show nxP B L p + 1 ≤ (ifD (chP B L (nxP B L p)) (dgP B L 3 (nxP B L p + 1) (10 * 0 + chP B L (nxP B L p) - 48)) (nxP B L p, 0)).1
            rw [ifD_1 c2]
            exact (dgP_r b 3 _ _ (by have := chP_lt (B := B) (L := L) (p := nxP B L p) (fun z => by rw [z] at c2; have := c2.1; omega); omega)).1
          by_cases c3 : isD (chP B L (dgP B L 4 (nxP B L p) 0).1)
          · rw [ifD_1 c3] at this
            have := congrArg Prod.fst this
            dsimp only at this
            omega
          · rw [ifD_0 c3] at this
            by_cases c4 : (dgP B L 4 (nxP B L p) 0).2 < 0 ∨ 9999 < (dgP B L 4 (nxP B L p) 0).2
            · rw [if_pos c4] at this
              have := congrArg Prod.fst this
              dsimp only at this
              omega
            · rw [if_neg c4] at this
              cases this
        have P5 : ∃ s', PC (up (up h 21 2 (w : Int)) 21 3 (w : Int)) a B L w c s' ∧ s' = s + (w - p) := by
          obtain ⟨i1, i2, i3⟩ := id ia
          have P6 := P.mv ia (q := w) (t := s + (w - p)) hw (by omega)
          exact ⟨_, ⟨⟨by rw [up_off (by decide)]; exact P6.1.1, by rw [up_off (by decide)]; exact P6.1.2.1, P6.1.2.2.1, fun k hk => by rw [up_ne (by decide)]; exact P6.1.2.2.2 k hk⟩, ⟨by rw [up_ne (by omega)]; exact P6.2.1.1, fun i x e => by rw [up_ne (by omega)]; exact P6.2.1.2 i x e⟩, P6.2.2⟩, rfl⟩
        obtain ⟨s', P6, hs'⟩ := P5
        have em : ∃ h', Lw_emit (up (up h 21 2 (w : Int)) 21 3 (w : Int)) a (1000 + (if 0 < w32 (-1) then (-1 : Int) else 0)) = some (0, h') ∧ On (LTc a) (up (up h 21 2 (w : Int)) 21 3 (w : Int)) h' ∧ h' 21 3 = (w : Int) := by
          have L240 := b.1
          obtain ⟨i1, i2, i3⟩ := id ia
          have cl := P.2.2
          have pl := P.1.2.2.1
          refine ⟨up (up (up (up h 21 2 (w : Int)) 21 3 (w : Int)) (a + 1) (c.length : Int) (1000 + (if 0 < w32 (-1) then (-1 : Int) else 0))) a 2 ((c.length : Int) + 1), ?_, (On.up (Or.inr (Or.inr rfl))).tr (On.up (Or.inr (Or.inl ⟨rfl, rfl⟩))), ?_⟩
          · unfold Lw_emit
            rw [cC_s (IsL_sh ia).1 rfl, P6.2.1.1, w32_n (by omega) (by omega), if_pos (by omega), put_eq (IsL_sh ia).2.1 (by omega) (by omega) (by omega) (by omega), cl_s, pu_s, up_ne (a := a + 1) (b := a) (by omega), P6.2.1.1]
          · rw [up_ne (by omega), up_ne (by omega), up_at]
        obtain ⟨h7, e7, F7, e73⟩ := em
        rw [e7, cl_s, if_pos (show w32 (-1) = -1 by decide), bnP_n]
        exact CR_0 ((lt_2.tr lt_3).tr F7) hw e73 rfl
      · rw [nn] at e1 hq
        have e2' : Tp_number (up h 21 2 ((nxP B L p : Nat) : Int)) 21 4 0 9999 = _ := e2
        rw [up_up] at e2'
        rw [e2', cl_s, cC_s (IsL_sh ia).1 rfl, e1, bnP_s]
        have P3 := P.mv ia (q := q) (t := s + 1) hq2 (by omega)
        have ev : (if 0 < w32 v then v else 0) = v := by
          rw [w32_n v0 (by omega)]
          by_cases z : 0 < v
          · rw [if_pos z]
          · rw [if_neg z]; omega
        rw [ev]
        obtain ⟨h2, e3, F2, P4, -⟩ := emit_c ia b P3 (1000 + v)
        rw [e3, cl_s, if_neg (by rw [w32_n v0 (by omega)]; omega)]
        exact CR_1 (lt_2.tr F2) (by omega) P4 rfl
    · rw [Tp_isD0 cb c2, cl_s, if_pos (show w32 0 = 0 by decide), ifD_0 c2]
      exact let_c ia b lt_2 n1 P2 rfl
end C
end PureLawC
