section PureCty3
/-! bounds of what is told; the class reads a county to its end -/
def SBd (s : Cst) : Prop := (1 ≤ s.2.2.2.1 0 ∧ s.2.2.2.1 0 ≤ 30) ∧ (0 ≤ s.2.2.2.1 1 ∧ s.2.2.2.1 1 ≤ 99) ∧ (∀ k : Int, 0 ≤ k → k < 3 * (s.2.1 : Int) → 0 ≤ s.2.2.2.2.1 k ∧ s.2.2.2.2.1 k ≤ 9) ∧ (∀ k : Int, 0 ≤ k → k < 3 * (s.2.2.1 : Int) → 0 ≤ s.2.2.2.2.2 k ∧ s.2.2.2.2.2 k ≤ 9) ∧ ∀ w : Nat, w < s.2.2.1 → 1 ≤ s.2.2.2.2.2 (3 * (w : Int) + 2)
def RBd (kd : Int) (r : Int → Int) : Prop := ∀ j : Int, 0 ≤ j → j < 3 → (kd = 0 → j < 2) → leI kd j ≤ r j ∧ r j ≤ moI kd j
section G
variable {B : Nat → Int} {L : Nat}
theorem nuG_b {m : Nat} {lo hi : Int} {q p : Nat} {v : Int} (e : nuG B L m lo hi q = (p, some v)) : lo ≤ v ∧ v ≤ hi := by
  unfold nuG at e
  by_cases c : isD (chP B L q)
  · rw [ifD_1 c] at e
    by_cases c2 : isD (chP B L (dgP B L m q 0).1)
    · rw [ifD_1 c2] at e; cases e
    · rw [ifD_0 c2] at e
      by_cases c3 : (dgP B L m q 0).2 < lo ∨ hi < (dgP B L m q 0).2
      · rw [if_pos c3] at e; cases e
      · rw [if_neg c3] at e
        have := Option.some.inj (congrArg Prod.snd e)
        rw [← this]
        omega
  · rw [ifD_0 c] at e; cases e
theorem itL_b {kd : Int} : ∀ (d p q : Nat) (met : Int) (r y : Int → Int), RBd kd r → itL B L kd d p met r = (q, some y) → RBd kd y
  | 0, p, q, met, r, y, h, e => by cases e
  | d + 1, p, q, met, r, y, h, e => by
    have e : (if itI kd (chP B L (nxP B L p)) < 0 then (nxP B L p, some r) else ifH met (itI kd (chP B L (nxP B L p))) (nxP B L p, none) (bnP (nuG B L 2 (leI kd (itI kd (chP B L (nxP B L p)))) (moI kd (itI kd (chP B L (nxP B L p)))) (nxP B L (nxP B L p + 1))) (fun p' v => itL B L kd d p' (ior met (ishl 1 (itI kd (chP B L (nxP B L p))))) (ud r (itI kd (chP B L (nxP B L p))) v)))) = (q, some y) := e
    by_cases c : itI kd (chP B L (nxP B L p)) < 0
    · rw [if_pos c] at e
      have := Option.some.inj (congrArg Prod.snd e)
      rw [← this]; exact h
    · rw [if_neg c] at e
      by_cases ch : hbP met (itI kd (chP B L (nxP B L p)))
      · rw [ifH_1 ch] at e; cases e
      · rw [ifH_0 ch] at e
        obtain ⟨p1, v, e1, e2⟩ := bnP_i e
        have vb := nuG_b e1
        refine itL_b d p1 q _ _ y (fun j j0 j1 j2 => ?_) e2
        by_cases z : j = itI kd (chP B L (nxP B L p))
        · rw [z, ud_at]; exact vb
        · rw [ud_ne z]; exact h j j0 j1 j2
theorem us_b {kd : Int} (h : kd = 0 ∨ kd = 1 ∨ kd = 2) : RBd kd (usI kd) := by
  intro j j0 j1 j2
  have : j = 0 ∨ j = 1 ∨ j = 2 := by omega
  rcases h with e | e | e <;> subst e <;> rcases this with e | e | e <;> subst e
  · exact ⟨by decide, by decide⟩
  · exact ⟨by decide, by decide⟩
  · exact absurd (j2 rfl) (by decide)
  · exact ⟨by decide, by decide⟩
  · exact ⟨by decide, by decide⟩
  · exact ⟨by decide, by decide⟩
  · exact ⟨by decide, by decide⟩
  · exact ⟨by decide, by decide⟩
  · exact ⟨by decide, by decide⟩
theorem cyC_b {s t : Cst} {p q : Nat} (b : SBd s) (o : SOk s) (e : cyC B L s p = (q, some t)) : SBd t ∧ SOk t := by
  obtain ⟨b1, b2, b3, b4, b5⟩ := b
  obtain ⟨o1, o2, o3⟩ := o
  unfold cyC at e
  by_cases c1 : chP B L (nxP B L p) = 115 ∧ s.1 = 0
  · rw [if_pos c1] at e
    obtain ⟨p1, r, e1, e2⟩ := bnP_i e
    have rb := itL_b 4 _ _ _ _ _ (us_b (Or.inl rfl)) e1
    have ez := Option.some.inj (congrArg Prod.snd e2)
    subst ez
    have r0 := rb 0 (by decide) (by decide) (fun _ => by decide)
    have r1 := rb 1 (by decide) (by decide) (fun _ => by decide)
    exact ⟨⟨r0, r1, b3, b4, b5⟩, Or.inr rfl, o2, o3⟩
  · rw [if_neg c1] at e
    by_cases c2 : chP B L (nxP B L p) = 112 ∧ s.2.1 < 6
    · rw [if_pos c2] at e
      obtain ⟨p1, r, e1, e2⟩ := bnP_i e
      have rb := itL_b 4 _ _ _ _ _ (us_b (Or.inr (Or.inl rfl))) e1
      have ez := Option.some.inj (congrArg Prod.snd e2)
      subst ez
      refine ⟨⟨b1, b2, fun k k0 k1 => ?_, b4, b5⟩, o1, by show s.2.1 + 1 ≤ 6; omega, o3⟩
      have k1' : k < 3 * ((s.2.1 + 1 : Nat) : Int) := k1
      show 0 ≤ iRow s.2.1 s.2.2.2.2.1 r k ∧ iRow s.2.1 s.2.2.2.2.1 r k ≤ 9
      unfold iRow
      by_cases z : 3 * (s.2.1 : Int) ≤ k
      · rw [if_pos z]
        exact rb _ (by omega) (by omega) (fun q => absurd q (by decide))
      · rw [if_neg z]; exact b3 k k0 (by omega)
    · rw [if_neg c2] at e
      by_cases c3 : chP B L (nxP B L p) = 119 ∧ s.2.2.1 < 8
      · rw [if_pos c3] at e
        obtain ⟨p1, r, e1, e2⟩ := bnP_i e
        have rb := itL_b 4 _ _ _ _ _ (us_b (Or.inr (Or.inr rfl))) e1
        have ez := Option.some.inj (congrArg Prod.snd e2)
        subst ez
        have rb0 := rb 0 (by decide) (by decide) (fun q => absurd q (by decide))
        have rb1 := rb 1 (by decide) (by decide) (fun q => absurd q (by decide))
        have rb2 := rb 2 (by decide) (by decide) (fun q => absurd q (by decide))
        have t0 : leI 2 0 = 0 ∧ moI 2 0 = 5 ∧ leI 2 1 = 0 ∧ moI 2 1 = 5 ∧ leI 2 2 = 1 ∧ moI 2 2 = 9 := by decide
        refine ⟨⟨b1, b2, b3, fun k k0 k1 => ?_, fun w hw => ?_⟩, o1, o2, by show s.2.2.1 + 1 ≤ 8; omega⟩
        · have k1' : k < 3 * ((s.2.2.1 + 1 : Nat) : Int) := k1
          show 0 ≤ iRow s.2.2.1 s.2.2.2.2.2 r k ∧ iRow s.2.2.1 s.2.2.2.2.2 r k ≤ 9
          unfold iRow
          by_cases z : 3 * (s.2.2.1 : Int) ≤ k
          · rw [if_pos z]
            have : k - 3 * (s.2.2.1 : Int) = 0 ∨ k - 3 * (s.2.2.1 : Int) = 1 ∨ k - 3 * (s.2.2.1 : Int) = 2 := by omega
            rcases this with q | q | q <;> rw [q] <;> omega
          · rw [if_neg z]; exact b4 k k0 (by omega)
        · have hw' : w < s.2.2.1 + 1 := hw
          show 1 ≤ iRow s.2.2.1 s.2.2.2.2.2 r (3 * (w : Int) + 2)
          unfold iRow
          by_cases z : 3 * (s.2.2.1 : Int) ≤ 3 * (w : Int) + 2
          · have q : 3 * (w : Int) + 2 - 3 * (s.2.2.1 : Int) = 2 := by omega
            rw [if_pos z, q]; omega
          · rw [if_neg z]; exact b5 w (by omega)
      · rw [if_neg c3] at e; cases e
theorem cyL_b : ∀ (d p q : Nat) (s t : Cst), SBd s → SOk s → cyL B L d p s = (q, some t) → SBd t ∧ SOk t ∧ whP t.2.1 t.2.2.1 t.2.2.2.2.2
  | 0, p, q, s, t, b, o, e => by cases e
  | d + 1, p, q, s, t, b, o, e => by
    obtain ⟨p1, u, e1, e2⟩ := bnP_i (e : bnP (cyC B L s p) (fun q t => if chP B L q = 59 then cyL B L d (q + 1) t else if chP B L q = 0 then ifW t.2.1 t.2.2.1 t.2.2.2.2.2 (q, some t) (q, none) else (q, none)) = (q, some t))
    obtain ⟨u1, u2⟩ := cyC_b b o e1
    by_cases c : chP B L p1 = 59
    · rw [if_pos c] at e2
      exact cyL_b d _ q u t u1 u2 e2
    · rw [if_neg c] at e2
      by_cases c2 : chP B L p1 = 0
      · rw [if_pos c2] at e2
        by_cases wh : whP u.2.1 u.2.2.1 u.2.2.2.2.2
        · rw [ifW_1 wh] at e2
          have ez := Option.some.inj (congrArg Prod.snd e2)
          subst ez
          exact ⟨u1, u2, wh⟩
        · rw [ifW_0 wh] at e2; cases e2
      · rw [if_neg c2] at e2; cases e2
theorem s0_b : SBd (0, 0, 0, usI 0, fun _ => 0, fun _ => 0) ∧ SOk (0, 0, 0, usI 0, fun _ => 0, fun _ => 0) := by
  refine ⟨⟨⟨by decide, by decide⟩, ⟨by decide, by decide⟩, fun k k0 k1 => ?_, fun k k0 k1 => ?_, fun w hw => absurd hw (by show ¬ w < 0; omega)⟩, Or.inl rfl, by decide, by decide⟩
  · exact absurd k1 (by show ¬ k < 3 * ((0 : Nat) : Int); omega)
  · exact absurd k1 (by show ¬ k < 3 * ((0 : Nat) : Int); omega)
theorem cyP_b {q : Nat} {t : Cst} (e : cyP B L = (q, some t)) : SBd t ∧ SOk t ∧ whP t.2.1 t.2.2.1 t.2.2.2.2.2 := cyL_b _ _ _ _ _ s0_b.1 s0_b.2 e
end G
section C
variable {B : Nat → Int} {L p q : Nat} {h h1 : Hp} {c : Int} {s : Cst}
theorem whole_c (y : IsY c) (A : CyA h c s) (b : SBd s) (o : SOk s) : Cy_isWhole h c = some (ifW s.2.1 s.2.2.1 s.2.2.2.2.2 1 0, h) := by
  obtain ⟨y0, y1, y2, y3⟩ := IsY_sh y
  obtain ⟨a1, a2, a3, a4, a5, a6⟩ := A
  obtain ⟨o1, o2, o3⟩ := o
  have c30 : 30 ≤ c ∧ c ≤ 40 := by rcases y with e | e <;> omega
  have L : ∀ x0 : Int, (x0 = 1 ∧ 2 ≤ s.2.1) ∨ (x0 = 0 ∧ ¬ 2 ≤ s.2.1) → wp (Cy_isWhole_b16 h c x0 0) (fun r h' => h' = h ∧ r = ifW s.2.1 s.2.2.1 s.2.2.2.2.2 1 0) := by
    intro x0 hx0
    unfold Cy_isWhole_b16
    refine itr_wp (fun i σ => ∃ x : Int, σ = (h, c, x, (i : Int)) ∧ ((x = 1 ∧ 2 ≤ s.2.1 ∧ ∀ w : Nat, w < i → s.2.2.2.2.2 (3 * (w : Int)) < s.2.1 ∧ s.2.2.2.2.2 (3 * (w : Int) + 1) < s.2.1 ∧ s.2.2.2.2.2 (3 * (w : Int)) ≠ s.2.2.2.2.2 (3 * (w : Int) + 1)) ∨ (x = 0 ∧ ¬ whP s.2.1 s.2.2.1 s.2.2.2.2.2))) s.2.2.1 ?_ ?_ (FU_gt (by omega)) ⟨x0, rfl, ?_⟩
    · rintro i σ k hi ⟨x, rfl, hx⟩ K
      show wp (Cy_isWhole_b16_body k h c x (i : Int)) _
      unfold Cy_isWhole_b16_body
      have w0 := b.2.2.2.1 (3 * (i : Int)) (by omega) (by omega)
      have w1 := b.2.2.2.1 (3 * (i : Int) + 1) (by omega) (by omega)
      have e0 : Cy_whoOf h c (i : Int) = some (s.2.2.2.2.2 (3 * (i : Int)), h) := by
        unfold Cy_whoOf
        rw [cC_s y0 rfl, at_eq y3 (by omega) (by omega) (by omega) (by omega), cl_s, a6 _ (by omega) (by omega)]
      have e1 : Cy_whomOf h c (i : Int) = some (s.2.2.2.2.2 (3 * (i : Int) + 1), h) := by
        unfold Cy_whomOf
        rw [cC_s y0 rfl, at_eq y3 (by omega) (by omega) (by omega) (by omega), cl_s, a6 _ (by omega) (by omega)]
      rw [cC_s y0 rfl, a3, w32_n (x := (i : Int)) (by omega) (by omega), w32_n (x := (s.2.2.1 : Int)) (by omega) (by omega), if_pos (by omega), e0, cl_s, e1, cl_s, e0, cl_s, e1, cl_s, a2, w32_n (x := s.2.2.2.2.2 (3 * (i : Int))) (by omega) (by omega), w32_n (x := s.2.2.2.2.2 (3 * (i : Int) + 1)) (by omega) (by omega), w32_n (x := (s.2.1 : Int)) (by omega) (by omega)]
      have bad : ¬ (s.2.2.2.2.2 (3 * (i : Int)) < s.2.1 ∧ s.2.2.2.2.2 (3 * (i : Int) + 1) < s.2.1 ∧ s.2.2.2.2.2 (3 * (i : Int)) ≠ s.2.2.2.2.2 (3 * (i : Int) + 1)) → wp (k (h, c, 0, (i : Int) + 1)) (fun r h' => h' = h ∧ r = ifW s.2.1 s.2.2.1 s.2.2.2.2.2 1 0) := fun z => K _ ⟨0, rfl, Or.inr ⟨rfl, fun wh => z (wh.2 i hi)⟩⟩
      rcases hx with ⟨rfl, n2, T⟩ | ⟨rfl, T⟩
      · rw [if_neg (show ¬ w32 1 = 0 by decide)]
        by_cases z1 : s.2.2.2.2.2 (3 * (i : Int)) < s.2.1
        · rw [if_pos z1]
          by_cases z2 : s.2.2.2.2.2 (3 * (i : Int) + 1) < s.2.1
          · rw [if_pos z2]
            by_cases z3 : s.2.2.2.2.2 (3 * (i : Int)) = s.2.2.2.2.2 (3 * (i : Int) + 1)
            · rw [if_pos z3]; exact bad (fun z => z.2.2 z3)
            · rw [if_neg z3]
              refine K _ ⟨1, rfl, Or.inl ⟨rfl, n2, fun w hw => ?_⟩⟩
              by_cases e : w = i
              · subst e; exact ⟨z1, z2, z3⟩
              · exact T w (by omega)
          · rw [if_neg z2]; exact bad (fun z => z2 z.2.1)
        · rw [if_neg z1]; exact bad (fun z => z1 z.1)
      · rw [if_pos (show w32 0 = 0 by decide)]
        exact K _ ⟨0, rfl, Or.inr ⟨rfl, T⟩⟩
    · rintro σ k ⟨x, rfl, hx⟩
      show wp (Cy_isWhole_b16_body k h c x (s.2.2.1 : Int)) _
      unfold Cy_isWhole_b16_body
      rw [cC_s y0 rfl, a3, if_neg (Int.lt_irrefl _)]
      rcases hx with ⟨rfl, n2, T⟩ | ⟨rfl, T⟩
      · exact wp_i ⟨rfl, by rw [ifW_1 ⟨n2, T⟩]; rfl⟩
      · exact wp_i ⟨rfl, by rw [ifW_0 T]; rfl⟩
    · rcases hx0 with ⟨e, q⟩ | ⟨e, q⟩
      · exact Or.inl ⟨e, q, fun w hw => absurd hw (by omega)⟩
      · exact Or.inr ⟨e, fun wh => q wh.1⟩
  unfold Cy_isWhole
  rw [cC_s y0 rfl, a2, w32_n (x := (s.2.1 : Int)) (by omega) (by omega)]
  by_cases z : (s.2.1 : Int) < 2
  · obtain ⟨r, h', e, rfl, rfl⟩ := L 0 (Or.inr ⟨rfl, by omega⟩)
    rw [if_pos z]; exact e
  · obtain ⟨r, h', e, rfl, rfl⟩ := L 1 (Or.inl ⟨rfl, by omega⟩)
    rw [if_neg z]; exact e
theorem cty_it (b : BOK B L) (y : IsY c) {h0 : Hp} : ∀ (f M i p : Nat) (h : Hp) (s : Cst), L < p + f → f < M → i ≤ p → On (CTc c) h0 h → PTp h B L p → CyA h c s → SBd s → SOk s → wp (itr (fun k s => Cy_read_b30_body k s.1 s.2.1 s.2.2.1 s.2.2.2) M (h, c, 21, (i : Int))) (fun x h' => On (CTc c) h0 h' ∧ ((∃ w : Nat, cyL B L f p s = (w, none) ∧ w ≤ L ∧ x = 0 ∧ h' 21 3 = (w : Int)) ∨ ∃ (q : Nat) (t : Cst), cyL B L f p s = (q, some t) ∧ x = 1 ∧ CyA h' c t)) := by
  obtain ⟨y0, y1, y2, y3⟩ := IsY_sh y
  intro f
  induction f with
  | zero =>
    intro M i p h s h1 h2 h3 F T
    have := T.2.2.1
    omega
  | succ f ih =>
    intro M i p h s h1 h2 h3 F T A sb so
    obtain ⟨M, rfl⟩ : ∃ M', M = M' + 1 := ⟨M - 1, by omega⟩
    have L240 := b.1
    have pL := T.2.2.1
    rw [itr_s]
    show wp (Cy_read_b30_body _ h c 21 (i : Int)) _
    unfold Cy_read_b30_body
    rw [if_neg (by rw [w32_n (by omega) (by omega)]; omega), cC_s y0 rfl]
    have el : cyL B L (f + 1) p s = bnP (cyC B L s p) (fun q t => if chP B L q = 59 then cyL B L f (q + 1) t else if chP B L q = 0 then ifW t.2.1 t.2.2.1 t.2.2.2.2.2 (q, some t) (q, none) else (q, none)) := rfl
    rw [el]
    refine wp_cl (clause_y b y T A so) ?_
    rintro x h' ⟨F2, ⟨w, hw, rfl, e3, e4⟩ | ⟨q, t, e, rfl, hq, cq, T2, A2, -⟩⟩
    · rw [if_pos (show w32 0 = 0 by decide)]
      refine wp_i ⟨F.tr F2, Or.inl ⟨w, ?_, hw, rfl, e3⟩⟩
      rcases e4 with e4 | ⟨t, e4, c1, c2⟩
      · rw [e4]; rfl
      · rw [e4, bnP_s, if_neg c2, if_neg c1]
    · obtain ⟨sb2, so2⟩ := cyC_b sb so e
      have nn : nxP B L q = q := nxP_o (fun z => by
        have e5 : chP B L q = B q := if_pos z.1
        have := z.2
        rcases cq with c | c <;> omega)
      have cb := chP_b (p := q) b
      have lk := Tp_next_e b T2
      rw [nn, up_id T2.2.1] at lk
      rw [if_neg (show ¬ w32 1 = 0 by decide), e, bnP_s, cC_s SH21 rfl, lk, cl_s, w32_n (x := chP B L q) (by omega) (by omega)]
      rcases cq with cq | cq
      · rw [if_pos cq, if_neg (by omega), if_pos cq, whole_c y A2 sb2 so2, cl_s]
        by_cases wh : whP t.2.1 t.2.2.1 t.2.2.2.2.2
        · rw [ifW_1 wh, ifW_1 wh, if_neg (show ¬ w32 1 = 0 by decide)]
          exact wp_i ⟨F.tr F2, Or.inr ⟨q, t, rfl, rfl, A2⟩⟩
        · rw [ifW_0 wh, ifW_0 wh, if_pos (show w32 0 = 0 by decide), Tp_fail_e, cl_s, if_pos (show w32 0 = 0 by decide), T2.2.1]
          exact wp_i ⟨(F.tr F2).tr ct_3, Or.inl ⟨q, rfl, T2.2.2.1, rfl, up_at⟩⟩
      · have hl := chP_l cq (by decide)
        rw [if_neg (by omega), if_pos cq]
        rcases need_c b T2 (x := 59) ⟨by decide, by decide⟩ with ⟨c2, e2⟩ | ⟨c2, e2⟩
        · rw [nn] at e2
          have y30 : 30 ≤ c ∧ c ≤ 40 := by rcases y with e | e <;> omega
          rw [e2, cl_s, if_neg (show ¬ w32 1 = 0 by decide)]
          refine ih M (i + 1) (q + 1) _ t (by omega) (by omega) (by omega) ((F.tr F2).tr ct_2) (T2.mv (q := q + 1) (by omega)) ?_ sb2 so2
          obtain ⟨a1, a2, a3, a4, a5, a6⟩ := A2
          exact ⟨by rw [up_ne (by omega)]; exact a1, by rw [up_ne (by omega)]; exact a2, by rw [up_ne (by omega)]; exact a3, by rw [up_off_row (by omega)]; exact a4, by rw [up_off_row (by omega)]; exact a5, by rw [up_off_row (by omega)]; exact a6⟩
        · rw [nn] at c2
          exact absurd cq c2
theorem Cy_read_e (b : BOK B L) (y : IsY c) (t1 : h 21 1 = (L : Int)) (t2 : ∀ k : Nat, k < L → h 22 (k : Int) = B k) : ∃ (x : Int) (h' : Hp), Cy_read h c 21 = some (x, h') ∧ On (CTc c) h h' ∧ ((∃ w : Nat, cyP B L = (w, none) ∧ w ≤ L ∧ x = 0 ∧ h' 21 3 = (w : Int)) ∨ ∃ (q : Nat) (t : Cst), cyP B L = (q, some t) ∧ x = 1 ∧ CyA h' c t) := by
  obtain ⟨y0, y1, y2, y3⟩ := IsY_sh y
  have c30 : 30 ≤ c ∧ c ≤ 40 := by rcases y with e | e <;> omega
  have W : wp (Cy_read h c 21) (fun x h' => On (CTc c) h h' ∧ ((∃ w : Nat, cyP B L = (w, none) ∧ w ≤ L ∧ x = 0 ∧ h' 21 3 = (w : Int)) ∨ ∃ (q : Nat) (t : Cst), cyP B L = (q, some t) ∧ x = 1 ∧ CyA h' c t)) := by
    unfold Cy_read Tp_start
    rw [cC_s y0 rfl, pu_s, pu_s, pu_s]
    have F0 : On (CTc c) h (up (up (up h c 3 0) c 4 0) c 5 0) := ((On.up (Or.inr (Or.inl ⟨rfl, Or.inl rfl⟩))).tr (On.up (Or.inr (Or.inl ⟨rfl, Or.inr (Or.inl rfl)⟩)))).tr (On.up (Or.inr (Or.inl ⟨rfl, Or.inr (Or.inr rfl)⟩)))
    obtain ⟨h1, e1, F1, I1⟩ := fillIn_e (h := up (up (up h c 3 0) c 4 0) c 5 0) (R := c + 1) (fr0 := 0) (sz := 3) ⟨y1, by omega, by omega, by omega, by omega⟩ (kd := 0) (by decide)
    have r1 : ∀ a : Int, a ≠ c + 1 → h1 a = up (up (up h c 3 0) c 4 0) c 5 0 a := fun a ha => F1.row (fun k q => ha q.1)
    have e1' : Cy_fillIn (up (up (up h c 3 0) c 4 0) c 5 0) 0 (c + 1) 0 = some (0, h1) := e1
    rw [e1', cl_s, cC_s SH21 rfl, cC_s SH21 rfl, pu_s, pu_s, cl_s]
    have F2 : On (CTc c) h (up (up h1 21 2 0) 21 3 (-1)) := ((F0.tr (F1.w (fun x k q => Or.inr (Or.inr (Or.inl q.1))))).tr ct_2).tr ct_3
    have T : PTp (up (up h1 21 2 0) 21 3 (-1)) B L 0 := by
      refine ⟨?_, ?_, by omega, fun k hk => ?_⟩
      · rw [up_off (by decide), up_off (by decide), r1 21 (by omega), up_ne (by omega), up_ne (by omega), up_ne (by omega)]; exact t1
      · rw [up_off (by decide), up_at]; rfl
      · rw [up_ne (by decide), up_ne (by decide), r1 22 (by omega), up_ne (by omega), up_ne (by omega), up_ne (by omega)]; exact t2 k hk
    have A : CyA (up (up h1 21 2 0) 21 3 (-1)) c (0, 0, 0, usI 0, fun _ => 0, fun _ => 0) := by
      have rc : up (up h1 21 2 0) 21 3 (-1) c = up (up (up h c 3 0) c 4 0) c 5 0 c := by rw [up_off_row (by omega), up_off_row (by omega), r1 c (by omega)]
      refine ⟨?_, ?_, ?_, fun k k0 k1 => ?_, fun k k0 k1 => ?_, fun k k0 k1 => ?_⟩
      · rw [rc, up_off (by decide), up_off (by decide), up_at]
      · rw [rc, up_off (by decide), up_at]; rfl
      · rw [rc, up_at]; rfl
      · rw [up_off_row (by omega), up_off_row (by omega)]
        have := I1 k k0 (by omega)
        rw [Int.zero_add] at this
        exact this
      · exact absurd k1 (by show ¬ k < 3 * ((0 : Nat) : Int); omega)
      · exact absurd k1 (by show ¬ k < 3 * ((0 : Nat) : Int); omega)
    exact cty_it b y (L + 1) FU 0 0 _ _ (by omega) (FU_gt (by have := b.1; omega)) (by omega) F2 T A s0_b.1 s0_b.2
  obtain ⟨x, h', e, q⟩ := W
  exact ⟨x, h', e, q⟩
end C
end PureCty3
