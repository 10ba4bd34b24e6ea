section PureSess
/-! A SESSION told: the grammar; the class reads it -/
def stI (c : Int) : Int := if c = 115 then 0 else if c = 101 then 1 else if c = 97 then 2 else if c = 112 then 3 else -1
def dnI (k : Int) : Int := if k = 0 then 1 else if k = 1 then 0 else 2
def stR (k d1 d2 : Int) : Int → Int := fun j => if j = 0 then k else if j = 1 then d1 else d2
abbrev Sst : Type := Nat × (Int → Int)
section G
variable (B : Nat → Int) (L : Nat)
def dgO (D w : Int) (p : Nat) : Nat × Option Int := if D < w then (p, some (-1)) else ifD (chP B L (nxP B L p)) (nxP B L p + 1, some (chP B L (nxP B L p) - 48)) (nxP B L p, none)
def stP (p : Nat) : Nat × Option (Int → Int) := if stI (chP B L (nxP B L p)) < 0 then (nxP B L p, none) else bnP (dgO B L (dnI (stI (chP B L (nxP B L p)))) 1 (nxP B L p + 1)) (fun q d1 => bnP (dgO B L (dnI (stI (chP B L (nxP B L p)))) 2 q) (fun q2 d2 => (q2, some (stR (stI (chP B L (nxP B L p))) d1 d2))))
def ssL : Nat → Nat → Sst → Nat × Option Sst
  | 0, p, _ => (p, none)
  | d + 1, p, s => bnP (stP B L p) (fun q x => if chP B L (nxP B L q) = 0 then (nxP B L q, some (s.1 + 1, iRow s.1 s.2 x)) else if d = 0 then (nxP B L q, none) else if chP B L (nxP B L q) = 59 then ssL d (nxP B L q + 1) (s.1 + 1, iRow s.1 s.2 x) else (nxP B L q, none))
def ssP : Nat × Option Sst := ssL B L 16 0 (0, fun _ => 0)
end G
def StB (x : Int → Int) : Prop := (0 ≤ x 0 ∧ x 0 ≤ 3) ∧ (-1 ≤ x 1 ∧ x 1 ≤ 9) ∧ (-1 ≤ x 2 ∧ x 2 ≤ 9)
def SsB (s : Sst) : Prop := s.1 ≤ 16 ∧ ∀ i : Nat, i < s.1 → StB (fun j => s.2 (3 * (i : Int) + j))
theorem stI_b (c : Int) : -1 ≤ stI c ∧ stI c ≤ 3 := by
  unfold stI
  repeat (first | omega | split)
section B
variable {B : Nat → Int} {L : Nat}
theorem dgO_b {D w : Int} {p q : Nat} {v : Int} (e : dgO B L D w p = (q, some v)) : -1 ≤ v ∧ v ≤ 9 := by
  unfold dgO at e
  by_cases c : D < w
  · rw [if_pos c] at e
    have := Option.some.inj (congrArg Prod.snd e)
    omega
  · rw [if_neg c] at e
    by_cases d : isD (chP B L (nxP B L p))
    · rw [ifD_1 d] at e
      have := Option.some.inj (congrArg Prod.snd e)
      obtain ⟨d1, d2⟩ := d
      omega
    · rw [ifD_0 d] at e; cases e
theorem stP_b {p q : Nat} {x : Int → Int} (e : stP B L p = (q, some x)) : StB x := by
  unfold stP at e
  by_cases c : stI (chP B L (nxP B L p)) < 0
  · rw [if_pos c] at e; cases e
  · rw [if_neg c] at e
    obtain ⟨p1, d1, e1, e2⟩ := bnP_i e
    obtain ⟨p2, d2, e3, e4⟩ := bnP_i e2
    have ez := Option.some.inj (congrArg Prod.snd e4)
    subst ez
    have := stI_b (chP B L (nxP B L p))
    exact ⟨by show 0 ≤ stI (chP B L (nxP B L p)) ∧ stI (chP B L (nxP B L p)) ≤ 3; omega, dgO_b e1, dgO_b e3⟩
theorem iRow_b {s : Sst} {x : Int → Int} (b : SsB s) (hx : StB x) (h16 : s.1 < 16) : SsB (s.1 + 1, iRow s.1 s.2 x) := by
  refine ⟨by show s.1 + 1 ≤ 16; omega, fun i hi => ?_⟩
  have hi' : i < s.1 + 1 := hi
  by_cases z : i < s.1
  · have e : (fun j => iRow s.1 s.2 x (3 * (i : Int) + j)) = fun j => if 3 * (s.1 : Int) ≤ 3 * (i : Int) + j then x (3 * (i : Int) + j - 3 * (s.1 : Int)) else s.2 (3 * (i : Int) + j) := rfl
    have k := b.2 i z
    unfold StB at k ⊢
    show (0 ≤ iRow s.1 s.2 x (3 * (i : Int) + 0) ∧ iRow s.1 s.2 x (3 * (i : Int) + 0) ≤ 3) ∧ (-1 ≤ iRow s.1 s.2 x (3 * (i : Int) + 1) ∧ iRow s.1 s.2 x (3 * (i : Int) + 1) ≤ 9) ∧ (-1 ≤ iRow s.1 s.2 x (3 * (i : Int) + 2) ∧ iRow s.1 s.2 x (3 * (i : Int) + 2) ≤ 9)
    unfold iRow
    rw [if_neg (by omega), if_neg (by omega), if_neg (by omega)]
    exact k
  · have e : i = s.1 := by omega
    subst e
    show (0 ≤ iRow s.1 s.2 x (3 * (s.1 : Int) + 0) ∧ iRow s.1 s.2 x (3 * (s.1 : Int) + 0) ≤ 3) ∧ (-1 ≤ iRow s.1 s.2 x (3 * (s.1 : Int) + 1) ∧ iRow s.1 s.2 x (3 * (s.1 : Int) + 1) ≤ 9) ∧ (-1 ≤ iRow s.1 s.2 x (3 * (s.1 : Int) + 2) ∧ iRow s.1 s.2 x (3 * (s.1 : Int) + 2) ≤ 9)
    unfold iRow
    have e0 : 3 * (s.1 : Int) + 0 - 3 * (s.1 : Int) = 0 := by omega
    have e1 : 3 * (s.1 : Int) + 1 - 3 * (s.1 : Int) = 1 := by omega
    have e2 : 3 * (s.1 : Int) + 2 - 3 * (s.1 : Int) = 2 := by omega
    rw [if_pos (by omega), if_pos (by omega), if_pos (by omega), e0, e1, e2]
    exact hx
theorem ssL_b : ∀ (d p q : Nat) (s t : Sst), s.1 + d ≤ 16 → SsB s → ssL B L d p s = (q, some t) → SsB t ∧ 1 ≤ t.1
  | 0, p, q, s, t, h, b, e => by cases e
  | d + 1, p, q, s, t, h, b, e => by
    obtain ⟨p1, x, e1, e2⟩ := bnP_i (e : bnP (stP B L p) (fun q x => if chP B L (nxP B L q) = 0 then (nxP B L q, some (s.1 + 1, iRow s.1 s.2 x)) else if d = 0 then (nxP B L q, none) else if chP B L (nxP B L q) = 59 then ssL B L d (nxP B L q + 1) (s.1 + 1, iRow s.1 s.2 x) else (nxP B L q, none)) = (q, some t))
    have k := iRow_b b (stP_b e1) (by omega)
    by_cases c : chP B L (nxP B L p1) = 0
    · rw [if_pos c] at e2
      have ez := Option.some.inj (congrArg Prod.snd e2)
      subst ez
      exact ⟨k, by show 1 ≤ s.1 + 1; omega⟩
    · rw [if_neg c] at e2
      by_cases d0 : d = 0
      · rw [if_pos d0] at e2; cases e2
      · rw [if_neg d0] at e2
        by_cases c2 : chP B L (nxP B L p1) = 59
        · rw [if_pos c2] at e2
          exact ssL_b d _ q _ t (by show s.1 + 1 + d ≤ 16; omega) k e2
        · rw [if_neg c2] at e2; cases e2
theorem ssP_b {q : Nat} {t : Sst} (e : ssP B L = (q, some t)) : SsB t ∧ 1 ≤ t.1 := ssL_b 16 0 q _ t (by show 0 + 16 ≤ 16; omega) ⟨by show (0 : Nat) ≤ 16; omega, fun i hi => absurd hi (by show ¬ i < 0; omega)⟩ e
end B
/-! the class -/
def IsN (a : Int) : Prop := 1100 ≤ a ∧ a < 1150 ∧ a % 10 = 0
theorem IsN_sh {a : Int} (ha : IsN a) : SH a = (6, 0) ∧ SH (a + 1) = (100, 48) := by
  have key : ∀ n : Nat, n < 5 → SH (1100 + 10 * (n : Int)) = (6, 0) ∧ SH (1100 + 10 * (n : Int) + 1) = (100, 48) := by decide +kernel
  obtain ⟨h1, h2, h3⟩ := ha
  have e : a = 1100 + 10 * (((a - 1100) / 10).toNat : Int) := by omega
  rw [e]
  exact key _ (by omega)
def STc (a x k : Int) : Prop := (x = 21 ∧ (k = 2 ∨ k = 3)) ∨ (x = a ∧ k = 1) ∨ x = a + 1
def SsA (h : Hp) (a : Int) (s : Sst) : Prop := h a 1 = (s.1 : Int) ∧ ∀ k : Int, 0 ≤ k → k < 3 * (s.1 : Int) → h (a + 1) k = s.2 k
theorem SH67 : SH 6 = (100, 4) ∧ SH 7 = (100, 4) ∧ w32 ((4 : Nat) : Int) = 4 := by decide +kernel
theorem tab_s : ∀ k : Nat, k < 4 → (stl (7 : Int).toNat).getD ((k : Int)).toNat 0 = dnI (k : Int) ∧ w32 ((stl (6 : Int).toNat).getD ((k : Int)).toNat 0) = (stl (6 : Int).toNat).getD ((k : Int)).toNat 0 ∧ ∀ c : Nat, c < 256 → ((stl (6 : Int).toNat).getD ((k : Int)).toNat 0 = (c : Int) ↔ stI (c : Int) = (k : Int)) := by decide +kernel
section C
variable {B : Nat → Int} {L p q n : Nat} {h h1 : Hp} {a D w : Int} {s : Sst}
theorem stc_2 {v : Int} {h : Hp} : On (STc a) h (up h 21 2 v) := On.up (Or.inl ⟨rfl, Or.inl rfl⟩)
theorem stc_3 {v : Int} {h : Hp} : On (STc a) h (up h 21 3 v) := On.up (Or.inl ⟨rfl, Or.inr rfl⟩)
theorem stc_p {i v : Int} {h : Hp} : On (STc a) h (up h (a + 1) i v) := On.up (Or.inr (Or.inr rfl))
theorem b44_c (ia : IsN a) (e : h a 1 = (n : Int)) (hn : n < 16) (w0 : 0 ≤ w) (w2 : w ≤ 2) (v : Int) : Ss_digit_b44 h a w v = some (1, up h (a + 1) (3 * (n : Int) + w) v) := by
  obtain ⟨i1, i2, i3⟩ := id ia
  unfold Ss_digit_b44
  rw [cC_s (IsN_sh ia).1 rfl, e, put_eq (IsN_sh ia).2 (by omega) (by omega) (by omega) (by omega), cl_s]
theorem dig_c (ia : IsN a) (b : BOK B L) (T : PTp h B L p) (e : h a 1 = (n : Int)) (hn : n < 16) (w0 : 1 ≤ w) (w2 : w ≤ 2) (D0 : 0 ≤ D) (D2 : D ≤ 2) : (∃ x : Nat, dgO B L D w p = (x, none) ∧ x ≤ L ∧ Ss_digit h a 21 w D = some (0, up (up h 21 2 (x : Int)) 21 3 (x : Int))) ∨ (∃ (q : Nat) (v : Int), dgO B L D w p = (q, some v) ∧ p ≤ q ∧ q ≤ L ∧ Ss_digit h a 21 w D = some (1, up (up h 21 2 (q : Int)) (a + 1) (3 * (n : Int) + w) v)) := by
  obtain ⟨i1, i2, i3⟩ := id ia
  obtain ⟨n1, n2, n3⟩ := nxP_r (B := B) T.2.2.1
  have cb := chP_b (p := nxP B L p) b
  unfold Ss_digit dgO
  rw [w32_n (x := D) (by omega) (by omega), w32_n (x := w) (by omega) (by omega)]
  by_cases c : D < w
  · rw [if_pos c, if_pos c, b44_c ia e hn (by omega) w2]
    exact Or.inr ⟨p, -1, rfl, Nat.le_refl _, T.2.2.1, by rw [up_id (h := h) (a := 21) (i := 2) T.2.1]⟩
  · rw [if_neg c, if_neg c, cC_s SH21 rfl, Tp_next_e b T, cl_s]
    by_cases d : isD (chP B L (nxP B L p))
    · have hl := chP_lt (B := B) (L := L) (p := nxP B L p) (fun z => by rw [z] at d; have := d.1; omega)
      have en : ((nxP B L p : Nat) : Int) + 1 = ((nxP B L p + 1 : Nat) : Int) := by omega
      rw [Tp_isD1 cb d, cl_s, if_neg (show ¬ w32 1 = 0 by decide), bd_s, pu_s, up_at, up_up, en, b44_c ia (by rw [up_ne (by omega)]; exact e) hn (by omega) w2, ifD_1 d]
      exact Or.inr ⟨_, _, rfl, by omega, by omega, rfl⟩
    · rw [Tp_isD0 cb d, cl_s, if_pos (show w32 0 = 0 by decide), Tp_fail_e, cl_s, up_at, ifD_0 d]
      exact Or.inl ⟨_, rfl, n2, rfl⟩
def SRs (a : Int) (B : Nat → Int) (L : Nat) (p n : Nat) (t : Nat × Option (Int → Int)) (h : Hp) (x : Int) (h' : Hp) : Prop := On (STc a) h h' ∧ h' a 1 = h a 1 ∧ ((∃ w : Nat, t = (w, none) ∧ w ≤ L ∧ x = 0 ∧ h' 21 3 = (w : Int)) ∨ ∃ (q : Nat) (y : Int → Int), t = (q, some y) ∧ x = 1 ∧ p < q ∧ PTp h' B L q ∧ (∀ j : Int, 0 ≤ j → j < 3 → h' (a + 1) (3 * (n : Int) + j) = y j) ∧ ∀ k : Int, k < 3 * (n : Int) → h' (a + 1) k = h (a + 1) k)
theorem step_c (ia : IsN a) (b : BOK B L) (T : PTp h B L p) (e : h a 1 = (n : Int)) (hn : n < 16) : wp (Ss_oneStep h a 21) (SRs a B L p n (stP B L p) h) := by
  obtain ⟨i1, i2, i3⟩ := id ia
  obtain ⟨s0, s1⟩ := IsN_sh ia
  obtain ⟨n1, n2, n3⟩ := nxP_r (B := B) T.2.2.1
  have cb := chP_b (p := nxP B L p) b
  have sb := stI_b (chP B L (nxP B L p))
  obtain ⟨cN, hcN⟩ : ∃ cN : Nat, chP B L (nxP B L p) = (cN : Int) := ⟨(chP B L (nxP B L p)).toNat, by omega⟩
  have T2 := T.mv n2
  have F2 : On (STc a) h (up h 21 2 ((nxP B L p : Nat) : Int)) := stc_2
  have e2 : up h 21 2 ((nxP B L p : Nat) : Int) a 1 = (n : Int) := by rw [up_ne (by omega)]; exact e
  have r2 : up h 21 2 ((nxP B L p : Nat) : Int) (a + 1) = h (a + 1) := up_off_row (by omega)
  unfold Ss_oneStep
  rw [cC_s SH21 rfl, Tp_next_e b T, cl_s]
  generalize up h 21 2 ((nxP B L p : Nat) : Int) = h2 at *
  unfold Ss_oneStep_b7 stP
  refine itr_wpx (fun d σ => ∃ i : Nat, σ = (h2, a, 21, chP B L (nxP B L p), (i : Int)) ∧ i + d = 4 ∧ ∀ j : Nat, j < i → ¬ stI (chP B L (nxP B L p)) = (j : Int)) ?_ (n := 4) (FU_gt (by omega)) ⟨0, rfl, rfl, fun j hj => absurd hj (by omega)⟩
  rintro d σ k ⟨i, rfl, hd, V⟩ K
  show wp (Ss_oneStep_b7_body k h2 a 21 (chP B L (nxP B L p)) (i : Int)) _
  unfold Ss_oneStep_b7_body
  rw [cN_s SH67.1 (by decide) (by decide), SH67.1, SH67.2.2, w32_n (x := (i : Int)) (by omega) (by omega)]
  by_cases ci : i < 4
  · obtain ⟨t1, t2, t3⟩ := tab_s i ci
    have t3 := t3 cN (by omega)
    rw [← hcN] at t3
    rw [if_pos (by omega), at_st SH67.1 (by decide) (by omega) (by omega) (by decide), cl_s, t2, w32_n (x := chP B L (nxP B L p)) (by omega) (by omega)]
    by_cases ce : stI (chP B L (nxP B L p)) = (i : Int)
    · have hl := chP_lt (B := B) (L := L) (p := nxP B L p) (fun z => by rw [z] at ce; have z0 : stI 0 = -1 := (by decide); omega)
      have en : ((nxP B L p : Nat) : Int) + 1 = ((nxP B L p + 1 : Nat) : Int) := by omega
      have T3 := T2.mv (q := nxP B L p + 1) (by omega)
      have at7 : ∀ h' : Hp, Cc_at h' 7 (i : Int) = some (dnI (i : Int), h') := fun h' => by rw [at_st SH67.2.1 (by decide) (by omega) (by omega) (by decide), t1]
      have Db : 0 ≤ dnI (i : Int) ∧ dnI (i : Int) ≤ 2 := by
        have : i = 0 ∨ i = 1 ∨ i = 2 ∨ i = 3 := by omega
        rcases this with z | z | z | z <;> subst z <;> decide
      rw [if_pos (t3.mpr ce), cC_s SH21 rfl, pu_s, T2.2.1, en, cC_s s0 rfl, up_ne (a := 21) (b := a) (by omega), e2, put_eq s1 (by omega) (by omega) (by omega) (by omega), cl_s, at7, cl_s]
      have Ta : PTp (up (up h2 21 2 ((nxP B L p + 1 : Nat) : Int)) (a + 1) (3 * (n : Int)) (i : Int)) B L (nxP B L p + 1) := T3.on (by rw [up_ne (by omega)]) (by rw [up_ne (by omega)]) (up_off_row (by omega))
      have ea : up (up h2 21 2 ((nxP B L p + 1 : Nat) : Int)) (a + 1) (3 * (n : Int)) (i : Int) a 1 = (n : Int) := by rw [up_ne (by omega), up_ne (by omega)]; exact e2
      have Fa : On (STc a) h (up (up h2 21 2 ((nxP B L p + 1 : Nat) : Int)) (a + 1) (3 * (n : Int)) (i : Int)) := (F2.tr stc_2).tr stc_p
      rw [if_neg (by omega), ce]
      rcases dig_c ia b Ta ea hn (w := 1) (by omega) (by omega) Db.1 Db.2 with ⟨x, g1, gx, g2⟩ | ⟨q, v, g1, hq, hq2, g2⟩
      · rw [g2, cl_s, if_pos (show w32 0 = 0 by decide), g1, bnP_n]
        exact wp_i ⟨(Fa.tr stc_2).tr stc_3, by rw [up_ne (by omega), up_ne (by omega), ea, e], Or.inl ⟨x, rfl, gx, rfl, up_at⟩⟩
      · have Tb : PTp (up (up (up (up h2 21 2 ((nxP B L p + 1 : Nat) : Int)) (a + 1) (3 * (n : Int)) (i : Int)) 21 2 (q : Int)) (a + 1) (3 * (n : Int) + 1) v) B L q := (Ta.mv hq2).on (by rw [up_ne (by omega)]) (by rw [up_ne (by omega)]) (up_off_row (by omega))
        have eb : up (up (up (up h2 21 2 ((nxP B L p + 1 : Nat) : Int)) (a + 1) (3 * (n : Int)) (i : Int)) 21 2 (q : Int)) (a + 1) (3 * (n : Int) + 1) v a 1 = (n : Int) := by rw [up_ne (by omega), up_ne (by omega)]; exact ea
        rw [g2, cl_s, if_neg (show ¬ w32 1 = 0 by decide), g1, bnP_s, at7, cl_s]
        rcases dig_c ia b Tb eb hn (w := 2) (by omega) (by omega) Db.1 Db.2 with ⟨x, g3, gx, g4⟩ | ⟨q2, v2, g3, hq3, hq4, g4⟩
        · rw [g4, cl_s, if_pos (show w32 0 = 0 by decide), g3, bnP_n]
          exact wp_i ⟨(((Fa.tr stc_2).tr stc_p).tr stc_2).tr stc_3, by rw [up_ne (by omega), up_ne (by omega), eb, e], Or.inl ⟨x, rfl, gx, rfl, up_at⟩⟩
        · rw [g4, cl_s, if_neg (show ¬ w32 1 = 0 by decide), g3, bnP_s]
          refine wp_i ⟨(((Fa.tr stc_2).tr stc_p).tr stc_2).tr stc_p, by rw [up_ne (by omega), up_ne (by omega), eb, e], Or.inr ⟨q2, stR (i : Int) v v2, rfl, rfl, by omega, (Tb.mv hq4).on (by rw [up_ne (by omega)]) (by rw [up_ne (by omega)]) (up_off_row (by omega)), fun j j0 j1 => ?_, fun k hk => ?_⟩⟩
          · have : j = 0 ∨ j = 1 ∨ j = 2 := by omega
            rcases this with z | z | z <;> subst z
            · rw [Int.add_zero, up_off (by omega), up_ne (by omega), up_off (by omega), up_ne (by omega), up_at]; rfl
            · rw [up_off (by omega), up_ne (by omega), up_at]; rfl
            · rw [up_at]; rfl
          · rw [up_off (by omega), up_ne (by omega), up_off (by omega), up_ne (by omega), up_off (by omega), up_ne (by omega), r2]
    · rw [if_neg (fun z => ce (t3.mp z))]
      refine K (d - 1) _ (by omega) ⟨i + 1, rfl, by omega, fun j hj => ?_⟩
      by_cases ej : j = i
      · rw [ej]; exact ce
      · exact V j (by omega)
  · rw [if_neg (by omega), if_pos (by
      by_cases z : stI (chP B L (nxP B L p)) < 0
      · exact z
      · exact absurd (show stI (chP B L (nxP B L p)) = (((stI (chP B L (nxP B L p))).toNat : Nat) : Int) by omega) (V _ (by omega))), cC_s SH21 rfl, Tp_fail_e, cl_s, T2.2.1]
    exact wp_i ⟨F2.tr stc_3, by rw [up_ne (by omega), e2, e], Or.inl ⟨_, rfl, n2, rfl, up_at⟩⟩
theorem ss_it (ia : IsN a) (b : BOK B L) {h0 : Hp} : ∀ (d M p : Nat) (h : Hp) (s : Sst), s.1 + d = 16 → d < M → On (STc a) h0 h → PTp h B L p → SsA h a s → wp (itr (fun k s => Ss_read_b11_body k s.1 s.2.1 s.2.2.1 s.2.2.2) M (h, a, 21, (s.1 : Int))) (fun x h' => On (STc a) h0 h' ∧ ((∃ w : Nat, (ssL B L d p s = (w, none) ∨ d = 0) ∧ w ≤ L ∧ x = 0 ∧ h' 21 3 = (w : Int)) ∨ ∃ (q : Nat) (t : Sst), ssL B L d p s = (q, some t) ∧ x = 1 ∧ SsA h' a t)) := by
  obtain ⟨i1, i2, i3⟩ := id ia
  obtain ⟨s0, s1⟩ := IsN_sh ia
  intro d
  induction d with
  | zero =>
    intro M p h s hs hM F T A
    obtain ⟨M, rfl⟩ : ∃ M', M = M' + 1 := ⟨M - 1, by omega⟩
    rw [itr_s]
    show wp (Ss_read_b11_body _ h a 21 (s.1 : Int)) _
    unfold Ss_read_b11_body
    rw [if_neg (by rw [w32_n (by omega) (by omega)]; omega), cC_s SH21 rfl, Tp_fail_e, cl_s, T.2.1]
    exact wp_i ⟨F.tr stc_3, Or.inl ⟨p, Or.inr rfl, T.2.2.1, rfl, up_at⟩⟩
  | succ d ih =>
    intro M p h s hs hM F T A
    obtain ⟨M, rfl⟩ : ∃ M', M = M' + 1 := ⟨M - 1, by omega⟩
    rw [itr_s]
    show wp (Ss_read_b11_body _ h a 21 (s.1 : Int)) _
    unfold Ss_read_b11_body
    rw [if_pos (by rw [w32_n (by omega) (by omega)]; omega), cC_s s0 rfl]
    have el : ssL B L (d + 1) p s = bnP (stP B L p) (fun q x => if chP B L (nxP B L q) = 0 then (nxP B L q, some (s.1 + 1, iRow s.1 s.2 x)) else if d = 0 then (nxP B L q, none) else if chP B L (nxP B L q) = 59 then ssL B L d (nxP B L q + 1) (s.1 + 1, iRow s.1 s.2 x) else (nxP B L q, none)) := rfl
    rw [el]
    refine wp_cl (step_c ia b T A.1 (by omega)) ?_
    rintro x h' ⟨F2, e1, ⟨w, e, hw, rfl, e3⟩ | ⟨q, y, e, rfl, hq, T2, y1, y2⟩⟩
    · rw [if_pos (show w32 0 = 0 by decide), e, bnP_n]
      exact wp_i ⟨F.tr F2, Or.inl ⟨w, Or.inl rfl, hw, rfl, e3⟩⟩
    · rw [A.1] at e1
      have T3 : PTp (up h' a 1 ((s.1 : Int) + 1)) B L q := T2.on (by rw [up_ne (by omega)]) (by rw [up_ne (by omega)]) (up_off_row (by omega))
      have F3 : On (STc a) h0 (up h' a 1 ((s.1 : Int) + 1)) := (F.tr F2).tr (On.up (Or.inr (Or.inl ⟨rfl, rfl⟩)))
      have A3 : SsA (up h' a 1 ((s.1 : Int) + 1)) a (s.1 + 1, iRow s.1 s.2 y) := by
        refine ⟨by rw [up_at]; rfl, fun k k0 k1 => ?_⟩
        have k1' : k < 3 * ((s.1 + 1 : Nat) : Int) := k1
        show up h' a 1 ((s.1 : Int) + 1) (a + 1) k = iRow s.1 s.2 y k
        unfold iRow
        rw [up_ne (by omega)]
        by_cases z : 3 * (s.1 : Int) ≤ k
        · have := y1 (k - 3 * (s.1 : Int)) (by omega) (by omega)
          rw [if_pos z, ← this]
          congr 1
          omega
        · rw [if_neg z, y2 k (by omega)]
          exact A.2 k k0 (by omega)
      obtain ⟨j1, j2, j3⟩ := nxP_r (B := B) T2.2.2.1
      have nn := nxP_nx (B := B) T2.2.2.1
      have cb := chP_b (p := nxP B L q) b
      have T4 := T3.mv j2
      rw [if_neg (show ¬ w32 1 = 0 by decide), e1, pu_s, cC_s SH21 rfl, Tp_next_e b T3, cl_s, e, bnP_s, w32_n (x := chP B L (nxP B L q)) (by omega) (by omega)]
      have A4 : SsA (up (up h' a 1 ((s.1 : Int) + 1)) 21 2 ((nxP B L q : Nat) : Int)) a (s.1 + 1, iRow s.1 s.2 y) := ⟨by rw [up_ne (by omega)]; exact A3.1, fun k k0 k1 => by rw [up_ne (by omega)]; exact A3.2 k k0 k1⟩
      have F4 : On (STc a) h0 (up (up h' a 1 ((s.1 : Int) + 1)) 21 2 ((nxP B L q : Nat) : Int)) := F3.tr stc_2
      have a41 : up (up h' a 1 ((s.1 : Int) + 1)) 21 2 ((nxP B L q : Nat) : Int) a 1 = (s.1 : Int) + 1 := by rw [up_ne (by omega), up_at]
      rw [a41]
      generalize up (up h' a 1 ((s.1 : Int) + 1)) 21 2 ((nxP B L q : Nat) : Int) = h4 at *
      have b64 : ∀ g : Hp, g 21 2 = ((nxP B L q : Nat) : Int) → Ss_read_b64 g 21 = some (0, up g 21 3 ((nxP B L q : Nat) : Int)) := by
        intro g hg
        unfold Ss_read_b64
        rw [cC_s SH21 rfl, Tp_fail_e, cl_s, hg]
        rfl
      by_cases c0 : chP B L (nxP B L q) = 0
      · rw [if_pos c0, if_pos c0]
        exact wp_i ⟨F4, Or.inr ⟨_, _, rfl, rfl, A4⟩⟩
      · rw [if_neg c0, if_neg c0]
        by_cases d0 : d = 0
        · rw [if_pos (by rw [w32_n (by omega) (by omega)]; omega), if_pos d0, b64 _ T4.2.1]
          exact wp_i ⟨F4.tr stc_3, Or.inl ⟨_, Or.inl rfl, j2, rfl, up_at⟩⟩
        · rw [if_neg (by rw [w32_n (by omega) (by omega)]; omega), if_neg d0]
          rcases need_c b T4 (x := 59) ⟨by decide, by decide⟩ with ⟨c2, e2⟩ | ⟨c2, e2⟩
          · rw [nn] at c2 e2
            have hl := chP_l c2 (by decide)
            rw [e2, cl_s, if_neg (show ¬ w32 1 = 0 by decide), if_pos c2]
            have W := ih M (nxP B L q + 1) (up h4 21 2 ((nxP B L q + 1 : Nat) : Int)) (s.1 + 1, iRow s.1 s.2 y) (by show s.1 + 1 + d = 16; omega) (by omega) (F4.tr stc_2) (T4.mv (q := nxP B L q + 1) (by omega)) ⟨by rw [up_ne (by omega)]; exact A4.1, fun k k0 k1 => by rw [up_ne (by omega)]; exact A4.2 k k0 k1⟩
            refine wp_m W ?_
            rintro x h6 ⟨F6, ⟨w, e6, hw, rfl, e7⟩ | ⟨q2, t, e6, rfl, A6⟩⟩
            · exact ⟨F6, Or.inl ⟨w, Or.inl (e6.resolve_right d0), hw, rfl, e7⟩⟩
            · exact ⟨F6, Or.inr ⟨q2, t, e6, rfl, A6⟩⟩
          · rw [nn] at c2 e2
            rw [e2, cl_s, if_pos (show w32 0 = 0 by decide), if_neg c2, b64 _ (by rw [up_off (by decide), up_at])]
            exact wp_i ⟨((F4.tr stc_2).tr stc_3).tr stc_3, Or.inl ⟨_, Or.inl rfl, j2, rfl, up_at⟩⟩
theorem Ss_read_e (ia : IsN a) (b : BOK B L) (t1 : h 21 1 = (L : Int)) (t2 : ∀ k : Nat, k < L → h 22 (k : Int) = B k) : ∃ (x : Int) (h' : Hp), Ss_read h a 21 = some (x, h') ∧ On (STc a) h h' ∧ ((∃ w : Nat, ssP B L = (w, none) ∧ w ≤ L ∧ x = 0 ∧ h' 21 3 = (w : Int)) ∨ ∃ (q : Nat) (t : Sst), ssP B L = (q, some t) ∧ x = 1 ∧ SsA h' a t) := by
  obtain ⟨i1, i2, i3⟩ := id ia
  obtain ⟨s0, s1⟩ := IsN_sh ia
  have W : wp (Ss_read h a 21) (fun x h' => On (STc a) h h' ∧ ((∃ w : Nat, ssP B L = (w, none) ∧ w ≤ L ∧ x = 0 ∧ h' 21 3 = (w : Int)) ∨ ∃ (q : Nat) (t : Sst), ssP B L = (q, some t) ∧ x = 1 ∧ SsA h' a t)) := by
    unfold Ss_read Tp_start
    rw [cC_s s0 rfl, pu_s, cC_s SH21 rfl, cC_s SH21 rfl, pu_s, pu_s, cl_s]
    have T : PTp (up (up (up h a 1 0) 21 2 0) 21 3 (-1)) B L 0 := by
      refine ⟨?_, ?_, by omega, fun k hk => ?_⟩
      · rw [up_off (by decide), up_off (by decide), up_ne (by omega)]; exact t1
      · rw [up_off (by decide), up_at]; rfl
      · rw [up_ne (by decide), up_ne (by decide), up_ne (by omega)]; exact t2 k hk
    have A : SsA (up (up (up h a 1 0) 21 2 0) 21 3 (-1)) a (0, fun _ => 0) := ⟨by rw [up_ne (by omega), up_ne (by omega), up_at]; rfl, fun k k0 k1 => absurd k1 (by show ¬ k < 3 * ((0 : Nat) : Int); omega)⟩
    have F : On (STc a) h (up (up (up h a 1 0) 21 2 0) 21 3 (-1)) := ((On.up (Or.inr (Or.inl ⟨rfl, rfl⟩))).tr stc_2).tr stc_3
    refine wp_m (ss_it ia b 16 FU 0 _ (0, fun _ => 0) rfl (FU_gt (by decide)) F T A) ?_
    rintro x h6 ⟨F6, ⟨w, e6, hw, rfl, e7⟩ | ⟨q2, t, e6, rfl, A6⟩⟩
    · exact ⟨F6, Or.inl ⟨w, e6.resolve_right (by decide), hw, rfl, e7⟩⟩
    · exact ⟨F6, Or.inr ⟨q2, t, e6, rfl, A6⟩⟩
  obtain ⟨x, h', e, q⟩ := W
  exact ⟨x, h', e, q⟩
end C
end PureSess
