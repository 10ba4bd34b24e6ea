section PureCty
/-! A COUNTY told: the grammar as one function of places; the class reads it -/
def itI (kd c : Int) : Int := if kd = 0 then (if c = 109 then 0 else if c = 99 then 1 else -1) else if kd = 1 then (if c = 108 then 0 else if c = 98 then 1 else if c = 104 then 2 else -1) else (if c = 97 then 0 else if c = 118 then 1 else if c = 103 then 2 else -1)
def usI (kd j : Int) : Int := if kd = 0 then (if j < 2 then 20 else 0) else if kd = 1 then (if j = 0 then 4 else if j = 1 then 2 else 3) else (if j = 0 then 0 else if j = 1 then 1 else 3)
def leI (kd j : Int) : Int := if kd = 0 then (if j = 0 then 1 else 0) else if kd = 1 then 0 else (if j = 2 then 1 else 0)
def moI (kd j : Int) : Int := if kd = 0 then (if j = 0 then 30 else 99) else if kd = 1 then 9 else (if j < 2 then 5 else 9)
def hbP (g j : Int) : Prop := w32 (iand (ishr g j) 1) = 1
def hbD (g j : Int) : Decidable (hbP g j) := by unfold hbP; infer_instance
def ifH {α : Type} (g j : Int) (x y : α) : α := @ite α (hbP g j) (hbD g j) x y
theorem ifH_1 {α : Type} {g j : Int} {x y : α} (h : hbP g j) : ifH g j x y = x := @if_pos _ (hbD g j) h α x y
theorem ifH_0 {α : Type} {g j : Int} {x y : α} (h : ¬ hbP g j) : ifH g j x y = y := @if_neg _ (hbD g j) h α x y
abbrev Cst : Type := Int × Nat × Nat × (Int → Int) × (Int → Int) × (Int → Int)
def iRow (n : Nat) (pd r : Int → Int) : Int → Int := fun k => if 3 * (n : Int) ≤ k then r (k - 3 * (n : Int)) else pd k
def whP (n W : Nat) (wd : Int → Int) : Prop := 2 ≤ n ∧ ∀ w : Nat, w < W → wd (3 * (w : Int)) < n ∧ wd (3 * (w : Int) + 1) < n ∧ wd (3 * (w : Int)) ≠ wd (3 * (w : Int) + 1)
def whD (n W : Nat) (wd : Int → Int) : Decidable (whP n W wd) := by unfold whP; infer_instance
def ifW {α : Type} (n W : Nat) (wd : Int → Int) (x y : α) : α := @ite α (whP n W wd) (whD n W wd) x y
theorem ifW_1 {α : Type} {n W : Nat} {wd : Int → Int} {x y : α} (h : whP n W wd) : ifW n W wd x y = x := @if_pos _ (whD n W wd) h α x y
theorem ifW_0 {α : Type} {n W : Nat} {wd : Int → Int} {x y : α} (h : ¬ whP n W wd) : ifW n W wd x y = y := @if_neg _ (whD n W wd) h α x y
section G
variable (B : Nat → Int) (L : Nat)
def itL (kd : Int) : Nat → Nat → Int → (Int → Int) → Nat × Option (Int → Int)
  | 0, p, _, _ => (p, none)
  | d + 1, p, met, r => if itI kd (chP B L (nxP B L p)) < 0 then (nxP B L p, some r) else ifH met (itI kd (chP B L (nxP B L p))) (nxP B L p, none) (bnP (nuG B L 2 (leI kd (itI kd (chP B L (nxP B L p)))) (moI kd (itI kd (chP B L (nxP B L p)))) (nxP B L (nxP B L p + 1))) (fun p' v => itL kd d p' (ior met (ishl 1 (itI kd (chP B L (nxP B L p))))) (ud r (itI kd (chP B L (nxP B L p))) v)))
def cyC (s : Cst) (p : Nat) : Nat × Option Cst := if chP B L (nxP B L p) = 115 ∧ s.1 = 0 then bnP (itL B L 0 4 (nxP B L p + 1) 0 (usI 0)) (fun q r => (q, some (1, s.2.1, s.2.2.1, r, s.2.2.2.2.1, s.2.2.2.2.2))) else if chP B L (nxP B L p) = 112 ∧ s.2.1 < 6 then bnP (itL B L 1 4 (nxP B L p + 1) 0 (usI 1)) (fun q r => (q, some (s.1, s.2.1 + 1, s.2.2.1, s.2.2.2.1, iRow s.2.1 s.2.2.2.2.1 r, s.2.2.2.2.2))) else if chP B L (nxP B L p) = 119 ∧ s.2.2.1 < 8 then bnP (itL B L 2 4 (nxP B L p + 1) 0 (usI 2)) (fun q r => (q, some (s.1, s.2.1, s.2.2.1 + 1, s.2.2.2.1, s.2.2.2.2.1, iRow s.2.2.1 s.2.2.2.2.2 r))) else (nxP B L p, none)
def cyL : Nat → Nat → Cst → Nat × Option Cst
  | 0, p, _ => (p, none)
  | d + 1, p, s => bnP (cyC B L s p) (fun q t => if chP B L q = 59 then cyL d (q + 1) t else if chP B L q = 0 then ifW t.2.1 t.2.2.1 t.2.2.2.2.2 (q, some t) (q, none) else (q, none))
def cyP : Nat × Option Cst := cyL B L (L + 1) 0 (0, 0, 0, usI 0, fun _ => 0, fun _ => 0)
end G
theorem itI_b (kd c : Int) : -1 ≤ itI kd c ∧ itI kd c ≤ 2 ∧ (kd = 0 → itI kd c ≤ 1) := by
  unfold itI
  repeat (first | omega | split)
theorem itI_0 (kd : Int) : itI kd 0 = -1 ∧ itI kd 59 = -1 := by
  unfold itI
  by_cases c : kd = 0
  · rw [if_pos c, if_pos c]; exact ⟨by decide, by decide⟩
  · rw [if_neg c, if_neg c]
    by_cases d : kd = 1
    · rw [if_pos d, if_pos d]; exact ⟨by decide, by decide⟩
    · rw [if_neg d, if_neg d]; exact ⟨by decide, by decide⟩
def pc3 (m : Nat) : Nat := m % 2 + m / 2 % 2 + m / 4 % 2
theorem met_t : ∀ m : Nat, m < 8 → ∀ j : Nat, j < 3 → (w32 (iand (ishr (m : Int) (j : Int)) 1) = 1) ∨ (ior (m : Int) (ishl 1 (j : Int)) = ((m + 2 ^ j : Nat) : Int) ∧ m + 2 ^ j < 8 ∧ pc3 (m + 2 ^ j) = pc3 m + 1) := by decide +kernel
theorem pc3_b : ∀ m : Nat, m < 8 → pc3 m ≤ 3 := by decide +kernel
/-- the class's tables -/
theorem SH1 : SH 1 = (100, 9) ∧ SH 2 = (100, 9) ∧ SH 3 = (100, 9) ∧ SH 4 = (100, 9) := by decide +kernel
theorem tab_us : ∀ kd : Nat, kd < 3 → ∀ j : Nat, j < 3 → (stl (4 : Int).toNat).getD (3 * (kd : Int) + (j : Int)).toNat 0 = usI (kd : Int) (j : Int) ∧ ((kd = 0 ∧ j = 2) ∨ ((stl (2 : Int).toNat).getD (3 * (kd : Int) + (j : Int)).toNat 0 = leI (kd : Int) (j : Int) ∧ (stl (3 : Int).toNat).getD (3 * (kd : Int) + (j : Int)).toNat 0 = moI (kd : Int) (j : Int))) := by decide +kernel
def itF (kd c : Int) : Nat → Nat → Int
  | 0, _ => -1
  | d + 1, i => if (stl (1 : Int).toNat).getD (3 * kd + (i : Int)).toNat 0 = c then (i : Int) else itF kd c d (i + 1)
theorem itF_t : ∀ kd : Nat, kd < 3 → ∀ c : Nat, c < 256 → 0 < c → itF (kd : Int) (c : Int) 3 0 = itI (kd : Int) (c : Int) := by decide +kernel
theorem st1_w : ∀ kd : Nat, kd < 3 → ∀ i : Nat, i < 3 → w32 ((stl (1 : Int).toNat).getD (3 * (kd : Int) + (i : Int)).toNat 0) = (stl (1 : Int).toNat).getD (3 * (kd : Int) + (i : Int)).toNat 0 := by decide +kernel
theorem itemOf_it (h : Hp) {kd : Nat} (hk : kd < 3) {c : Int} (hc : w32 c = c) : ∀ (d M i : Nat), i + d = 3 → d < M → itr (fun k s => Cy_itemOf_b2_body k s.1 s.2.1 s.2.2.1 s.2.2.2) M (h, (kd : Int), c, (i : Int)) = some (itF (kd : Int) c d i, h) := by
  intro d
  induction d with
  | zero =>
    intro M i hi hM
    obtain ⟨M, rfl⟩ : ∃ M', M = M' + 1 := ⟨M - 1, by omega⟩
    rw [itr_s]
    show Cy_itemOf_b2_body _ h (kd : Int) c (i : Int) = some (-1, h)
    unfold Cy_itemOf_b2_body
    rw [if_neg (by rw [w32_n (by omega) (by omega)]; omega)]
  | succ d ih =>
    intro M i hi hM
    obtain ⟨M, rfl⟩ : ∃ M', M = M' + 1 := ⟨M - 1, by omega⟩
    rw [itr_s]
    show Cy_itemOf_b2_body _ h (kd : Int) c (i : Int) = some (if (stl (1 : Int).toNat).getD (3 * (kd : Int) + (i : Int)).toNat 0 = c then (i : Int) else itF (kd : Int) c d (i + 1), h)
    unfold Cy_itemOf_b2_body
    rw [if_pos (by rw [w32_n (by omega) (by omega)]; omega), at_st SH1.1 (by decide) (by omega) (by omega) (by decide), cl_s, st1_w kd hk i (by omega), hc]
    by_cases e : (stl (1 : Int).toNat).getD (3 * (kd : Int) + (i : Int)).toNat 0 = c
    · rw [if_pos e, if_pos e]
    · rw [if_neg e, if_neg e]
      exact ih M (i + 1) (by omega) (by omega)
theorem itemOf_e (h : Hp) {kd : Nat} (hk : kd < 3) {c : Int} (c0 : 0 < c) (c1 : c ≤ 255) : Cy_itemOf h (kd : Int) c = some (itI (kd : Int) c, h) := by
  obtain ⟨n, rfl⟩ : ∃ n : Nat, c = (n : Int) := ⟨c.toNat, by omega⟩
  rw [← itF_t kd hk n (by omega) (by omega)]
  have key := itemOf_it h hk (c := (n : Int)) (w32_n (by omega) (by omega)) 3 FU 0 rfl (FU_gt (by decide))
  unfold Cy_itemOf Cy_itemOf_b2
  exact key
section C
variable {B : Nat → Int} {L p q : Nat} {h h1 : Hp} {R fr0 : Int} {sz : Nat} {r : Int → Int}
def ITc (R fr0 x k : Int) : Prop := (x = 21 ∧ (k = 2 ∨ k = 3)) ∨ (x = R ∧ fr0 ≤ k ∧ k < fr0 + 3)
def ItA (h : Hp) (R fr0 : Int) (r : Int → Int) : Prop := ∀ j : Int, 0 ≤ j → j < 3 → h R (fr0 + j) = r j
theorem it_2 {v : Int} {h : Hp} : On (ITc R fr0) h (up h 21 2 v) := On.up (Or.inl ⟨rfl, Or.inl rfl⟩)
theorem it_3 {v : Int} {h : Hp} : On (ITc R fr0) h (up h 21 3 v) := On.up (Or.inl ⟨rfl, Or.inr rfl⟩)
def RwO (R fr0 : Int) (sz : Nat) : Prop := SH R = (100, sz) ∧ 30 ≤ R ∧ 0 ≤ fr0 ∧ fr0 + 3 ≤ (sz : Int) ∧ sz ≤ 100
theorem PTp.on (T : PTp h B L p) (e1 : h1 21 1 = h 21 1) (e2 : h1 21 2 = h 21 2) (e3 : h1 22 = h 22) : PTp h1 B L p := ⟨by rw [e1]; exact T.1, by rw [e2]; exact T.2.1, T.2.2.1, fun k hk => by rw [e3]; exact T.2.2.2 k hk⟩
theorem fillIn_e (O : RwO R fr0 sz) {kd : Nat} (hk : kd < 3) : ∃ h', Cy_fillIn h (kd : Int) R fr0 = some (0, h') ∧ On (fun x k => x = R ∧ fr0 ≤ k ∧ k < fr0 + 3) h h' ∧ ItA h' R fr0 (usI (kd : Int)) := by
  obtain ⟨s0, r0, f0, f1, s1⟩ := O
  have W : wp (Cy_fillIn h (kd : Int) R fr0) (fun x h' => x = 0 ∧ On (fun x k => x = R ∧ fr0 ≤ k ∧ k < fr0 + 3) h h' ∧ ItA h' R fr0 (usI (kd : Int))) := by
    unfold Cy_fillIn Cy_fillIn_b2
    refine itr_wp (fun i σ => ∃ h2, σ = (h2, (kd : Int), R, fr0, (i : Int)) ∧ On (fun x k => x = R ∧ fr0 ≤ k ∧ k < fr0 + 3) h h2 ∧ ∀ j : Int, 0 ≤ j → j < (i : Int) → h2 R (fr0 + j) = usI (kd : Int) j) 3 ?_ ?_ (FU_gt (by decide)) ⟨h, rfl, On.rf, fun j j0 j1 => absurd j1 (by omega)⟩
    · rintro i σ k hi ⟨h2, rfl, F2, T2⟩ K
      show wp (Cy_fillIn_b2_body k h2 (kd : Int) R fr0 (i : Int)) _
      unfold Cy_fillIn_b2_body
      rw [if_pos (by rw [w32_n (by omega) (by omega)]; omega), at_st SH1.2.2.2 (by decide) (by omega) (by omega) (by decide), cl_s, (tab_us kd hk i hi).1, put_eq s0 (by omega) (by omega) (by omega) (by omega), cl_s]
      refine K _ ⟨_, rfl, F2.tr (On.up ⟨rfl, by omega, by omega⟩), fun j j0 j1 => ?_⟩
      by_cases e : j = (i : Int)
      · rw [e, up_at]
      · rw [up_off (by omega)]; exact T2 j j0 (by omega)
    · rintro σ k ⟨h2, rfl, F2, T2⟩
      show wp (Cy_fillIn_b2_body k h2 (kd : Int) R fr0 ((3 : Nat) : Int)) _
      unfold Cy_fillIn_b2_body
      rw [if_neg (by decide)]
      exact wp_i ⟨rfl, F2, fun j j0 j1 => T2 j j0 (by omega)⟩
  obtain ⟨x, h', e, rfl, q⟩ := W
  exact ⟨h', e, q⟩
/-- what is told of items: false at a fault -/
def IRs (R fr0 : Int) (B : Nat → Int) (L : Nat) (p : Nat) (t : Nat × Option (Int → Int)) (h : Hp) (x : Int) (h' : Hp) : Prop := On (ITc R fr0) h h' ∧ ((∃ w : Nat, w ≤ L ∧ x = 0 ∧ h' 21 3 = (w : Int) ∧ (t = (w, none) ∨ ∃ y, t = (w, some y) ∧ ¬ chP B L w = 0 ∧ ¬ chP B L w = 59)) ∨ ∃ (q : Nat) (y : Int → Int), t = (q, some y) ∧ x = 1 ∧ p ≤ q ∧ (chP B L q = 0 ∨ chP B L q = 59) ∧ PTp h' B L q ∧ ItA h' R fr0 y)
theorem items_it (b : BOK B L) (O : RwO R fr0 sz) {kd : Nat} (hk : kd < 3) {h0 : Hp} {p0 : Nat} : ∀ (d M p m : Nat) (h : Hp) (r : Int → Int), d + pc3 m = 4 → m < 8 → d < M → p0 ≤ p → PTp h B L p → ItA h R fr0 r → On (ITc R fr0) h0 h → wp (itr (fun k s => Cy_items_b22_body k s.1 s.2.1 s.2.2.1 s.2.2.2.1 s.2.2.2.2.1 s.2.2.2.2.2.1 s.2.2.2.2.2.2) M (h, 21, (kd : Int), R, fr0, (m : Int), ((4 - d : Nat) : Int))) (IRs R fr0 B L p0 (itL B L (kd : Int) d p (m : Int) r) h0) := by
  obtain ⟨s0, r0, f0, f1, s1⟩ := id O
  intro d
  induction d with
  | zero =>
    intro M p m h r h1 h2 h3 h4 T A F
    have := pc3_b m h2
    omega
  | succ d ih =>
    intro M p m h r h1 h2 h3 h4 T A F
    obtain ⟨M, rfl⟩ : ∃ M', M = M' + 1 := ⟨M - 1, by omega⟩
    obtain ⟨n1, n2, n3⟩ := nxP_r (B := B) T.2.2.1
    have cb := chP_b (p := nxP B L p) b
    have T2 := T.mv n2
    rw [itr_s]
    show wp (Cy_items_b22_body _ h 21 (kd : Int) R fr0 (m : Int) ((4 - (d + 1) : Nat) : Int)) _
    unfold Cy_items_b22_body
    rw [if_neg (by rw [w32_n (by omega) (by omega)]; omega), cC_s SH21 rfl, Tp_next_e b T, cl_s, w32_n (x := chP B L (nxP B L p)) (by omega) (by omega)]
    have el : itL B L (kd : Int) (d + 1) p (m : Int) r = if itI (kd : Int) (chP B L (nxP B L p)) < 0 then (nxP B L p, some r) else ifH (m : Int) (itI (kd : Int) (chP B L (nxP B L p))) (nxP B L p, none) (bnP (nuG B L 2 (leI (kd : Int) (itI (kd : Int) (chP B L (nxP B L p)))) (moI (kd : Int) (itI (kd : Int) (chP B L (nxP B L p)))) (nxP B L (nxP B L p + 1))) (fun p' v => itL B L (kd : Int) d p' (ior (m : Int) (ishl 1 (itI (kd : Int) (chP B L (nxP B L p))))) (ud r (itI (kd : Int) (chP B L (nxP B L p))) v))) := rfl
    rw [el]
    have fin : (chP B L (nxP B L p) = 0 ∨ chP B L (nxP B L p) = 59) → wp (some (1, up h 21 2 ((nxP B L p : Nat) : Int))) (IRs R fr0 B L p0 (if itI (kd : Int) (chP B L (nxP B L p)) < 0 then (nxP B L p, some r) else ifH (m : Int) (itI (kd : Int) (chP B L (nxP B L p))) (nxP B L p, none) (bnP (nuG B L 2 (leI (kd : Int) (itI (kd : Int) (chP B L (nxP B L p)))) (moI (kd : Int) (itI (kd : Int) (chP B L (nxP B L p)))) (nxP B L (nxP B L p + 1))) (fun p' v => itL B L (kd : Int) d p' (ior (m : Int) (ishl 1 (itI (kd : Int) (chP B L (nxP B L p))))) (ud r (itI (kd : Int) (chP B L (nxP B L p))) v)))) h0) := by
      intro c
      have i0 : itI (kd : Int) (chP B L (nxP B L p)) < 0 := by
        have z := itI_0 (kd : Int)
        rcases c with c | c <;> rw [c] <;> omega
      rw [if_pos i0]
      exact wp_i ⟨F.tr it_2, Or.inr ⟨nxP B L p, r, rfl, rfl, by omega, c, T2, fun j j0 j1 => by rw [up_ne (by omega)]; exact A j j0 j1⟩⟩
    by_cases c0 : chP B L (nxP B L p) = 0
    · rw [if_pos c0]; exact fin (Or.inl c0)
    · rw [if_neg c0]
      by_cases c59 : chP B L (nxP B L p) = 59
      · rw [if_pos c59]; exact fin (Or.inr c59)
      · have hl := chP_lt c0
        rw [if_neg c59, itemOf_e _ hk (by omega) (by omega), cl_s]
        have ib := itI_b (kd : Int) (chP B L (nxP B L p))
        generalize hj : itI (kd : Int) (chP B L (nxP B L p)) = j at *
        have b72 : ∀ h9 : Hp, h9 21 2 = ((nxP B L p : Nat) : Int) → Cy_items_b72 h9 21 = some (0, up h9 21 3 ((nxP B L p : Nat) : Int)) := by
          intro h9 e9
          unfold Cy_items_b72
          rw [cC_s SH21 rfl, Tp_fail_e, cl_s, e9]
          rfl
        by_cases cj : j < 0
        · have ej : j = -1 := by omega
          rw [if_pos (by rw [ej]; decide), if_pos cj, b72 _ up_at]
          exact wp_i ⟨(F.tr it_2).tr it_3, Or.inl ⟨nxP B L p, n2, rfl, up_at, Or.inr ⟨r, rfl, c0, c59⟩⟩⟩
        · rw [if_neg (by rw [w32_id (by omega) (by omega)]; omega), if_neg cj, Cc_holds_e, cl_s]
          obtain ⟨jn, rfl⟩ : ∃ jn : Nat, j = (jn : Int) := ⟨j.toNat, by omega⟩
          by_cases ch : hbP (m : Int) (jn : Int)
          · have ch' : w32 (iand (ishr (m : Int) (jn : Int)) 1) = 1 := ch
            rw [ifH_1 ch, if_pos ch', if_neg (show ¬ w32 1 = 0 by decide), b72 _ up_at]
            exact wp_i ⟨(F.tr it_2).tr it_3, Or.inl ⟨nxP B L p, n2, rfl, up_at, Or.inl rfl⟩⟩
          · have ch' : ¬ w32 (iand (ishr (m : Int) (jn : Int)) 1) = 1 := ch
            obtain ⟨m1, m2, m3⟩ := (met_t m h2 jn (by omega)).resolve_left ch'
            have tb := (tab_us kd hk jn (by omega)).2.resolve_left (fun z => by have := ib.2.2 (by omega); omega)
            have T3 : PTp (up h 21 2 ((nxP B L p : Int) + 1)) B L (nxP B L p + 1) := T.mv (q := nxP B L p + 1) (by omega)
            have lr : ir (leI (kd : Int) (jn : Int)) ∧ ir (moI (kd : Int) (jn : Int)) := by
              have : ∀ kd : Nat, kd < 3 → ∀ j : Nat, j < 3 → (0 ≤ leI (kd : Int) (j : Int) ∧ leI (kd : Int) (j : Int) ≤ 1) ∧ 0 ≤ moI (kd : Int) (j : Int) ∧ moI (kd : Int) (j : Int) ≤ 99 := by decide +kernel
              have z := this kd hk jn (by omega)
              exact ⟨⟨by omega, by omega⟩, ⟨by omega, by omega⟩⟩
            rw [ifH_0 ch, if_neg ch', if_pos (show w32 0 = 0 by decide), bd_s, pu_s, up_at, up_up, at_st SH1.2.1 (by decide) (by omega) (by omega) (by decide), cl_s, at_st SH1.2.2.1 (by decide) (by omega) (by omega) (by decide), cl_s, tb.1, tb.2]
            rcases Tp_number_e b T3 (m := 2) (by decide) (by decide) lr.1 lr.2 with ⟨w, e1, hw, e2⟩ | ⟨q, v, e1, hq, hq2, v0, v1, -, -, e2⟩
            · have e2' : Tp_number (up h 21 2 ((nxP B L p : Int) + 1)) 21 2 (leI (kd : Int) (jn : Int)) (moI (kd : Int) (jn : Int)) = _ := e2
              rw [up_up] at e2'
              rw [e2', cl_s, if_pos (show w32 (-1) = -1 by decide), e1, bnP_n]
              exact wp_i ⟨(F.tr it_2).tr it_3, Or.inl ⟨w, hw, rfl, up_at, Or.inl rfl⟩⟩
            · have e2' : Tp_number (up h 21 2 ((nxP B L p : Int) + 1)) 21 2 (leI (kd : Int) (jn : Int)) (moI (kd : Int) (jn : Int)) = _ := e2
              rw [up_up] at e2'
              obtain ⟨k1, k2, k3⟩ := nxP_r (B := B) T3.2.2.1
              rw [e2', cl_s, if_neg (by rw [w32_n v0 (by omega)]; omega), e1, bnP_s, put_eq s0 (by omega) (by omega) (by omega) (by omega), cl_s, m1]
              have e4 : ((4 - (d + 1) : Nat) : Int) + 1 = ((4 - d : Nat) : Int) := by have := pc3_b m h2; omega
              rw [e4]
              refine ih M q (m + 2 ^ jn) _ (ud r (jn : Int) v) (by omega) m2 (by omega) (by omega) ?_ (fun i i0 i1 => ?_) ((F.tr it_2).tr (On.up (Or.inr ⟨rfl, by omega, by omega⟩)))
              · exact (T.mv (q := q) hq2).on (by rw [up_ne (by omega)]) (by rw [up_ne (by omega)]) (up_off_row (by omega))
              · by_cases ei : i = (jn : Int)
                · rw [ei, up_at, ud_at]
                · rw [up_off (by omega), ud_ne ei, up_ne (by omega)]; exact A i i0 i1
theorem items_e (b : BOK B L) (O : RwO R fr0 sz) {kd : Nat} (hk : kd < 3) (T : PTp h B L p) (hp : p < L) : wp (Cy_items h 21 (kd : Int) R fr0) (IRs R fr0 B L (p + 1) (itL B L (kd : Int) 4 (p + 1) 0 (usI (kd : Int))) h) := by
  obtain ⟨s0, r0, f0, f1, s1⟩ := id O
  obtain ⟨h1, e1, F1, A1⟩ := fillIn_e (h := h) O hk
  have e21 : h1 21 = h 21 := F1.row (fun k q => by have := q.1; omega)
  have e22 : h1 22 = h 22 := F1.row (fun k q => by have := q.1; omega)
  have T1 : PTp h1 B L p := T.on (by rw [e21]) (by rw [e21]) e22
  unfold Cy_items
  rw [e1, cl_s, cC_s SH21 rfl, pu_s, T1.2.1]
  exact items_it b O hk 4 FU (p + 1) 0 _ (usI (kd : Int)) rfl (by decide) (FU_gt (by decide)) (Nat.le_refl _) (T1.mv (q := p + 1) (by omega)) (fun j j0 j1 => by rw [up_ne (by omega)]; exact A1 j j0 j1) ((F1.w (fun x k q => Or.inr q)).tr it_2)
end C
end PureCty
