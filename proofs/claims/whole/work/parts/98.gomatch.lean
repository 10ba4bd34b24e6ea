section PureGoMatch
/-! MATCHED: the reference's way through the rows of those who owe -/
def adP (n : Nat) (f st : Int → Int) : Prop := ∀ k : Nat, k < n → st (k : Int) ≠ -1 → st (k : Int) ≠ 9 → f (6 * (k : Int) + st (k : Int)) ≠ 0
def asV (n : Nat) (f st : Int → Int) : Int := sm (fun k => if st (k : Int) = -1 then 0 else if st (k : Int) = 9 then 0 else f (36 + 2 * (k : Int))) n
section P
variable {n p q d : Nat} {f st : Int → Int}
theorem asV_9 (hp : st (p : Int) = -1) : asV n f (ud st (p : Int) 9) = asV n f st := by
  unfold asV
  refine sm_c n (fun k hk => ?_)
  by_cases e : k = p
  · subst e
    rw [ud_at, hp, if_neg (by decide), if_pos rfl, if_pos rfl]
  · rw [ud_ne (by omega)]
theorem asV_p (n6 : n ≤ 6) (pq : p < q) (qn : q < n) (hp : st (p : Int) = -1) (hq : st (q : Int) = -1) : asV n f (prS st p q) = asV n f st + f (36 + 2 * (p : Int)) + f (36 + 2 * (q : Int)) := by
  have e1 := sm_chg (f := fun k => if st (k : Int) = -1 then 0 else if st (k : Int) = 9 then 0 else f (36 + 2 * (k : Int))) (g := fun k => if k = p then f (36 + 2 * (p : Int)) else if st (k : Int) = -1 then 0 else if st (k : Int) = 9 then 0 else f (36 + 2 * (k : Int))) (a := p) n (by omega) (fun k _ hk => if_neg hk)
  have e2 := sm_chg (f := fun k => if k = p then f (36 + 2 * (p : Int)) else if st (k : Int) = -1 then 0 else if st (k : Int) = 9 then 0 else f (36 + 2 * (k : Int))) (g := fun k => if k = q then f (36 + 2 * (q : Int)) else if k = p then f (36 + 2 * (p : Int)) else if st (k : Int) = -1 then 0 else if st (k : Int) = 9 then 0 else f (36 + 2 * (k : Int))) (a := q) n qn (fun k _ hk => if_neg hk)
  have e3 : asV n f (prS st p q) = sm (fun k => if k = q then f (36 + 2 * (q : Int)) else if k = p then f (36 + 2 * (p : Int)) else if st (k : Int) = -1 then 0 else if st (k : Int) = 9 then 0 else f (36 + 2 * (k : Int))) n := by
    unfold asV
    refine sm_c n (fun k hk => ?_)
    unfold prS
    by_cases e : k = q
    · rw [if_pos e, e, ud_at]
      have c1 : ¬ (p : Int) = -1 := by omega
      rw [if_neg c1, if_neg (show ¬ (p : Int) = 9 by omega)]
    · rw [if_neg e, ud_ne (by omega)]
      by_cases e' : k = p
      · rw [if_pos e', e', ud_at]
        have c1 : ¬ (q : Int) = -1 := by omega
        rw [if_neg c1, if_neg (show ¬ (q : Int) = 9 by omega)]
      · rw [if_neg e', ud_ne (by omega)]
  rw [e3, e2, e1]
  have z1 : (if p = p then f (36 + 2 * (p : Int)) else if st (p : Int) = -1 then 0 else if st (p : Int) = 9 then 0 else f (36 + 2 * (p : Int))) = f (36 + 2 * (p : Int)) := if_pos rfl
  have z2 : (if q = q then f (36 + 2 * (q : Int)) else if q = p then f (36 + 2 * (p : Int)) else if st (q : Int) = -1 then 0 else if st (q : Int) = 9 then 0 else f (36 + 2 * (q : Int))) = f (36 + 2 * (q : Int)) := if_pos rfl
  have z3 : (if q = p then f (36 + 2 * (p : Int)) else if st (q : Int) = -1 then 0 else if st (q : Int) = 9 then 0 else f (36 + 2 * (q : Int))) = 0 := by rw [if_neg (by omega), if_pos hq]
  have z4 : (if st (p : Int) = -1 then 0 else if st (p : Int) = 9 then 0 else f (36 + 2 * (p : Int))) = 0 := if_pos hp
  rw [z1, z2, z3, z4]
  show sm (fun k => if st (k : Int) = -1 then 0 else if st (k : Int) = 9 then 0 else f (36 + 2 * (k : Int))) n - 0 + f (36 + 2 * (p : Int)) - 0 + f (36 + 2 * (q : Int)) = sm (fun k => if st (k : Int) = -1 then 0 else if st (k : Int) = 9 then 0 else f (36 + 2 * (k : Int))) n + f (36 + 2 * (p : Int)) + f (36 + 2 * (q : Int))
  omega
theorem asV_g (K : seOK n st) : asV n f st = gsV n f st := sm_c n (fun k hk => if_neg (by have := K k hk; omega))
theorem asV_b (g : Gd n f) : 0 ≤ asV n f st ∧ asV n f st ≤ 54 := by
  have n6 := g.1
  have t := sm_b (f := fun k => if st (k : Int) = -1 then 0 else if st (k : Int) = 9 then 0 else f (36 + 2 * (k : Int))) (m := 9) n (fun i hi => by
    have l := Gd_l g (p := (i : Int)) (by omega) (by omega)
    by_cases c : st (i : Int) = -1
    · rw [if_pos c]; omega
    · rw [if_neg c]
      by_cases c2 : st (i : Int) = 9
      · rw [if_pos c2]; omega
      · rw [if_neg c2]; exact l)
  unfold asV
  omega
theorem adP_9 (A : adP n f st) : adP n f (ud st (p : Int) 9) := fun k hk c1 c2 => by
  by_cases e : k = p
  · subst e; rw [ud_at] at c2; exact absurd rfl c2
  · rw [ud_ne (by omega)] at c1 c2 ⊢; exact A k hk c1 c2
theorem adP_p (g : Gd n f) (A : adP n f st) (pq : p < q) (qn : q < n) (o : f (6 * (p : Int) + (q : Int)) ≠ 0) : adP n f (prS st p q) := fun k hk c1 c2 => by
  have n6 := g.1
  unfold prS at c1 c2 ⊢
  by_cases e : k = q
  · subst e
    rw [ud_at, g.2.2.1 _ _ (by omega) (by omega) (by omega) (by omega)]
    exact o
  · rw [ud_ne (by omega)] at c1 c2 ⊢
    by_cases e2 : k = p
    · subst e2; rw [ud_at]; exact o
    · rw [ud_ne (by omega)] at c1 c2 ⊢; exact A k hk c1 c2
/-- those that are seated stay so -/
theorem seF_k : ∀ (d p : Nat) (st x : Int → Int), x ∈ seF n d p st → ∀ k : Nat, st (k : Int) ≠ -1 → x (k : Int) = st (k : Int) := by
  intro d
  induction d with
  | zero =>
    intro p st x hx k hk
    have e : x = st := List.mem_singleton.mp hx
    rw [e]
  | succ d ih =>
    intro p st x hx k hk
    rw [seF_s] at hx
    by_cases c : p < n
    · rw [if_pos c] at hx
      by_cases z : st (p : Int) = -1
      · rw [if_pos z] at hx
        have kp : k ≠ p := fun e => hk (by rw [e]; exact z)
        have G : ∀ (d2 q : Nat), p < q → x ∈ seF.seG n (seF n d (p + 1)) p d2 q st → x (k : Int) = st (k : Int) := by
          intro d2
          induction d2 with
          | zero => intro q pq h2; exact absurd h2 List.not_mem_nil
          | succ d2 ih2 =>
            intro q pq h2
            rw [seG_s] at h2
            rcases List.mem_append.mp h2 with h3 | h3
            · by_cases y : st (q : Int) = -1
              · rw [if_pos y] at h3
                have kq : k ≠ q := fun e => hk (by rw [e]; exact y)
                have e1 : prS st p q (k : Int) = st (k : Int) := by
                  unfold prS
                  rw [ud_ne (by omega), ud_ne (by omega)]
                have t := ih (p + 1) (prS st p q) x h3 k (by rw [e1]; exact hk)
                rw [t, e1]
              · rw [if_neg y] at h3
                exact absurd h3 List.not_mem_nil
            · exact ih2 (q + 1) (by omega) h3
        rcases List.mem_append.mp hx with h2 | h2
        · exact G _ _ (by omega) h2
        · have e1 : ud st (p : Int) 9 (k : Int) = st (k : Int) := ud_ne (by omega)
          have t := ih (p + 1) _ x h2 k (by rw [e1]; exact hk)
          rw [t, e1]
      · rw [if_neg z] at hx
        exact ih (p + 1) st x hx k hk
    · rw [if_neg c] at hx
      have e : x = st := List.mem_singleton.mp hx
      rw [e]
theorem mtM_no : ∀ (l : List (Int → Int)) (s : Int × Int), (∀ x ∈ l, ¬ adM n f x) → l.foldl (mtM n f) s = s := by
  intro l
  induction l with
  | nil => exact fun s _ => rfl
  | cons st l ih =>
    intro s K
    rw [List.foldl_cons, mtM_0 (K st (List.mem_cons_self ..))]
    exact ih s (fun x hx => K x (List.mem_cons_of_mem _ hx))
/-- who owes nothing sits with nobody -/
theorem mt_skip (n6 : n ≤ 6) (pq : p < q) (qn : q < n) (o : f (6 * (p : Int) + (q : Int)) = 0) : ∀ x ∈ seF n d (p + 1) (prS st p q), ¬ adM n f x := fun x hx A => by
  have e0 : prS st p q (p : Int) = (q : Int) := by
    unfold prS
    rw [ud_ne (by omega), ud_at]
  have e := seF_k d (p + 1) (prS st p q) x hx p (by rw [e0]; omega)
  rw [e0] at e
  have t := (A p (by omega)).2
  rw [e] at t
  exact t (by omega) o
def mtB (s : Int × Int) : Prop := (-1 ≤ s.1 ∧ s.1 < 1000000) ∧ 0 ≤ s.2 ∧ s.2 ≤ 54
theorem mtM_b (g : Gd n f) : ∀ (l : List (Int → Int)) (s : Int × Int), mtB s → mtB (l.foldl (mtM n f) s) := by
  have n6 := g.1
  intro l
  induction l with
  | nil => exact fun s b => b
  | cons st l ih =>
    intro s b
    rw [List.foldl_cons]
    refine ih _ ?_
    by_cases p : adM n f st
    · have rb := rowN_b n6 (fun k hk => (p k hk).1) n (Nat.le_refl _)
      have p6 : 10 ^ n ≤ 10 ^ 6 := Nat.pow_le_pow_right (by decide) n6
      have gb := gsV_b (st := st) g n (Nat.le_refl _)
      have nb : mtB (rowN n st, gsV n f st) := ⟨⟨by show -1 ≤ rowN n st; omega, by show rowN n st < 1000000; omega⟩, gb.1, by show gsV n f st ≤ 54; omega⟩
      rw [mtM_1 p]
      by_cases c1 : s.1 = -1
      · rw [if_pos c1]; exact nb
      · rw [if_neg c1]
        by_cases c2 : gsV n f st < s.2
        · rw [if_pos c2]; exact b
        · rw [if_neg c2]
          by_cases c3 : gsV n f st = s.2
          · rw [if_pos c3]
            by_cases c4 : rowN n st < s.1
            · rw [if_pos c4]; exact nb
            · rw [if_neg c4]; exact b
          · rw [if_neg c3]; exact nb
    · rw [mtM_0 p]; exact b
end P
def Tgm (a k : Int) : Prop := a = 2038 ∨ (a = 2000 ∧ (k = 44 ∨ k = 45))
section F
variable {n : Nat} {f : Int → Int}
theorem stm_gm {h h' : Hp} (M : StM h 2032 n f) (F : On Tgm h h') : StM h' 2032 n f := ⟨M.1, by rw [F 2000 26 (by unfold Tgm; omega)]; exact M.2.1, by rw [mR_e (h := h) (fun k _ _ => F 2032 k (by unfold Tgm; omega))]; exact M.2.2.1, M.2.2.2⟩
def GMr (n : Nat) (f : Int → Int) (X : Option (Int × Hp)) (h : Hp) (st : Int → Int) (L : List (Int → Int)) (s : Int × Int) : Prop := ∃ h', X = some (0, h') ∧ On Tgm h h' ∧ MS h' n st ∧ h' 2000 44 = (L.foldl (mtM n f) s).1 ∧ h' 2000 45 = (L.foldl (mtM n f) s).2
def MD (h : Hp) (n : Nat) (f : Int → Int) (s : Int × Int) : Prop := StM h 2032 n f ∧ h 2000 44 = s.1 ∧ h 2000 45 = s.2 ∧ mtB s
theorem gm_leaf {kf : Hp × Int × Int × Int → Option (Int × Hp)} {h : Hp} {st : Int → Int} {s : Int × Int} (K : seOK n st) (T : MS h n st) (C : MD h n f s) (P : adP n f st) : GMr n f (Md_goMatch_b26 kf h 2000 (asV n f st) (n : Int)) h st [st] s := by
  obtain ⟨M, c44, c45, ⟨b1, b2⟩, b3, b4⟩ := C
  have n6 := M.2.2.2.1
  have g := M.2.2.2
  have gb := gsV_b (st := st) g n (Nat.le_refl _)
  have rb := rowN_b n6 K n (Nat.le_refl _)
  have p6 : 10 ^ n ≤ 10 ^ 6 := Nat.pow_le_pow_right (by decide) n6
  have ad : adM n f st := fun k hk => ⟨K k hk, fun c => P k hk (by have := K k hk; omega) c⟩
  have b83 : Md_goMatch_b83 kf h 2000 (gsV n f st) (rowN n st) = some (0, up (up h 2000 44 (rowN n st)) 2000 45 (gsV n f st)) := by
    unfold Md_goMatch_b83
    rw [cC_s SH2000' rfl, pu_s, pu_s]
  have nw : GMr n f (Md_goMatch_b83 kf h 2000 (gsV n f st) (rowN n st)) h st [st] s ↔ mtM n f s st = (rowN n st, gsV n f st) ∨ GMr n f (Md_goMatch_b83 kf h 2000 (gsV n f st) (rowN n st)) h st [st] s := ⟨fun q => Or.inr q, fun q => q.elim (fun e => ⟨_, b83, (On.up (Or.inr ⟨rfl, Or.inl rfl⟩)).tr (On.up (Or.inr ⟨rfl, Or.inr rfl⟩)), fun k hk => by rw [up_ne (by decide), up_ne (by decide)]; exact T k hk, by
    show up (up h 2000 44 (rowN n st)) 2000 45 (gsV n f st) 2000 44 = (mtM n f s st).1
    rw [e, up_off (by decide), up_at], by
    show up (up h 2000 44 (rowN n st)) 2000 45 (gsV n f st) 2000 45 = (mtM n f s st).2
    rw [e, up_at]⟩) id⟩
  have old : mtM n f s st = s → GMr n f (some (0, h)) h st [st] s := fun e => ⟨h, rfl, On.rf, T, by
    show h 2000 44 = (mtM n f s st).1
    rw [e]; exact c44, by
    show h 2000 45 = (mtM n f s st).2
    rw [e]; exact c45⟩
  rw [asV_g K]
  unfold Md_goMatch_b26
  rw [cC_s SH2000' rfl, M.2.1, if_pos rfl, c44, c45, w32_id (x := s.1) (by omega) (by omega), w32_n (x := gsV n f st) (by omega) (by omega), w32_n (x := s.2) (by omega) (by omega)]
  have eb51 : Md_goMatch_b51 kf h 2000 (gsV n f st) = if s.1 = -1 then Md_goMatch_b83 kf h 2000 (gsV n f st) (rowN n st) else if gsV n f st = s.2 then (if rowN n st < s.1 then Md_goMatch_b83 kf h 2000 (gsV n f st) (rowN n st) else some (0, h)) else Md_goMatch_b83 kf h 2000 (gsV n f st) (rowN n st) := by
    unfold Md_goMatch_b51
    rw [cC_s SH2000' rfl, m_rowOf n6 M.2.1 K T, cl_s, c44, c45, w32_id (x := s.1) (by omega) (by omega), w32_n (x := gsV n f st) (by omega) (by omega), w32_n (x := s.2) (by omega) (by omega), w32_n (x := rowN n st) (by omega) (by omega)]
  have em := mtM_1 (s := s) ad
  by_cases c1 : s.1 = -1
  · rw [if_pos c1, eb51, if_pos c1]
    rw [if_pos c1] at em
    exact nw.mpr (Or.inl em)
  · rw [if_neg c1]
    rw [if_neg c1] at em
    by_cases c2 : gsV n f st < s.2
    · rw [if_pos c2]
      rw [if_pos c2] at em
      exact old em
    · rw [if_neg c2, eb51, if_neg c1]
      rw [if_neg c2] at em
      by_cases c3 : gsV n f st = s.2
      · rw [if_pos c3]
        rw [if_pos c3] at em
        by_cases c4 : rowN n st < s.1
        · rw [if_pos c4]
          rw [if_pos c4] at em
          exact nw.mpr (Or.inl em)
        · rw [if_neg c4]
          rw [if_neg c4] at em
          exact old em
      · rw [if_neg c3]
        rw [if_neg c3] at em
        exact nw.mpr (Or.inl em)
end F
end PureGoMatch
