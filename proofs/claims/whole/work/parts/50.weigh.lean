section PureWeigh
/-! the class weighs a law: what is put behind on the pile of numbers is what the grammar's payload says -/
theorem jo_38 (h : Hp) (a b : Int) : Lw_joined h 38 a b = some (land a b, h) := by
  unfold Lw_joined
  rw [if_pos (show w32 38 = 38 by decide)]
theorem jo_42 (h : Hp) (a b : Int) : Lw_joined h 42 a b = some (a * b, h) := by
  unfold Lw_joined
  rw [if_neg (show ¬ w32 42 = 38 by decide), if_neg (show ¬ w32 42 = 39 by decide), if_neg (show ¬ w32 42 = 40 by decide), if_neg (show ¬ w32 42 = 41 by decide), if_pos (show w32 42 = 42 by decide)]
theorem jo_43 (h : Hp) (a b : Int) : Lw_joined h 43 a b = some (a + b, h) := by
  unfold Lw_joined
  rw [if_neg (show ¬ w32 43 = 38 by decide), if_neg (show ¬ w32 43 = 39 by decide), if_neg (show ¬ w32 43 = 40 by decide), if_neg (show ¬ w32 43 = 41 by decide), if_neg (show ¬ w32 43 = 42 by decide), if_pos (show w32 43 = 43 by decide)]
theorem jo_45 (h : Hp) (a b : Int) : Lw_joined h 45 a b = some (a - b, h) := by
  unfold Lw_joined
  rw [if_neg (show ¬ w32 45 = 38 by decide), if_neg (show ¬ w32 45 = 39 by decide), if_neg (show ¬ w32 45 = 40 by decide), if_neg (show ¬ w32 45 = 41 by decide), if_neg (show ¬ w32 45 = 42 by decide), if_neg (show ¬ w32 45 = 43 by decide), if_neg (show ¬ w32 45 = 44 by decide), if_pos (show w32 45 = 45 by decide)]
theorem jo_47 (h : Hp) (a b : Int) : Lw_joined h 47 a b = if w32 (lcm b 0) = 0 then some (0, h) else cDl b (some ((w64 a).tdiv (w64 b), h)) := by
  unfold Lw_joined
  rw [if_neg (show ¬ w32 47 = 38 by decide), if_neg (show ¬ w32 47 = 39 by decide), if_neg (show ¬ w32 47 = 40 by decide), if_neg (show ¬ w32 47 = 41 by decide), if_neg (show ¬ w32 47 = 42 by decide), if_neg (show ¬ w32 47 = 43 by decide), if_neg (show ¬ w32 47 = 44 by decide), if_neg (show ¬ w32 47 = 45 by decide), if_neg (show ¬ w32 47 = 46 by decide), if_pos (show w32 47 = 47 by decide)]
theorem jo_60 (h : Hp) (a b : Int) : Lw_joined h 60 a b = if w32 (lcm a b) < 0 then some (1, h) else some (0, h) := by
  unfold Lw_joined
  rw [if_neg (show ¬ w32 60 = 38 by decide), if_neg (show ¬ w32 60 = 39 by decide), if_neg (show ¬ w32 60 = 40 by decide), if_neg (show ¬ w32 60 = 41 by decide), if_neg (show ¬ w32 60 = 42 by decide), if_neg (show ¬ w32 60 = 43 by decide), if_neg (show ¬ w32 60 = 44 by decide), if_neg (show ¬ w32 60 = 45 by decide), if_neg (show ¬ w32 60 = 46 by decide), if_neg (show ¬ w32 60 = 47 by decide), if_neg (show ¬ w32 60 = 48 by decide), if_neg (show ¬ w32 60 = 49 by decide), if_neg (show ¬ w32 60 = 50 by decide), if_neg (show ¬ w32 60 = 51 by decide), if_neg (show ¬ w32 60 = 52 by decide), if_neg (show ¬ w32 60 = 53 by decide), if_neg (show ¬ w32 60 = 54 by decide), if_neg (show ¬ w32 60 = 55 by decide), if_neg (show ¬ w32 60 = 56 by decide), if_neg (show ¬ w32 60 = 57 by decide), if_neg (show ¬ w32 60 = 58 by decide), if_neg (show ¬ w32 60 = 59 by decide), if_pos (show w32 60 = 60 by decide)]
theorem jo_61 (h : Hp) (a b : Int) : Lw_joined h 61 a b = if w32 (lcm a b) = 0 then some (1, h) else some (0, h) := by
  unfold Lw_joined
  rw [if_neg (show ¬ w32 61 = 38 by decide), if_neg (show ¬ w32 61 = 39 by decide), if_neg (show ¬ w32 61 = 40 by decide), if_neg (show ¬ w32 61 = 41 by decide), if_neg (show ¬ w32 61 = 42 by decide), if_neg (show ¬ w32 61 = 43 by decide), if_neg (show ¬ w32 61 = 44 by decide), if_neg (show ¬ w32 61 = 45 by decide), if_neg (show ¬ w32 61 = 46 by decide), if_neg (show ¬ w32 61 = 47 by decide), if_neg (show ¬ w32 61 = 48 by decide), if_neg (show ¬ w32 61 = 49 by decide), if_neg (show ¬ w32 61 = 50 by decide), if_neg (show ¬ w32 61 = 51 by decide), if_neg (show ¬ w32 61 = 52 by decide), if_neg (show ¬ w32 61 = 53 by decide), if_neg (show ¬ w32 61 = 54 by decide), if_neg (show ¬ w32 61 = 55 by decide), if_neg (show ¬ w32 61 = 56 by decide), if_neg (show ¬ w32 61 = 57 by decide), if_neg (show ¬ w32 61 = 58 by decide), if_neg (show ¬ w32 61 = 59 by decide), if_neg (show ¬ w32 61 = 60 by decide), if_pos (show w32 61 = 61 by decide)]
theorem jo_62 (h : Hp) (a b : Int) : Lw_joined h 62 a b = if 0 < w32 (lcm a b) then some (1, h) else some (0, h) := by
  unfold Lw_joined
  rw [if_neg (show ¬ w32 62 = 38 by decide), if_neg (show ¬ w32 62 = 39 by decide), if_neg (show ¬ w32 62 = 40 by decide), if_neg (show ¬ w32 62 = 41 by decide), if_neg (show ¬ w32 62 = 42 by decide), if_neg (show ¬ w32 62 = 43 by decide), if_neg (show ¬ w32 62 = 44 by decide), if_neg (show ¬ w32 62 = 45 by decide), if_neg (show ¬ w32 62 = 46 by decide), if_neg (show ¬ w32 62 = 47 by decide), if_neg (show ¬ w32 62 = 48 by decide), if_neg (show ¬ w32 62 = 49 by decide), if_neg (show ¬ w32 62 = 50 by decide), if_neg (show ¬ w32 62 = 51 by decide), if_neg (show ¬ w32 62 = 52 by decide), if_neg (show ¬ w32 62 = 53 by decide), if_neg (show ¬ w32 62 = 54 by decide), if_neg (show ¬ w32 62 = 55 by decide), if_neg (show ¬ w32 62 = 56 by decide), if_neg (show ¬ w32 62 = 57 by decide), if_neg (show ¬ w32 62 = 58 by decide), if_neg (show ¬ w32 62 = 59 by decide), if_neg (show ¬ w32 62 = 60 by decide), if_neg (show ¬ w32 62 = 61 by decide), if_pos (show w32 62 = 62 by decide)]
theorem jo_124 (h : Hp) (a b : Int) : Lw_joined h 124 a b = some (lor a b, h) := by
  unfold Lw_joined
  rw [if_neg (show ¬ w32 124 = 38 by decide), if_neg (show ¬ w32 124 = 39 by decide), if_neg (show ¬ w32 124 = 40 by decide), if_neg (show ¬ w32 124 = 41 by decide), if_neg (show ¬ w32 124 = 42 by decide), if_neg (show ¬ w32 124 = 43 by decide), if_neg (show ¬ w32 124 = 44 by decide), if_neg (show ¬ w32 124 = 45 by decide), if_neg (show ¬ w32 124 = 46 by decide), if_neg (show ¬ w32 124 = 47 by decide), if_neg (show ¬ w32 124 = 48 by decide), if_neg (show ¬ w32 124 = 49 by decide), if_neg (show ¬ w32 124 = 50 by decide), if_neg (show ¬ w32 124 = 51 by decide), if_neg (show ¬ w32 124 = 52 by decide), if_neg (show ¬ w32 124 = 53 by decide), if_neg (show ¬ w32 124 = 54 by decide), if_neg (show ¬ w32 124 = 55 by decide), if_neg (show ¬ w32 124 = 56 by decide), if_neg (show ¬ w32 124 = 57 by decide), if_neg (show ¬ w32 124 = 58 by decide), if_neg (show ¬ w32 124 = 59 by decide), if_neg (show ¬ w32 124 = 60 by decide), if_neg (show ¬ w32 124 = 61 by decide), if_neg (show ¬ w32 124 = 62 by decide)]
def WTa (a x k : Int) : Prop := (x = a ∧ k = 3) ∨ x = a + 2
def SK (h : Hp) (a : Int) (st : List Int) : Prop := h a 3 = (st.length : Int) ∧ ∀ (j : Nat) (x : Int), st[j]? = some x → h (a + 2) (j : Int) = x
theorem wiV_1 {z : Int} (h : V1 z) : wiV z = z := by
  rw [wiV_e (by have := h.1; omega) (by have := h.2; omega)]
  unfold clmp
  obtain ⟨h0, h1⟩ := h
  by_cases c : z < 1000000
  · rw [if_pos c, if_neg (by omega)]
  · rw [if_neg c, if_neg (by decide)]; omega
theorem V2_1 {z : Int} (h : V2 z) : V1 z := by
  unfold V1
  rcases h with e | e <;> omega
section W
variable {h : Hp} {a : Int} {st : List Int}
theorem push_e (ia : IsL a) (K : SK h a st) (hl : st.length < 64) (v : Int) : ∃ h', Lw_push h a v = some (0, h') ∧ On (WTa a) h h' ∧ SK h' a (st ++ [v]) := by
  obtain ⟨i1, i2, i3⟩ := id ia
  obtain ⟨s0, s1, s2⟩ := IsL_sh ia
  obtain ⟨k1, k2⟩ := K
  refine ⟨up (up h (a + 2) (st.length : Int) v) a 3 ((st.length : Int) + 1), ?_, (On.up (Or.inr rfl)).tr (On.up (Or.inl ⟨rfl, rfl⟩)), ?_, ?_⟩
  · unfold Lw_push
    rw [cC_s s0 rfl, k1, w32_n (by omega) (by omega), if_neg (by omega), if_pos (by omega), cY_s s2 (by omega) (by omega) (by omega) (by omega), pu_s, pu_s, up_ne (h := h) (a := a + 2) (b := a) (by omega), k1]
  · rw [up_at, List.length_append]; rfl
  · intro j x e
    rw [up_ne (by omega)]
    by_cases hj : j < st.length
    · rw [List.getElem?_append_left hj] at e
      rw [up_off (by omega)]
      exact k2 j x e
    · rw [List.getElem?_append_right (by omega)] at e
      cases hd : j - st.length with
      | zero =>
        rw [hd] at e
        have : j = st.length := by omega
        subst this
        rw [up_at]
        exact Option.some.inj e
      | succ d => rw [hd] at e; cases e
theorem pop_e (ia : IsL a) {x : Int} (K : SK h a (st ++ [x])) (hl : st.length < 64) : ∃ h', Lw_pop h a = some (x, h') ∧ On (WTa a) h h' ∧ SK h' a st := by
  obtain ⟨i1, i2, i3⟩ := id ia
  obtain ⟨s0, s1, s2⟩ := IsL_sh ia
  obtain ⟨k1, k2⟩ := K
  have k1' : h a 3 = (st.length : Int) + 1 := by rw [k1, List.length_append]; rfl
  have e1 : (st.length : Int) + 1 - 1 = (st.length : Int) := by omega
  refine ⟨up h a 3 (st.length : Int), ?_, On.up (Or.inl ⟨rfl, rfl⟩), up_at, ?_⟩
  · unfold Lw_pop
    rw [cC_s s0 rfl, k1', w32_n (x := (st.length : Int) + 1) (by omega) (by omega), if_pos (by omega), if_neg (by omega), pu_s, e1, up_at, cX_s s2 (by omega) (by omega) (by omega), rd_ge (by omega), w32_n (by omega) (by omega), up_ne (by omega)]
    rw [k2 st.length x (by rw [List.getElem?_append_right (Nat.le_refl _), Nat.sub_self]; rfl)]
  · intro j y e
    rw [up_ne (by omega)]
    have hj : j < st.length := by
      rcases Nat.lt_or_ge j st.length with q | q
      · exact q
      · rw [List.getElem?_eq_none (by omega)] at e; cases e
    exact k2 j y (by rw [List.getElem?_append_left hj]; exact e)
abbrev Wb : (Hp × Int × Int × Int × Int → Option (Int × Hp)) → Hp × Int × Int × Int × Int → Option (Int × Hp) := fun k s => Lw_worth_b9_body k s.1 s.2.1 s.2.2.1 s.2.2.2.1 s.2.2.2.2
/-- what stays while a law is weighed: its code, the letters -/
def WSt (h : Hp) (a : Int) (code : List Int) (v : Int → Int) : Prop := LCo h a code ∧ code.length ≤ 240 ∧ (∀ l : Int, 0 ≤ l → l < 6 → h 75 l = v l) ∧ EBv v
theorem WSt.on {h' : Hp} {code : List Int} {v : Int → Int} (ia : IsL a) (w : WSt h a code v) (F : On (WTa a) h h') : WSt h' a code v := by
  obtain ⟨i1, i2, i3⟩ := id ia
  obtain ⟨⟨w1, w2⟩, w3, w4, w5⟩ := w
  exact ⟨⟨by rw [F a 2 (fun q => by unfold WTa at q; omega)]; exact w1, fun i x e => by rw [F (a + 1) _ (fun q => by unfold WTa at q; omega)]; exact w2 i x e⟩, w3, fun l l0 l1 => by rw [F 75 l (fun q => by unfold WTa at q; omega)]; exact w4 l l0 l1, w5⟩
/-- a stretch of code stands at i -/
def Ats (code c : List Int) (i : Nat) : Prop := ∀ (j : Nat) (x : Int), c[j]? = some x → code[i + j]? = some x
theorem Ats.l {code c d : List Int} {i : Nat} (A : Ats code (c ++ d) i) : Ats code c i := fun j x e => A j x (by
  have hj : j < c.length := by
    rcases Nat.lt_or_ge j c.length with q | q
    · exact q
    · rw [List.getElem?_eq_none (by omega)] at e; cases e
  rw [List.getElem?_append_left hj]; exact e)
theorem Ats.r {code c d : List Int} {i : Nat} (A : Ats code (c ++ d) i) : Ats code d (i + c.length) := fun j x e => by
  have := A (c.length + j) x (by rw [List.getElem?_append_right (by omega)]; rw [Nat.add_sub_cancel_left]; exact e)
  rw [Nat.add_assoc]
  exact this
def Sg (c : List Int) (f : (Int → Int) → Int) (V : Int → Prop) (m : Nat) : Prop := ∀ (a : Int) (h : Hp) (st : List Int) (i : Nat) (v : Int → Int) (code : List Int), IsL a → WSt h a code v → Ats code c i → SK h a st → st.length + m ≤ 64 → ∃ h', On (WTa a) h h' ∧ SK h' a (st ++ [f v]) ∧ V (f v) ∧ ∀ M, itr Wb (M + c.length) (h, a, 75, 0, (i : Int)) = itr Wb M (h', a, 75, 0, ((i + c.length : Nat) : Int))
theorem Sg.mono {c : List Int} {f : (Int → Int) → Int} {V : Int → Prop} {m m' : Nat} (S : Sg c f V m) (hm : m ≤ m') : Sg c f V m' := fun a h st i v code ia w A K hl => S a h st i v code ia w A K (by omega)
theorem SgV {c : List Int} {f : (Int → Int) → Int} {m : Nat} (S : Sg c f V2 m) : Sg c f V1 m := fun a h st i v code ia w A K hl => by
  obtain ⟨h', q1, q2, q3, q4⟩ := S a h st i v code ia w A K hl
  exact ⟨h', q1, q2, V2_1 q3, q4⟩
/-- one sign weighed -/
theorem one_sg {s : Int} {i : Nat} {v : Int → Int} {code : List Int} (ia : IsL a) (w : WSt h a code v) (A : code[i]? = some s) (s0 : 0 ≤ s) (s1 : s ≤ 20000) (n59 : s ≠ 59) (n63 : s ≠ 63) {h' : Hp} (e : Lw_weigh h a s 75 = some (0, h')) : ∀ M, itr Wb (M + 1) (h, a, 75, 0, (i : Int)) = itr Wb M (h', a, 75, 0, ((i + 1 : Nat) : Int)) := by
  intro M
  obtain ⟨i1, i2, i3⟩ := id ia
  obtain ⟨sh0, sh1, sh2⟩ := IsL_sh ia
  obtain ⟨⟨w1, w2⟩, w3, w4, w5⟩ := w
  have hi : i < code.length := by
    rcases Nat.lt_or_ge i code.length with q | q
    · exact q
    · rw [List.getElem?_eq_none (by omega)] at A; cases A
  rw [itr_s]
  show Lw_worth_b9_body (itr Wb M) h a 75 0 (i : Int) = _
  unfold Lw_worth_b9_body Lw_worth_b75
  rw [cC_s sh0 rfl, w1, w32_n (x := (i : Int)) (by omega) (by omega), w32_n (x := (code.length : Int)) (by omega) (by omega), if_pos (by omega), at_eq sh1 (by omega) (by omega) (by omega) (by omega), cl_s, w2 i s A, w32_n (x := s) s0 (by omega), if_neg n59, if_pos (show w32 0 = 0 by decide), if_neg n63, if_pos (show w32 0 = 0 by decide), cC_s sh0 rfl, e, cl_s]
  rfl
theorem sg_num {n : Int} (n0 : 0 ≤ n) (n1 : n ≤ 9999) : Sg [1000 + n] (fun _ => n) V1 1 := by
  intro a h st i v code ia w A K hl
  obtain ⟨h', e, F, K'⟩ := push_e ia K (by omega) n
  refine ⟨h', F, K', (show V1 n from ⟨by omega, by omega⟩), one_sg ia w (A 0 _ rfl) (by omega) (by omega) (by omega) (by omega) ?_⟩
  unfold Lw_weigh
  have en : 1000 + n - 1000 = n := by omega
  rw [w32_n (x := 1000 + n) (by omega) (by omega), if_neg (by omega), cC_s (IsL_sh ia).1 rfl, en, e, cl_s]
theorem SH75 : SH 75 = (100, 6) := by decide +kernel
theorem sg_let {l : Int} (l0 : 0 ≤ l) (l1 : l < 6) : Sg [500 + l] (fun v => v l) V1 1 := by
  intro a h st i v code ia w A K hl
  obtain ⟨h', e, F, K'⟩ := push_e ia K (by omega) (v l)
  have b := w.2.2.2 l l0 l1
  refine ⟨h', F, K', (show V1 (v l) from ⟨by omega, by omega⟩), one_sg ia w (A 0 _ rfl) (by omega) (by omega) (by omega) (by omega) ?_⟩
  unfold Lw_weigh
  have en : 500 + l - 500 = l := by omega
  rw [w32_n (x := 500 + l) (by omega) (by omega), if_pos (by omega), if_neg (by omega), en, at_eq SH75 (by omega) l0 (by omega) (by omega), cl_s, w.2.2.1 l l0 l1, cC_s (IsL_sh ia).1 rfl, e, cl_s]
theorem sg_not {c : List Int} {f : (Int → Int) → Int} {m : Nat} (S : Sg c f V2 m) : Sg (c ++ [33]) (fun v => 1 - f v) V2 (m + 1) := by
  intro a h st i v code ia w A K hl
  obtain ⟨h1, F1, K1, v1, r1⟩ := S a h st i v code ia w A.l K (by omega)
  obtain ⟨h2, e2, F2, K2⟩ := pop_e ia K1 (by omega)
  obtain ⟨h3, e3, F3, K3⟩ := push_e ia K2 (by omega) (1 - f v)
  have vb : V2 (1 - f v) := by unfold V2 at v1 ⊢; omega
  refine ⟨h3, (F1.tr F2).tr F3, K3, vb, fun M => ?_⟩
  have ew : Lw_weigh h1 a 33 75 = some (0, h3) := by
    unfold Lw_weigh
    rw [if_pos (show w32 33 < 1000 by decide), if_pos (show w32 33 < 500 by decide), if_pos (show w32 33 = 33 by decide), cC_s (IsL_sh ia).1 rfl, e2, cl_s, e3, cl_s]
  have A3 := A.r 0 33 rfl
  rw [Nat.add_zero] at A3
  have o := one_sg ia (w.on ia F1) A3 (by decide) (by decide) (by decide) (by decide) ew M
  have el : (c ++ [33]).length = 1 + c.length := by rw [List.length_append, Nat.add_comm]; rfl
  have e9 : i + (1 + c.length) = i + c.length + 1 := by omega
  rw [el, ← Nat.add_assoc, r1 (M + 1), o, e9]
/-- the signs between two -/
def Ops (V V' : Int → Prop) (s : Int) : Prop := ∀ (h : Hp) (x y : Int), V x → V y → ∃ z, Lw_joined h s (w32 x) (w32 y) = some (z, h) ∧ wiV z = opV s x y ∧ V' (opV s x y)
theorem sg_op {c d : List Int} {f g : (Int → Int) → Int} {V V' : Int → Prop} {m : Nat} {s : Int} (S : Sg c f V m) (T : Sg d g V m) (O : Ops V V' s) (s33 : 33 < s) (s500 : s < 500) (n59 : s ≠ 59) (n63 : s ≠ 63) : Sg (c ++ d ++ [s]) (fun v => opV s (f v) (g v)) V' (m + 2) := by
  intro a h st i v code ia w A K hl
  obtain ⟨h1, F1, K1, v1, r1⟩ := S a h st i v code ia w A.l.l K (by omega)
  obtain ⟨h2, F2, K2, v2, r2⟩ := T a h1 (st ++ [f v]) (i + c.length) v code ia (w.on ia F1) A.l.r K1 (by rw [List.length_append]; show st.length + 1 + m ≤ 64; omega)
  obtain ⟨h3, e3, F3, K3⟩ := pop_e ia K2 (by rw [List.length_append]; show st.length + 1 < 64; omega)
  obtain ⟨h4, e4, F4, K4⟩ := pop_e ia K3 (by omega)
  obtain ⟨z, ez, ew, vz⟩ := O h4 (f v) (g v) v1 v2
  obtain ⟨h5, e5, F5, K5⟩ := push_e ia K4 (by omega) (opV s (f v) (g v))
  refine ⟨h5, (((F1.tr F2).tr F3).tr F4).tr F5, K5, vz, fun M => ?_⟩
  have we : Lw_weigh h2 a s 75 = some (0, h5) := by
    unfold Lw_weigh
    rw [w32_n (x := s) (by omega) (by omega), if_pos (by omega), if_pos (by omega), if_neg (by omega), cC_s (IsL_sh ia).1 rfl, e3, cl_s, e4, cl_s, ez, cl_s]
    show cl (Lw_push h4 a (wiV z)) _ = _
    rw [ew, e5, cl_s]
  have A3 := A.r 0 s rfl
  rw [Nat.add_zero] at A3
  have o := one_sg ia ((w.on ia F1).on ia F2) A3 (by omega) (by omega) n59 n63 we M
  have el : (c ++ d ++ [s]).length = c.length + d.length + 1 := by rw [List.length_append, List.length_append]; rfl
  have el2 : (c ++ d).length = c.length + d.length := List.length_append
  have em : M + (c.length + d.length + 1) = (M + 1 + d.length) + c.length := by omega
  have ei : i + c.length + d.length = i + (c.length + d.length) := by omega
  have ei2 : i + (c.length + d.length + 1) = i + (c.length + d.length) + 1 := by omega
  rw [el2] at o
  rw [el, em, r1, r2, ei, o, ei2]
end W
theorem w64_w32V {x : Int} (h : V1 x) : w64 (w32 x) = x := by rw [w32_V h, w64_V h]
theorem op_43 : Ops V1 V1 43 := fun h x y hx hy => ⟨_, jo_43 h _ _, by
  have := hx.1; have := hx.2; have := hy.1; have := hy.2
  rw [w32_V hx, w32_V hy, wiV_e (by omega) (by omega)]; rfl, clmp_b _⟩
theorem op_45 : Ops V1 V1 45 := fun h x y hx hy => ⟨_, jo_45 h _ _, by
  have := hx.1; have := hx.2; have := hy.1; have := hy.2
  rw [w32_V hx, w32_V hy, wiV_e (by omega) (by omega)]; rfl, clmp_b _⟩
theorem op_42 : Ops V1 V1 42 := fun h x y hx hy => ⟨_, jo_42 h _ _, by
  have := mul_b hx hy
  rw [w32_V hx, w32_V hy, wiV_e (by omega) (by omega)]; rfl, clmp_b _⟩
theorem op_47 : Ops V1 V1 47 := fun h x y hx hy => by
  have db := div_b hx y
  have hl := lcm0 y
  rw [w64_V hy] at hl
  rw [jo_47, w32_V hx, w32_V hy, w64_V hx, w64_V hy]
  have eo : opV 47 x y = if y = 0 then clmp 0 else clmp (x.tdiv y) := rfl
  rw [eo]
  by_cases z : y = 0
  · rw [if_pos (hl.mpr z), if_pos z]
    exact ⟨0, rfl, by rw [wiV_e (by decide) (by decide)], clmp_b _⟩
  · rw [if_neg (fun e => z (hl.mp e)), if_neg z]
    have cz : cDl (α := Int × Hp) y = fun A => A := funext fun A => if_neg (by rw [w64_V hy]; exact z)
    rw [cz]
    exact ⟨_, rfl, by rw [wiV_e (by omega) (by omega)], clmp_b _⟩
theorem V1_ir {x : Int} (h : V1 x) : ir x := ⟨by have := h.1; omega, by have := h.2; omega⟩
theorem lcm_eq {x y : Int} (hx : V1 x) (hy : V1 y) : w32 (lcm x y) = 0 ↔ x = y := by
  unfold lcm
  rw [w64_V hx, w64_V hy]
  by_cases c : y < x
  · rw [if_pos c]; exact ⟨fun e => absurd e (by decide), fun e => by omega⟩
  · rw [if_neg c]
    by_cases d : x = y
    · rw [if_pos d]; exact ⟨fun _ => d, fun _ => by decide⟩
    · rw [if_neg d]; exact ⟨fun e => absurd e (by decide), fun e => absurd e d⟩
theorem if_01 {P : Prop} [Decidable P] (h : Hp) : (if P then some ((1 : Int), h) else some (0, h)) = some (if P then 1 else 0, h) := by
  by_cases z : P
  · rw [if_pos z, if_pos z]
  · rw [if_neg z, if_neg z]
theorem V2_if {P : Prop} [Decidable P] : V2 (if P then 1 else 0) := by
  by_cases z : P
  · rw [if_pos z]; exact Or.inr rfl
  · rw [if_neg z]; exact Or.inl rfl
theorem if_cc {P Q : Prop} [Decidable P] [Decidable Q] (h : P ↔ Q) : (if P then (1 : Int) else 0) = if Q then 1 else 0 := by
  by_cases z : P
  · rw [if_pos z, if_pos (h.mp z)]
  · rw [if_neg z, if_neg (fun q => z (h.mpr q))]
theorem op_61 : Ops V1 V2 61 := fun h x y hx hy => by
  have eo : opV 61 x y = if x = y then 1 else 0 := rfl
  rw [jo_61, w32_V hx, w32_V hy, if_01, if_cc (lcm_eq hx hy), eo]
  exact ⟨_, rfl, wiV_1 (V2_1 V2_if), V2_if⟩
theorem op_60 : Ops V1 V2 60 := fun h x y hx hy => by
  have eo : opV 60 x y = if x < y then 1 else 0 := rfl
  rw [jo_60, w32_V hx, w32_V hy, if_01, if_cc (lcm_l (V1_ir hx) (V1_ir hy)).1, eo]
  exact ⟨_, rfl, wiV_1 (V2_1 V2_if), V2_if⟩
theorem op_62 : Ops V1 V2 62 := fun h x y hx hy => by
  have eo : opV 62 x y = if y < x then 1 else 0 := rfl
  rw [jo_62, w32_V hx, w32_V hy, if_01, if_cc (lcm_l (V1_ir hx) (V1_ir hy)).2, eo]
  exact ⟨_, rfl, wiV_1 (V2_1 V2_if), V2_if⟩
theorem op_38 : Ops V2 V2 38 := fun h x y hx hy => by
  rw [jo_38]
  rcases hx with hx | hx <;> rcases hy with hy | hy <;> subst hx <;> subst hy <;> exact ⟨_, rfl, by decide +kernel, by unfold V2; decide +kernel⟩
theorem op_124 : Ops V2 V2 124 := fun h x y hx hy => by
  rw [jo_124]
  rcases hx with hx | hx <;> rcases hy with hy | hy <;> subst hx <;> subst hy <;> exact ⟨_, rfl, by decide +kernel, by unfold V2; decide +kernel⟩
end PureWeigh
