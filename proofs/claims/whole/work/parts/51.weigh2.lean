section PureWeigh2
/-! every payload of the grammar is weighed as it says; a whole law -/
theorem bnP_i {α β : Type} {r : Nat × Option α} {K : Nat → α → Nat × Option β} {q : Nat} {y : β} (e : bnP r K = (q, some y)) : ∃ p x, r = (p, some x) ∧ K p x = (q, some y) := by
  obtain ⟨p, o⟩ := r
  cases o with
  | none => cases e
  | some x => exact ⟨p, x, rfl, e⟩
def NoE (c : List Int) : Prop := ∀ (j : Nat) (x : Int), c[j]? = some x → w32 x ≠ 59
theorem NoE.ap {c d : List Int} (h : NoE c) (g : NoE d) : NoE (c ++ d) := fun j x e => by
  by_cases hj : j < c.length
  · rw [List.getElem?_append_left hj] at e; exact h j x e
  · rw [List.getElem?_append_right (by omega)] at e; exact g _ x e
theorem NoE.one {s : Int} (s0 : 0 ≤ s) (s1 : s ≤ 20000) (h : s ≠ 59) : NoE [s] := fun j x e => by
  cases j with
  | zero => cases e; rw [w32_n s0 (by omega)]; exact h
  | succ j => cases e
def PSg (X : Nat → Rs) (V : Int → Prop) (m : Nat) : Prop := ∀ (p q : Nat) (y : Pl), X p = (q, some y) → Sg y.1 y.2 V m ∧ NoE y.1
theorem PSg.mono {X : Nat → Rs} {V : Int → Prop} {m m' : Nat} (h : PSg X V m) (hm : m ≤ m') : PSg X V m' := fun p q y e => ⟨(h p q y e).1.mono hm, (h p q y e).2⟩
section G
variable {B : Nat → Int} {L : Nat}
theorem pse {p q : Nat} {x y : Pl} (e : ((p, some x) : Rs) = (q, some y)) : x = y := by
  have := congrArg Prod.snd e
  exact Option.some.inj this
theorem cls_i {c : Int} {p q : Nat} {x y : Pl} (e : clsP B L c p x = (q, some y)) : x = y := by
  unfold clsP at e
  by_cases z : chP B L (nxP B L p) = c
  · rw [if_pos z] at e; exact pse e
  · rw [if_neg z] at e; cases e
theorem at_sg (b : BOK B L) {inn : Option (Nat → Rs)} {m : Nat} (m1 : 1 ≤ m) (hi : ∀ X, inn = some X → PSg X V1 m) : PSg (atP B L inn) V1 m := by
  intro p q y e
  unfold atP at e
  by_cases c1 : chP B L (nxP B L p) = 91
  · rw [if_pos c1] at e
    unfold atI at e
    cases inn with
    | none => cases e
    | some X =>
      obtain ⟨p1, x, e1, e2⟩ := bnP_i e
      rw [← cls_i e2]
      exact hi X rfl _ _ _ e1
  · rw [if_neg c1] at e
    by_cases c2 : isD (chP B L (nxP B L p))
    · rw [ifD_1 c2] at e
      unfold nuP at e
      obtain ⟨p1, v, e1, e2⟩ := bnP_i e
      rw [← pse e2]
      have hb : 0 ≤ v ∧ v ≤ 9999 := by
        unfold nuG at e1
        rw [ifD_1 c2] at e1
        by_cases c3 : isD (chP B L (dgP B L 4 (nxP B L p) 0).1)
        · rw [ifD_1 c3] at e1; cases e1
        · rw [ifD_0 c3] at e1
          by_cases c4 : (dgP B L 4 (nxP B L p) 0).2 < 0 ∨ 9999 < (dgP B L 4 (nxP B L p) 0).2
          · rw [if_pos c4] at e1; cases e1
          · rw [if_neg c4] at e1
            have := Option.some.inj (congrArg Prod.snd e1)
            rw [← this]
            omega
      exact ⟨(sg_num hb.1 hb.2).mono m1, NoE.one (by omega) (by omega) (by omega)⟩
    · rw [ifD_0 c2] at e
      by_cases c3 : ltI (chP B L (nxP B L p)) < 0
      · rw [if_pos c3] at e; cases e
      · rw [if_neg c3] at e
        have lb := ltI_b (x := chP B L (nxP B L p))
        rw [← pse e]
        exact ⟨(sg_let (by omega) (by omega)).mono m1, NoE.one (by omega) (by omega) (by omega)⟩
theorem rw_sg {s1 s2 : Int} {X : Nat → Rs} {V : Int → Prop} {m : Nat} (h : PSg X V m) (O : ∀ s, (s = s1 ∨ s = s2) → Ops V V s ∧ 33 < s ∧ s < 500 ∧ s ≠ 59 ∧ s ≠ 63) : ∀ (f p q : Nat) (x y : Pl), Sg x.1 x.2 V (m + 2) → NoE x.1 → rwL B L s1 s2 X f p x = (q, some y) → Sg y.1 y.2 V (m + 2) ∧ NoE y.1
  | 0, p, q, x, y, hx, nx, e => by cases e
  | f + 1, p, q, x, y, hx, nx, e => by
    have e : (if chP B L (nxP B L p) = s1 ∨ chP B L (nxP B L p) = s2 then bnP (X (nxP B L p + 1)) (fun p' z => rwL B L s1 s2 X f p' (cbP (chP B L (nxP B L p)) x z)) else (nxP B L p, some x)) = (q, some y) := e
    by_cases c : chP B L (nxP B L p) = s1 ∨ chP B L (nxP B L p) = s2
    · rw [if_pos c] at e
      obtain ⟨p1, z, e1, e2⟩ := bnP_i e
      obtain ⟨o1, o2, o3, o4, o5⟩ := O _ c
      obtain ⟨z1, z2⟩ := h _ _ _ e1
      refine rw_sg h O f p1 q (cbP (chP B L (nxP B L p)) x z) y ?_ ((nx.ap z2).ap (NoE.one (by omega) (by omega) o4)) e2
      -- the first side needs the pile's room m + 2, the second one more than m
      intro a h0 st i v code ia w A K hl
      obtain ⟨h1, F1, K1, v1, r1⟩ := hx a h0 st i v code ia w A.l.l K hl
      obtain ⟨h2, F2, K2, v2, r2⟩ := z1 a h1 (st ++ [x.2 v]) (i + x.1.length) v code ia (w.on ia F1) A.l.r K1 (by rw [List.length_append]; show st.length + 1 + m ≤ 64; omega)
      obtain ⟨h3, e3, F3, K3⟩ := pop_e ia K2 (by rw [List.length_append]; show st.length + 1 < 64; omega)
      obtain ⟨h4, e4, F4, K4⟩ := pop_e ia K3 (by omega)
      obtain ⟨t, ez, ew, vz⟩ := o1 h4 (x.2 v) (z.2 v) v1 v2
      obtain ⟨h5, e5, F5, K5⟩ := push_e ia K4 (by omega) (opV (chP B L (nxP B L p)) (x.2 v) (z.2 v))
      refine ⟨h5, (((F1.tr F2).tr F3).tr F4).tr F5, K5, vz, fun M => ?_⟩
      have we : Lw_weigh h2 a (chP B L (nxP B L p)) 75 = some (0, h5) := by
        unfold Lw_weigh
        rw [w32_n (x := chP B L (nxP B L p)) (by omega) (by omega), if_pos (by omega), if_pos (by omega), if_neg (by omega), cC_s (IsL_sh ia).1 rfl, e3, cl_s, e4, cl_s, ez, cl_s]
        show cl (Lw_push h4 a (wiV t)) _ = _
        rw [ew, e5, cl_s]
      have A3 := A.r 0 (chP B L (nxP B L p)) rfl
      rw [Nat.add_zero] at A3
      have o := one_sg ia ((w.on ia F1).on ia F2) A3 (by omega) (by omega) o4 o5 we M
      have el : (cbP (chP B L (nxP B L p)) x z).1.length = x.1.length + z.1.length + 1 := by
        show (x.1 ++ z.1 ++ [chP B L (nxP B L p)]).length = _
        rw [List.length_append, List.length_append]; rfl
      have el2 : (x.1 ++ z.1).length = x.1.length + z.1.length := List.length_append
      have em : M + (x.1.length + z.1.length + 1) = (M + 1 + z.1.length) + x.1.length := by omega
      have ei : i + x.1.length + z.1.length = i + (x.1.length + z.1.length) := by omega
      have ei2 : i + (x.1.length + z.1.length + 1) = i + (x.1.length + z.1.length) + 1 := by omega
      rw [el2] at o
      rw [el, em, r1, r2, ei, o, ei2]
    · rw [if_neg c] at e
      rw [← pse e]
      exact ⟨hx, nx⟩
theorem te_sg (b : BOK B L) {inn : Option (Nat → Rs)} {m : Nat} (m1 : 1 ≤ m) (hi : ∀ X, inn = some X → PSg X V1 m) : PSg (teP B L inn) V1 (m + 2) := by
  intro p q y e
  obtain ⟨p1, x, e1, e2⟩ := bnP_i e
  have ha := at_sg b m1 hi
  refine rw_sg ha (fun s hs => ?_) _ _ _ x y ((ha _ _ _ e1).1.mono (by omega)) (ha _ _ _ e1).2 e2
  rcases hs with rfl | rfl
  · exact ⟨op_42, by decide, by decide, by decide, by decide⟩
  · exact ⟨op_47, by decide, by decide, by decide, by decide⟩
theorem su_sg (b : BOK B L) {inn : Option (Nat → Rs)} {m : Nat} (m1 : 1 ≤ m) (hi : ∀ X, inn = some X → PSg X V1 m) : PSg (suP B L inn) V1 (m + 4) := by
  intro p q y e
  obtain ⟨p1, x, e1, e2⟩ := bnP_i e
  have ha := te_sg b m1 hi
  refine rw_sg ha (fun s hs => ?_) _ _ _ x y ((ha _ _ _ e1).1.mono (by omega)) (ha _ _ _ e1).2 e2
  rcases hs with rfl | rfl
  · exact ⟨op_43, by decide, by decide, by decide, by decide⟩
  · exact ⟨op_45, by decide, by decide, by decide, by decide⟩
theorem suA_sg (b : BOK B L) : ∀ e : Nat, PSg (suA B L e) V1 (5 + 4 * e)
  | 0 => su_sg b (m := 1) (by omega) (fun X h => by cases h)
  | e + 1 => by
    have := su_sg b (inn := some (suA B L e)) (m := 5 + 4 * e) (by omega) (fun X h => by cases h; exact suA_sg b e)
    exact this.mono (by omega)
theorem cm_sg {S : Nat → Rs} {m : Nat} (hS : PSg S V1 m) {p q : Nat} {x y : Pl} (hx : Sg x.1 x.2 V1 m) (nx : NoE x.1) (e : cmP B L S p x = (q, some y)) : Sg y.1 y.2 V2 (m + 2) ∧ NoE y.1 := by
  unfold cmP at e
  by_cases c : isC (chP B L (nxP B L p))
  · rw [ifC_1 c] at e
    obtain ⟨p1, z, e1, e2⟩ := bnP_i e
    obtain ⟨z1, z2⟩ := hS _ _ _ e1
    rw [← pse e2]
    have key : ∀ s : Int, isC s → Ops V1 V2 s ∧ 33 < s ∧ s < 500 ∧ s ≠ 59 ∧ s ≠ 63 := by
      intro s hs
      rcases hs with rfl | rfl | rfl
      · exact ⟨op_61, by decide, by decide, by decide, by decide⟩
      · exact ⟨op_60, by decide, by decide, by decide, by decide⟩
      · exact ⟨op_62, by decide, by decide, by decide, by decide⟩
    obtain ⟨o1, o2, o3, o4, o5⟩ := key _ c
    exact ⟨sg_op hx z1 o1 o2 o3 o4 o5, (nx.ap z2).ap (NoE.one (by omega) (by omega) o4)⟩
  · rw [ifC_0 c] at e; cases e
theorem pa_sg {U : Nat → Rs} {m : Nat} (hU : PSg U V2 m) {r : Rs} (hr : ∀ q y, r = (q, some y) → Sg y.1 y.2 V2 m ∧ NoE y.1) {q : Nat} {y : Pl} (e : paP B L U r = (q, some y)) : Sg y.1 y.2 V2 (m + 2) ∧ NoE y.1 := by
  obtain ⟨p1, x, e1, e2⟩ := bnP_i e
  refine rw_sg hU (fun s hs => ?_) _ _ _ x y ((hr _ _ e1).1.mono (by omega)) (hr _ _ e1).2 e2
  have : s = 38 := hs.elim id id
  subst this
  exact ⟨op_38, by decide, by decide, by decide, by decide⟩
theorem co_sg {U : Nat → Rs} {m : Nat} (hU : PSg U V2 m) {r : Rs} (hr : ∀ q y, r = (q, some y) → Sg y.1 y.2 V2 m ∧ NoE y.1) {q : Nat} {y : Pl} (e : coP B L U r = (q, some y)) : Sg y.1 y.2 V2 (m + 4) ∧ NoE y.1 := by
  obtain ⟨p1, x, e1, e2⟩ := bnP_i e
  obtain ⟨x1, x2⟩ := pa_sg hU hr e1
  have hP : PSg (fun p => paP B L U (U p)) V2 (m + 2) := fun p q y e => pa_sg hU (fun q y e => hU _ _ _ e) e
  refine rw_sg hP (fun s hs => ?_) _ _ _ x y (x1.mono (by omega)) x2 e2
  have : s = 124 := hs.elim id id
  subst this
  exact ⟨op_124, by decide, by decide, by decide, by decide⟩
theorem un_sg {S : Nat → Rs} {m : Nat} (hS : PSg S V1 m) {nest : Option ((Nat → Rs) × (Nat → Rs))} (hn : ∀ X, nest = some X → PSg X.1 V2 (m + 2) ∧ PSg X.2 V2 (m + 1)) : PSg (unP B L S nest) V2 (m + 2) := by
  intro p q y e
  unfold unP at e
  by_cases c1 : chP B L (nxP B L p) = 33
  · rw [if_pos c1] at e
    unfold neU at e
    cases nest with
    | none => cases e
    | some X =>
      obtain ⟨p1, x, e1, e2⟩ := bnP_i e
      obtain ⟨x1, x2⟩ := (hn X rfl).2 _ _ _ e1
      rw [← pse e2]
      exact ⟨sg_not x1, x2.ap (NoE.one (by decide) (by decide) (by decide))⟩
  · rw [if_neg c1] at e
    by_cases c2 : chP B L (nxP B L p) = 40
    · rw [if_pos c2] at e
      unfold neC at e
      cases nest with
      | none => cases e
      | some X =>
        obtain ⟨p1, x, e1, e2⟩ := bnP_i e
        rw [← cls_i e2]
        exact (hn X rfl).1 _ _ _ e1
    · rw [if_neg c2] at e
      obtain ⟨p1, x, e1, e2⟩ := bnP_i e
      obtain ⟨x1, x2⟩ := hS _ _ _ e1
      exact cm_sg hS x1 x2 e2
theorem unA_sg (b : BOK B L) : ∀ e : Nat, PSg (unA B L e) V2 (7 + 5 * e)
  | 0 => un_sg (suA_sg b 0) (fun X h => by cases h)
  | e + 1 => by
    have ih := unA_sg b e
    have h := un_sg (B := B) (L := L) (S := suA B L (e + 1)) (m := 10 + 5 * e) ((suA_sg b (e + 1)).mono (by omega)) (nest := some (fun p => coP B L (unA B L e) (unA B L e p), unA B L e)) (fun X hX => by
      cases hX
      refine ⟨fun p q y e2 => ?_, ih.mono (by omega)⟩
      obtain ⟨a1, a2⟩ := co_sg ih (fun q y e3 => ih _ _ _ e3) e2
      exact ⟨a1.mono (by omega), a2⟩)
    exact h.mono (by omega)
/-! clauses -/
def CW (y : Pw) : Prop := ∀ (a : Int) (h : Hp) (i : Nat) (v : Int → Int) (code : List Int), IsL a → WSt h a code v → Ats code y.1 i → SK h a [] → ∃ h', On (WTa a) h h' ∧ ((∃ z, y.2 v = some z ∧ V1 z ∧ ∀ M, itr Wb (M + y.1.length) (h, a, 75, 0, (i : Int)) = some (z, h')) ∨ (y.2 v = none ∧ SK h' a [] ∧ ∀ M, itr Wb (M + y.1.length) (h, a, 75, 0, (i : Int)) = itr Wb M (h', a, 75, 0, ((i + y.1.length : Nat) : Int))))
theorem end_w {a : Int} {h : Hp} {i : Nat} {v : Int → Int} {code : List Int} (ia : IsL a) (w : WSt h a code v) (A : code[i]? = some 59) {z : Int} (K : SK h a [z]) : ∃ h', On (WTa a) h h' ∧ ∀ M, itr Wb (M + 1) (h, a, 75, 0, (i : Int)) = some (z, h') := by
  obtain ⟨i1, i2, i3⟩ := id ia
  obtain ⟨sh0, sh1, sh2⟩ := IsL_sh ia
  obtain ⟨⟨w1, w2⟩, w3, w4, w5⟩ := w
  have hi : i < code.length := by
    rcases Nat.lt_or_ge i code.length with q | q
    · exact q
    · rw [List.getElem?_eq_none (by omega)] at A; cases A
  obtain ⟨h', e, F, -⟩ := pop_e (st := []) ia K (by decide)
  refine ⟨h', F, fun M => ?_⟩
  rw [itr_s]
  show Lw_worth_b9_body (itr Wb M) h a 75 0 (i : Int) = _
  unfold Lw_worth_b9_body
  rw [cC_s sh0 rfl, w1, w32_n (x := (i : Int)) (by omega) (by omega), w32_n (x := (code.length : Int)) (by omega) (by omega), if_pos (by omega), at_eq sh1 (by omega) (by omega) (by omega) (by omega), cl_s, w2 i 59 A, if_pos (show w32 59 = 59 by decide), if_pos (show w32 0 = 0 by decide), e, cl_s]
theorem end_p {a : Int} {h : Hp} {i : Nat} {v : Int → Int} {code : List Int} (ia : IsL a) (w : WSt h a code v) (A : code[i]? = some 59) : ∀ M, itr Wb (M + 1) (h, a, 75, 1, (i : Int)) = itr Wb M (h, a, 75, 0, ((i + 1 : Nat) : Int)) := by
  obtain ⟨i1, i2, i3⟩ := id ia
  obtain ⟨sh0, sh1, sh2⟩ := IsL_sh ia
  obtain ⟨⟨w1, w2⟩, w3, w4, w5⟩ := w
  have hi : i < code.length := by
    rcases Nat.lt_or_ge i code.length with q | q
    · exact q
    · rw [List.getElem?_eq_none (by omega)] at A; cases A
  intro M
  rw [itr_s]
  show Lw_worth_b9_body (itr Wb M) h a 75 1 (i : Int) = _
  unfold Lw_worth_b9_body
  rw [cC_s sh0 rfl, w1, w32_n (x := (i : Int)) (by omega) (by omega), w32_n (x := (code.length : Int)) (by omega) (by omega), if_pos (by omega), at_eq sh1 (by omega) (by omega) (by omega) (by omega), cl_s, w2 i 59 A, if_pos (show w32 59 = 59 by decide), if_neg (show ¬ w32 1 = 0 by decide)]
  rfl
theorem if_w {a : Int} {h : Hp} {i : Nat} {v : Int → Int} {code : List Int} (ia : IsL a) (w : WSt h a code v) (A : code[i]? = some 63) {z : Int} (hz : V2 z) (K : SK h a [z]) : ∃ h', On (WTa a) h h' ∧ SK h' a [] ∧ ∀ M, itr Wb (M + 1) (h, a, 75, 0, (i : Int)) = itr Wb M (h', a, 75, (if z = 0 then 1 else 0), ((i + 1 : Nat) : Int)) := by
  obtain ⟨i1, i2, i3⟩ := id ia
  obtain ⟨sh0, sh1, sh2⟩ := IsL_sh ia
  obtain ⟨⟨w1, w2⟩, w3, w4, w5⟩ := w
  have hi : i < code.length := by
    rcases Nat.lt_or_ge i code.length with q | q
    · exact q
    · rw [List.getElem?_eq_none (by omega)] at A; cases A
  obtain ⟨h', e, F, K'⟩ := pop_e (st := []) ia K (by decide)
  refine ⟨h', F, K', fun M => ?_⟩
  rw [itr_s]
  show Lw_worth_b9_body (itr Wb M) h a 75 0 (i : Int) = _
  unfold Lw_worth_b9_body
  rw [cC_s sh0 rfl, w1, w32_n (x := (i : Int)) (by omega) (by omega), w32_n (x := (code.length : Int)) (by omega) (by omega), if_pos (by omega), at_eq sh1 (by omega) (by omega) (by omega) (by omega), cl_s, w2 i 63 A, if_neg (show ¬ w32 63 = 59 by decide), if_pos (show w32 0 = 0 by decide), if_pos (show w32 63 = 63 by decide), e, cl_s]
  rcases hz with q | q
  · subst q
    rw [if_pos (show w32 0 = 0 by decide), if_pos rfl]
    rfl
  · subst q
    rw [if_neg (show ¬ w32 1 = 0 by decide), if_neg (show ¬ (1 : Int) = 0 by decide)]
    rfl
/-- passed over -/
theorem skip_w {a : Int} {h : Hp} {v : Int → Int} {code : List Int} (ia : IsL a) (w : WSt h a code v) : ∀ (c : List Int) (i : Nat), NoE c → Ats code c i → ∀ M, itr Wb (M + c.length) (h, a, 75, 1, (i : Int)) = itr Wb M (h, a, 75, 1, ((i + c.length : Nat) : Int)) := by
  obtain ⟨i1, i2, i3⟩ := id ia
  obtain ⟨sh0, sh1, sh2⟩ := IsL_sh ia
  obtain ⟨⟨w1, w2⟩, w3, w4, w5⟩ := w
  intro c
  induction c with
  | nil => intro i _ _ M; rfl
  | cons s c ih =>
    intro i N A M
    have A0 := A 0 s rfl
    rw [Nat.add_zero] at A0
    have hi : i < code.length := by
      rcases Nat.lt_or_ge i code.length with q | q
      · exact q
      · rw [List.getElem?_eq_none (by omega)] at A0; cases A0
    have n0 := N 0 s rfl
    have e1 : M + (s :: c).length = (M + c.length) + 1 := by rw [List.length_cons]; omega
    have e2 : i + (s :: c).length = i + 1 + c.length := by rw [List.length_cons]; omega
    rw [e1, e2, itr_s, ← ih (i + 1) (fun j x e => N (j + 1) x e) (fun j x e => by
      have := A (j + 1) x e
      have e3 : i + 1 + j = i + (j + 1) := by omega
      rw [e3]; exact this) M]
    show Lw_worth_b9_body (itr Wb (M + c.length)) h a 75 1 (i : Int) = _
    unfold Lw_worth_b9_body Lw_worth_b75
    rw [cC_s sh0 rfl, w1, w32_n (x := (i : Int)) (by omega) (by omega), w32_n (x := (code.length : Int)) (by omega) (by omega), if_pos (by omega), at_eq sh1 (by omega) (by omega) (by omega) (by omega), cl_s, w2 i s A0, if_neg (show ¬ w32 1 = 0 by decide), if_neg (show ¬ w32 1 = 0 by decide), if_neg (show ¬ w32 1 = 0 by decide)]
    by_cases z : w32 s = 59
    · exact absurd z n0
    · rw [if_neg z]
      rfl
theorem cw_end {x : Pl} {m : Nat} (hx : Sg x.1 x.2 V1 m) (hm : m ≤ 60) : CW (x.1 ++ [59], fun v => some (x.2 v)) := by
  intro a h i v code ia w A K
  obtain ⟨h1, F1, K1, v1, r1⟩ := hx a h [] i v code ia w A.l K (by show 0 + m ≤ 64; omega)
  have A3 := A.r 0 59 rfl
  rw [Nat.add_zero] at A3
  obtain ⟨h2, F2, r2⟩ := end_w ia (w.on ia F1) A3 K1
  refine ⟨h2, F1.tr F2, Or.inl ⟨x.2 v, rfl, v1, fun M => ?_⟩⟩
  have el : (x.1 ++ [59]).length = 1 + x.1.length := by rw [List.length_append, Nat.add_comm]; rfl
  show itr Wb (M + (x.1 ++ [59]).length) _ = _
  rw [el, ← Nat.add_assoc, r1 (M + 1), r2]
theorem cw_if {c y : Pl} {m : Nat} (hc : Sg c.1 c.2 V2 m) (hy : Sg y.1 y.2 V1 m) (ny : NoE y.1) (hm : m ≤ 60) : CW (c.1 ++ [63] ++ y.1 ++ [59], fun v => if c.2 v = 0 then none else some (y.2 v)) := by
  intro a h i v code ia w A K
  obtain ⟨h1, F1, K1, v1, r1⟩ := hc a h [] i v code ia w A.l.l.l K (by show 0 + m ≤ 64; omega)
  have A3 := A.l.l.r 0 63 rfl
  rw [Nat.add_zero] at A3
  obtain ⟨h2, F2, K2, r2⟩ := if_w ia (w.on ia F1) A3 v1 K1
  have A4 := A.l.r
  have e4 : (c.1 ++ [63]).length = c.1.length + 1 := by rw [List.length_append]; rfl
  rw [e4, ← Nat.add_assoc] at A4
  have A5 := A.r 0 59 rfl
  have e5 : (c.1 ++ [63] ++ y.1).length = c.1.length + 1 + y.1.length := by rw [List.length_append, e4]
  have e6 : i + (c.1.length + 1 + y.1.length) = i + c.1.length + 1 + y.1.length := by omega
  rw [Nat.add_zero, e5, e6] at A5
  have el : (c.1 ++ [63] ++ y.1 ++ [59]).length = c.1.length + 1 + y.1.length + 1 := by rw [List.length_append, e5]; rfl
  by_cases z : c.2 v = 0
  · refine ⟨h2, F1.tr F2, Or.inr ⟨if_pos z, K2, fun M => ?_⟩⟩
    have w2 := (w.on ia F1).on ia F2
    have s1 := skip_w ia w2 y.1 (i + c.1.length + 1) ny A4
    have s2 := end_p ia w2 A5
    have em : M + (c.1.length + 1 + y.1.length + 1) = M + 1 + y.1.length + 1 + c.1.length := by omega
    have ei : i + (c.1.length + 1 + y.1.length + 1) = i + c.1.length + 1 + y.1.length + 1 := by omega
    show itr Wb (M + (c.1 ++ [63] ++ y.1 ++ [59]).length) _ = itr Wb M (h2, a, 75, 0, ((i + (c.1 ++ [63] ++ y.1 ++ [59]).length : Nat) : Int))
    rw [el, em, r1, r2, if_pos z, s1, s2, ei]
  · obtain ⟨h3, F3, K3, v3, r3⟩ := hy a h2 [] (i + c.1.length + 1) v code ia ((w.on ia F1).on ia F2) A4 K2 (by show 0 + m ≤ 64; omega)
    obtain ⟨h4, F4, r4⟩ := end_w ia (((w.on ia F1).on ia F2).on ia F3) A5 K3
    refine ⟨h4, ((F1.tr F2).tr F3).tr F4, Or.inl ⟨y.2 v, if_neg z, v3, fun M => ?_⟩⟩
    have em : M + (c.1.length + 1 + y.1.length + 1) = M + 1 + y.1.length + 1 + c.1.length := by omega
    show itr Wb (M + (c.1 ++ [63] ++ y.1 ++ [59]).length) _ = _
    rw [el, em, r1, r2, if_neg z, r3, r4]
theorem pwe {p q : Nat} {x y : Pw} (e : ((p, some x) : Nat × Option Pw) = (q, some y)) : x = y := Option.some.inj (congrArg Prod.snd e)
theorem cl2_cw (b : BOK B L) {r : Rs} {m : Nat} (hr : ∀ q y, r = (q, some y) → Sg y.1 y.2 V2 m ∧ NoE y.1) (hm : m ≤ 60) {q : Nat} {y : Pw} (e : cl2 B L r = (q, some y)) : CW y := by
  obtain ⟨p, x, e1, e2⟩ := bnP_i e
  obtain ⟨x1, x2⟩ := hr _ _ e1
  by_cases c : chP B L (nxP B L p) = 63
  · rw [if_pos c] at e2
    obtain ⟨p1, z, e3, e4⟩ := bnP_i e2
    obtain ⟨z1, z2⟩ := suA_sg b 6 _ _ _ e3
    rw [← pwe e4]
    exact cw_if (m := 60) (x1.mono hm) (z1.mono (by omega)) z2 (by omega)
  · rw [if_neg c] at e2; cases e2
theorem cl_cw (b : BOK B L) {p q : Nat} {y : Pw} (e : clP B L p = (q, some y)) : CW y := by
  unfold clP at e
  by_cases c1 : chP B L (nxP B L p) = 121
  · rw [if_pos c1] at e
    by_cases c2 : chP B L (nxP B L (nxP B L p + 1)) = 58
    · rw [if_pos c2] at e
      unfold cl1 at e
      have hU := unA_sg b 6
      by_cases c3 : chP B L (nxP B L (nxP B L (nxP B L p + 1) + 1)) = 33 ∨ chP B L (nxP B L (nxP B L (nxP B L p + 1) + 1)) = 40
      · rw [if_pos c3] at e
        exact cl2_cw b (m := 41) (fun q y e => co_sg hU (fun q y e => hU _ _ _ e) e) (by omega) e
      · rw [if_neg c3] at e
        obtain ⟨p1, x, e1, e2⟩ := bnP_i e
        obtain ⟨x1, x2⟩ := suA_sg b 6 _ _ _ e1
        by_cases c4 : isC (chP B L (nxP B L p1))
        · rw [ifC_1 c4] at e2
          refine cl2_cw b (m := 41) (fun q y e => co_sg hU (fun q y e3 => ?_) e) (by omega) e2
          obtain ⟨a1, a2⟩ := cm_sg (suA_sg b 6) x1 x2 e3
          exact ⟨a1.mono (by omega), a2⟩
        · rw [ifC_0 c4] at e2
          rw [← pwe e2]
          exact cw_end x1 (by omega)
    · rw [if_neg c2] at e; cases e
  · rw [if_neg c1] at e; cases e
theorem cw_or {x y : Pw} (hx : CW x) (hy : CW y) : CW (x.1 ++ y.1, fun v => orV (x.2 v) (y.2 v)) := by
  intro a h i v code ia w A K
  have el : (x.1 ++ y.1).length = x.1.length + y.1.length := List.length_append
  obtain ⟨h1, F1, ⟨z, q1, vz, q2⟩ | ⟨q1, K1, q2⟩⟩ := hx a h i v code ia w A.l K
  · refine ⟨h1, F1, Or.inl ⟨z, by show orV (x.2 v) _ = _; rw [q1]; rfl, vz, fun M => ?_⟩⟩
    have em : M + (x.1.length + y.1.length) = M + y.1.length + x.1.length := by omega
    show itr Wb (M + (x.1 ++ y.1).length) _ = _
    rw [el, em, q2]
  · have em : ∀ M, M + (x.1.length + y.1.length) = M + y.1.length + x.1.length := fun M => by omega
    have ei : i + (x.1.length + y.1.length) = i + x.1.length + y.1.length := by omega
    obtain ⟨h2, F2, ⟨z, p1, vz, p2⟩ | ⟨p1, K2, p2⟩⟩ := hy a h1 (i + x.1.length) v code ia (w.on ia F1) A.r K1
    · refine ⟨h2, F1.tr F2, Or.inl ⟨z, by show orV (x.2 v) (y.2 v) = _; rw [q1]; exact p1, vz, fun M => ?_⟩⟩
      show itr Wb (M + (x.1 ++ y.1).length) _ = _
      rw [el, em, q2, p2]
    · refine ⟨h2, F1.tr F2, Or.inr ⟨by show orV (x.2 v) (y.2 v) = _; rw [q1]; exact p1, K2, fun M => ?_⟩⟩
      show itr Wb (M + (x.1 ++ y.1).length) _ = itr Wb M (h2, a, 75, 0, ((i + (x.1 ++ y.1).length : Nat) : Int))
      rw [el, em, q2, p2, ei]
theorem la_cw (b : BOK B L) : ∀ (f p q : Nat) (y : Pw), laL B L f p = (q, some y) → CW y
  | 0, p, q, y, e => by cases e
  | f + 1, p, q, y, e => by
    obtain ⟨p1, x, e1, e2⟩ := bnP_i e
    have hx := cl_cw b e1
    by_cases c : chP B L (nxP B L p1) = 0
    · rw [if_pos c] at e2
      rw [← pwe e2]
      exact hx
    · rw [if_neg c] at e2
      by_cases c2 : chP B L (nxP B L p1) = 59
      · rw [if_pos c2] at e2
        obtain ⟨p2, z, e3, e4⟩ := bnP_i e2
        rw [← pwe e4]
        exact cw_or hx (la_cw b f _ _ _ e3)
      · rw [if_neg c2] at e2; cases e2
theorem FU_sp {n : Nat} (h : n ≤ 240) : ∃ M, FU = M + 1 + n := ⟨999999 - n, by show 1000000 = 999999 - n + 1 + n; omega⟩
/-- a law weighed by the class -/
theorem Lw_worth_e (b : BOK B L) {a : Int} {h : Hp} {v : Int → Int} {q : Nat} {y : Pw} (ia : IsL a) (e : laP B L = (q, some y)) (w : WSt h a y.1 v) : ∃ h', Lw_worth h a 75 = some ((y.2 v).getD 0, h') ∧ On (WTa a) h h' ∧ V1 ((y.2 v).getD 0) := by
  obtain ⟨i1, i2, i3⟩ := id ia
  have F0 : On (WTa a) h (up h a 3 0) := On.up (Or.inl ⟨rfl, rfl⟩)
  have K : SK (up h a 3 0) a [] := ⟨by rw [up_at]; rfl, fun j x e => by cases e⟩
  have w0 := w.on ia F0
  have l240 := w.2.1
  obtain ⟨M, hM⟩ := FU_sp l240
  unfold Lw_worth Lw_worth_b9
  rw [cC_s (IsL_sh ia).1 rfl, pu_s, hM]
  obtain ⟨h1, F1, ⟨z, q1, vz, q2⟩ | ⟨q1, K1, q2⟩⟩ := la_cw b _ _ _ _ e a (up h a 3 0) 0 v y.1 ia w0 (fun j x e => by rw [Nat.zero_add]; exact e) K
  · refine ⟨h1, ?_, F0.tr F1, by rw [q1]; exact vz⟩
    rw [q1]
    exact q2 (M + 1)
  · refine ⟨h1, ?_, F0.tr F1, by rw [q1]; exact ⟨by decide, by decide⟩⟩
    rw [q1]
    refine (q2 (M + 1)).trans ?_
    rw [Nat.zero_add, itr_s]
    show Lw_worth_b9_body (itr Wb M) h1 a 75 0 (y.1.length : Int) = _
    unfold Lw_worth_b9_body
    rw [cC_s (IsL_sh ia).1 rfl, (w0.on ia F1).1.1, if_neg (Int.lt_irrefl _)]
    rfl
/-- a law's worth is never out of bounds -/
theorem worth_V (b : BOK B L) {q : Nat} {y : Pw} (e : laP B L = (q, some y)) (hl : y.1.length ≤ 240) {v : Int → Int} (ev : EBv v) : V1 ((y.2 v).getD 0) := by
  have w : WSt (fun x k => if x = 1000 then (if k = 2 then (y.1.length : Int) else 0) else if x = 1001 then y.1.getD k.toNat 0 else if x = 75 then v k else 0) 1000 y.1 v := by
    refine ⟨⟨rfl, fun i x e => ?_⟩, hl, fun l _ _ => rfl, ev⟩
    show y.1.getD ((i : Int)).toNat 0 = x
    rw [Int.toNat_natCast, List.getD_eq_getElem?_getD, e]
    rfl
  obtain ⟨h', -, -, k⟩ := Lw_worth_e b (a := 1000) ⟨by decide, by decide, by decide⟩ e w
  exact k
end G
end PureWeigh2
