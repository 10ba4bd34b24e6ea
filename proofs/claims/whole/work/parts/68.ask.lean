section PureAsk
/-! GRAVES and ASK themselves -/
/-- whether so grave may be -/
def grV (ru pd wd : Int → Int) (ly : Nat → Pw) (k : Int) (gw gb gm : Int → Int) (gc : Nat) (a g : Int) : Int := alF gw gb gm a (wtV ru pd wd ly k a g) gc 0
def gvF (AL : Int → Int) (x : Int) : Nat → Nat → Nat → Int
  | 0, _, c => if x = -1 then (c : Int) else -1
  | d + 1, g, c => if AL (g : Int) = 0 then gvF AL x d (g + 1) c else if (c : Int) = x then (g : Int) else gvF AL x d (g + 1) (c + 1)
theorem gvF_n (AL : Int → Int) {x : Int} (hx : x < -1) : ∀ d g c, gvF AL x d g c = -1
  | 0, _, _ => if_neg (by omega)
  | d + 1, g, c => by
    show (if AL (g : Int) = 0 then gvF AL x d (g + 1) c else if (c : Int) = x then (g : Int) else gvF AL x d (g + 1) (c + 1)) = -1
    by_cases z : AL (g : Int) = 0
    · rw [if_pos z]; exact gvF_n AL hx d (g + 1) c
    · rw [if_neg z, if_neg (by omega)]; exact gvF_n AL hx d (g + 1) (c + 1)
/-- how many of them would be worth so much -/
def wfS (AL V : Int → Int) (y : Int) : Nat → Int
  | 0 => 0
  | i + 1 => wfS AL V y i + (if AL ((i : Int) + 1) = 0 then 0 else if V ((i : Int) + 1) < y then 0 else 1)
theorem wfS_b (AL V : Int → Int) (y : Int) (al : ∀ g, AL g = 0 ∨ AL g = 1) : ∀ i : Nat, 0 ≤ wfS AL V y i ∧ wfS AL V y i ≤ ftS AL i ∧ ftS AL i ≤ (i : Int)
  | 0 => ⟨Int.le_refl _, Int.le_refl _, Int.le_refl _⟩
  | i + 1 => by
    have ih := wfS_b AL V y al i
    have a := al ((i : Int) + 1)
    show 0 ≤ wfS AL V y i + (if AL ((i : Int) + 1) = 0 then 0 else if V ((i : Int) + 1) < y then 0 else 1) ∧ wfS AL V y i + (if AL ((i : Int) + 1) = 0 then 0 else if V ((i : Int) + 1) < y then 0 else 1) ≤ ftS AL i + AL ((i : Int) + 1) ∧ ftS AL i + AL ((i : Int) + 1) ≤ ((i + 1 : Nat) : Int)
    by_cases z : AL ((i : Int) + 1) = 0
    · rw [if_pos z]; omega
    · rw [if_neg z]
      by_cases w : V ((i : Int) + 1) < y
      · rw [if_pos w]; omega
      · rw [if_neg w]; omega
/-- by how much it would part them -/
def dfV (AL V : Int → Int) (y : Int) : Int := if 0 ≤ 2 * wfS AL V y 9 - ftS AL 9 then 2 * wfS AL V y 9 - ftS AL 9 else -(2 * wfS AL V y 9 - ftS AL 9)
theorem dfV_b (AL V : Int → Int) (y : Int) (al : ∀ g, AL g = 0 ∨ AL g = 1) : 0 ≤ dfV AL V y ∧ dfV AL V y ≤ 9 := by
  have b := wfS_b AL V y al 9
  unfold dfV
  by_cases z : 0 ≤ 2 * wfS AL V y 9 - ftS AL 9
  · rw [if_pos z]; omega
  · rw [if_neg z]; omega
/-- the best cut so far -/
def bsP (D : Int → Int) : Nat → Int × Int
  | 0 => (-1, 10)
  | i + 1 => if D ((i : Int) + 1) < (bsP D i).2 then ((i : Int) + 1, D ((i : Int) + 1)) else bsP D i
theorem bsP_b (D : Int → Int) (b : ∀ y, 0 ≤ D y ∧ D y ≤ 9) : ∀ i : Nat, (bsP D i).1 ≤ i ∧ -1 ≤ (bsP D i).1 ∧ 0 ≤ (bsP D i).2 ∧ (bsP D i).2 ≤ 10 ∧ (0 < i → 1 ≤ (bsP D i).1)
  | 0 => ⟨(by decide : (-1 : Int) ≤ ((0 : Nat) : Int)), (by decide : (-1 : Int) ≤ -1), (by decide : (0 : Int) ≤ 10), (by decide : (10 : Int) ≤ 10), fun h => absurd h (by decide)⟩
  | i + 1 => by
    have ih := bsP_b D b i
    have q := b ((i : Int) + 1)
    have e : bsP D (i + 1) = if D ((i : Int) + 1) < (bsP D i).2 then ((i : Int) + 1, D ((i : Int) + 1)) else bsP D i := rfl
    rw [e]
    by_cases z : D ((i : Int) + 1) < (bsP D i).2
    · rw [if_pos z]
      show (i : Int) + 1 ≤ ((i + 1 : Nat) : Int) ∧ -1 ≤ (i : Int) + 1 ∧ 0 ≤ D ((i : Int) + 1) ∧ D ((i : Int) + 1) ≤ 10 ∧ (0 < i + 1 → 1 ≤ (i : Int) + 1)
      exact ⟨by omega, by omega, q.1, by omega, fun _ => by omega⟩
    · rw [if_neg z]
      cases i with
      | zero =>
        have e0 : (bsP D 0).2 = 10 := rfl
        exact absurd (by rw [e0]; omega) z
      | succ j => exact ⟨by omega, ih.2.1, ih.2.2.1, ih.2.2.2.1, fun _ => ih.2.2.2.2 (by omega)⟩
section Q
variable {h h' : Hp} {n W lc sc gc : Nat} {f ru pd wd gw gb gm : Int → Int} {ly : Nat → Pw} {k sn a : Int}
theorem cgr_e {AL V : Int → Int} (row : ∀ g : Int, 1 ≤ g → g < 10 → h 69 g = if AL g = 0 then 0 else V g) (vb : ∀ g, 1 ≤ V g ∧ V g ≤ 30) {x : Int} (hx : ir x) : Cc_graves_b21 h 20 x 0 1 = some (gvF AL x 9 1 0, h) := by
  have Wp : wp (Cc_graves_b21 h 20 x 0 1) (fun r h' => r = gvF AL x 9 1 0 ∧ h' = h) := by
    generalize hV : gvF AL x 9 1 0 = U
    unfold Cc_graves_b21
    refine itr_wpx (fun d σ => ∃ g c : Nat, σ = (h, 20, x, (c : Int), (g : Int)) ∧ g + d = 10 ∧ 1 ≤ g ∧ c < g ∧ gvF AL x d g c = U) ?_ (n := 9) (FU_gt (by decide)) ⟨1, 0, rfl, by omega, by omega, by omega, hV⟩
    rintro d σ kk ⟨g, c, rfl, hd, hg, hc, e⟩ K
    show wp (Cc_graves_b21_body kk h 20 x (c : Int) (g : Int)) _
    unfold Cc_graves_b21_body
    rw [w32_n (x := (g : Int)) (by omega) (by omega), ri hx]
    cases d with
    | zero =>
      have e' : (if x = -1 then (c : Int) else -1) = U := e
      rw [if_pos (by omega)]
      by_cases z : x = -1
      · rw [if_pos z] at e' ⊢; exact wp_i ⟨e', rfl⟩
      · rw [if_neg z] at e' ⊢; exact wp_i ⟨e', rfl⟩
    | succ d =>
      have e' : (if AL (g : Int) = 0 then gvF AL x d (g + 1) c else if (c : Int) = x then (g : Int) else gvF AL x d (g + 1) (c + 1)) = U := e
      have b := vb (g : Int)
      rw [if_neg (by omega), cC_s SH20' rfl, cC_s SH65 rfl, at_eq SH69 (by decide) (by omega) (by omega) (by decide), cl_s, row _ (by omega) (by omega)]
      by_cases z : AL (g : Int) = 0
      · rw [if_pos z] at e'
        rw [if_pos z, if_neg (by decide)]
        exact K d _ (by omega) ⟨g + 1, c, rfl, by omega, by omega, by omega, e'⟩
      · rw [if_neg z] at e'
        rw [if_neg z, w32_n (x := V (g : Int)) (by omega) (by omega), if_pos (by omega), w32_n (x := (c : Int)) (by omega) (by omega)]
        by_cases y : (c : Int) = x
        · rw [if_pos y] at e' ⊢; exact wp_i ⟨e', rfl⟩
        · rw [if_neg y] at e' ⊢
          exact K d _ (by omega) ⟨g + 1, c + 1, rfl, by omega, by omega, by omega, e'⟩
  obtain ⟨r, h', e, rfl, rfl⟩ := Wp
  exact e
theorem mgr_e (I : IvP h n W lc sc ru pd wd f ly k sn) (G : GvR h gc W gw gb gm) (q : isWr W a) {x : Int} (hx : ir x) : ∃ h', Md_graves_b25 h 2000 a x 0 1 = some (gvF (grV ru pd wd ly k gw gb gm gc a) x 9 1 0, h') ∧ IvP h' n W lc sc ru pd wd f ly k sn := by
  have Wp : wp (Md_graves_b25 h 2000 a x 0 1) (fun r h' => r = gvF (grV ru pd wd ly k gw gb gm gc a) x 9 1 0 ∧ IvP h' n W lc sc ru pd wd f ly k sn) := by
    generalize hV : gvF (grV ru pd wd ly k gw gb gm gc a) x 9 1 0 = U
    unfold Md_graves_b25
    refine itr_wpx (fun d σ => ∃ (h2 : Hp) (g c : Nat), σ = (h2, 2000, a, x, (c : Int), (g : Int)) ∧ g + d = 10 ∧ 1 ≤ g ∧ c < g ∧ IvP h2 n W lc sc ru pd wd f ly k sn ∧ GvR h2 gc W gw gb gm ∧ gvF (grV ru pd wd ly k gw gb gm gc a) x d g c = U) ?_ (n := 9) (FU_gt (by decide)) ⟨h, 1, 0, rfl, by omega, by omega, by omega, I, G, hV⟩
    rintro d σ kk ⟨h2, g, c, rfl, hd, hg, hc, I2, G2, e⟩ K
    show wp (Md_graves_b25_body kk h2 2000 a x (c : Int) (g : Int)) _
    unfold Md_graves_b25_body
    rw [w32_n (x := (g : Int)) (by omega) (by omega), ri hx]
    cases d with
    | zero =>
      have e' : (if x = -1 then (c : Int) else -1) = U := e
      rw [if_pos (by omega)]
      by_cases z : x = -1
      · rw [if_pos z] at e' ⊢; exact wp_i ⟨e', I2⟩
      · rw [if_neg z] at e' ⊢; exact wp_i ⟨e', I2⟩
    | succ d =>
      have e' : (if grV ru pd wd ly k gw gb gm gc a (g : Int) = 0 then gvF (grV ru pd wd ly k gw gb gm gc a) x d (g + 1) c else if (c : Int) = x then (g : Int) else gvF (grV ru pd wd ly k gw gb gm gc a) x d (g + 1) (c + 1)) = U := e
      obtain ⟨h3, e3, I3, G3⟩ := isGrave_e I2 G2 q (g := (g : Int)) (by omega) (by omega)
      have al : grV ru pd wd ly k gw gb gm gc a (g : Int) = 0 ∨ grV ru pd wd ly k gw gb gm gc a (g : Int) = 1 := alF_c _ _ _ _ _ _ _
      have e4 : Md_isGrave h2 2000 a (g : Int) = some (grV ru pd wd ly k gw gb gm gc a (g : Int), h3) := e3
      rw [if_neg (by omega), cC_s SH2000' rfl, e4, cl_s]
      rcases al with z | z
      · rw [if_pos z] at e'
        rw [z, if_pos wz0]
        exact K d _ (by omega) ⟨h3, g + 1, c, rfl, by omega, by omega, by omega, I3, G3, e'⟩
      · rw [if_neg (by omega)] at e'
        rw [z, if_neg wn1, w32_n (x := (c : Int)) (by omega) (by omega)]
        by_cases y : (c : Int) = x
        · rw [if_pos y] at e' ⊢; exact wp_i ⟨e', I3⟩
        · rw [if_neg y] at e' ⊢
          exact K d _ (by omega) ⟨h3, g + 1, c + 1, rfl, by omega, by omega, by omega, I3, G3, e'⟩
  obtain ⟨r, h', e, rfl, q2⟩ := Wp
  exact ⟨h', e, q2⟩
theorem wfr_e {AL V : Int → Int} (al : ∀ g, AL g = 0 ∨ AL g = 1) (row : ∀ g : Int, 1 ≤ g → g < 10 → h 69 g = if AL g = 0 then 0 else V g) (vb : ∀ g, 1 ≤ V g ∧ V g ≤ 30) {y : Int} (y1 : 1 ≤ y) (y2 : y ≤ 30) : Gv_worthsFrom h 65 y = some (wfS AL V y 9, h) := by
  unfold Gv_worthsFrom Gv_worthsFrom_b4
  refine itr_runs (fun i : Nat => (h, 65, y, wfS AL V y i, (i : Int) + 1)) (n := 9) rfl ?_ ?_ (FU_gt (by decide))
  · intro i hi kk
    show Gv_worthsFrom_b4_body kk h 65 y (wfS AL V y i) ((i : Int) + 1) = kk (h, 65, y, wfS AL V y i + (if AL ((i : Int) + 1) = 0 then 0 else if V ((i : Int) + 1) < y then 0 else 1), ((i + 1 : Nat) : Int) + 1)
    have b := vb ((i : Int) + 1)
    unfold Gv_worthsFrom_b4_body
    rw [w32_n (x := (i : Int) + 1) (by omega) (by omega), if_neg (by omega), cC_s SH65 rfl, at_eq SH69 (by decide) (by omega) (by omega) (by decide), cl_s, row _ (by omega) (by omega), w32_n (x := y) (by omega) (by omega)]
    by_cases z : AL ((i : Int) + 1) = 0
    · rw [if_pos z, if_pos z, if_pos (by rw [wz0]; omega), bd_s]; rfl
    · rw [if_neg z, if_neg z, w32_n (x := V ((i : Int) + 1)) (by omega) (by omega)]
      by_cases w : V ((i : Int) + 1) < y
      · rw [if_pos w, if_pos w, bd_s]; rfl
      · rw [if_neg w, if_neg w, bd_s]; rfl
  · intro kk
    show Gv_worthsFrom_b4_body kk h 65 y (wfS AL V y 9) (((9 : Nat) : Int) + 1) = _
    unfold Gv_worthsFrom_b4_body
    rw [if_pos (by decide)]
theorem cas_e {AL V : Int → Int} (al : ∀ g, AL g = 0 ∨ AL g = 1) (row : ∀ g : Int, 1 ≤ g → g < 10 → h 69 g = if AL g = 0 then 0 else V g) (vb : ∀ g, 1 ≤ V g ∧ V g ≤ 30) : Cc_ask_b31 h 20 (ftS AL 9) (-1) 10 1 = some ((bsP (dfV AL V) 30).1, h) := by
  unfold Cc_ask_b31
  generalize hE : (bsP (dfV AL V) 30).1 = E
  refine itr_runs (fun i : Nat => (h, 20, ftS AL 9, (bsP (dfV AL V) i).1, (bsP (dfV AL V) i).2, (i : Int) + 1)) (n := 30) rfl ?_ ?_ (FU_gt (by decide))
  · intro i hi kk
    have bb := bsP_b (dfV AL V) (fun y => dfV_b AL V y al) i
    have fb := wfS_b AL V ((i : Int) + 1) al 9
    have db := dfV_b AL V ((i : Int) + 1) al
    show Cc_ask_b31_body kk h 20 (ftS AL 9) (bsP (dfV AL V) i).1 (bsP (dfV AL V) i).2 ((i : Int) + 1) = kk (h, 20, ftS AL 9, (if dfV AL V ((i : Int) + 1) < (bsP (dfV AL V) i).2 then ((i : Int) + 1, dfV AL V ((i : Int) + 1)) else bsP (dfV AL V) i).1, (if dfV AL V ((i : Int) + 1) < (bsP (dfV AL V) i).2 then ((i : Int) + 1, dfV AL V ((i : Int) + 1)) else bsP (dfV AL V) i).2, ((i + 1 : Nat) : Int) + 1)
    unfold Cc_ask_b31_body
    have e1 : wfS AL V ((i : Int) + 1) 9 - (ftS AL 9 - wfS AL V ((i : Int) + 1) 9) = 2 * wfS AL V ((i : Int) + 1) 9 - ftS AL 9 := by omega
    have e2 : (if 0 ≤ w32 (2 * wfS AL V ((i : Int) + 1) 9 - ftS AL 9) then (2 * wfS AL V ((i : Int) + 1) 9 - ftS AL 9) else -(2 * wfS AL V ((i : Int) + 1) 9 - ftS AL 9)) = dfV AL V ((i : Int) + 1) := by
      rw [w32_id (x := 2 * wfS AL V ((i : Int) + 1) 9 - ftS AL 9) (by omega) (by omega)]
      rfl
    rw [w32_n (x := (i : Int) + 1) (by omega) (by omega), if_neg (by omega), cC_s SH20' rfl, cC_s SH65 rfl, wfr_e al row vb (by omega) (by omega), cl_s, e1, e2, bd_s, w32_n (x := dfV AL V ((i : Int) + 1)) (by omega) (by omega), w32_n (x := (bsP (dfV AL V) i).2) (by omega) (by omega)]
    by_cases z : dfV AL V ((i : Int) + 1) < (bsP (dfV AL V) i).2
    · rw [if_pos z, if_pos z]; rfl
    · rw [if_neg z, if_neg z]; rfl
  · intro kk
    show Cc_ask_b31_body kk h 20 _ _ _ (((30 : Nat) : Int) + 1) = _
    unfold Cc_ask_b31_body
    rw [if_pos (by decide), hE]
theorem mai_e (I : IvP h n W lc sc ru pd wd f ly k sn) (G : GvR h gc W gw gb gm) (q : isWr W a) {x2 x3 y : Int} (y1 : 1 ≤ y) (y2 : y ≤ 30) {kk : Hp × Int × Int × Int × Int × Int → Option (Int × Hp)} {Q : Int → Hp → Prop} (K : ∀ h2 : Hp, IvP h2 n W lc sc ru pd wd f ly k sn → GvR h2 gc W gw gb gm → wp (if ftS (grV ru pd wd ly k gw gb gm gc a) 9 = 0 then some (-1, h2) else if w32 x2 = (-1) then kk (h2, 2000, a, y, dfV (grV ru pd wd ly k gw gb gm gc a) (wtV ru pd wd ly k a) y, y + 1) else if dfV (grV ru pd wd ly k gw gb gm gc a) (wtV ru pd wd ly k a) y < w32 x3 then kk (h2, 2000, a, y, dfV (grV ru pd wd ly k gw gb gm gc a) (wtV ru pd wd ly k a) y, y + 1) else kk (h2, 2000, a, x2, x3, y + 1)) Q) : wp (Md_ask_b38 kk h 2000 a x2 x3 y 0 0 1) Q := by
  have rb := (I.2.1.2.2.1.1 (n_pos I.2.1.2.2.1 q)).2.1
  have al : ∀ g, grV ru pd wd ly k gw gb gm gc a g = 0 ∨ grV ru pd wd ly k gw gb gm gc a g = 1 := fun g => alF_c _ _ _ _ _ _ _
  have eG : ∀ g, alF gw gb gm a (wtV ru pd wd ly k a g) gc 0 = grV ru pd wd ly k gw gb gm gc a g := fun _ => rfl
  generalize hA : grV ru pd wd ly k gw gb gm gc a = AL at K al eG
  have vb : ∀ g, 1 ≤ wtV ru pd wd ly k a g ∧ wtV ru pd wd ly k a g ≤ 30 := fun g => wt_b rb
  generalize hV : wtV ru pd wd ly k a = V at K vb
  unfold Md_ask_b38
  refine itr_wp (fun i σ => ∃ h2 : Hp, σ = (h2, 2000, a, x2, x3, y, 2 * wfS AL V y i - ftS AL i, (if ftS AL i = 0 then 0 else 1), (i : Int) + 1) ∧ IvP h2 n W lc sc ru pd wd f ly k sn ∧ GvR h2 gc W gw gb gm) 9 ?_ ?_ (FU_gt (by decide)) ⟨h, rfl, I, G⟩
  · rintro i σ k2 hi ⟨h2, rfl, I2, G2⟩ N
    show wp (Md_ask_b38_body kk k2 h2 2000 a x2 x3 y (2 * wfS AL V y i - ftS AL i) (if ftS AL i = 0 then 0 else 1) ((i : Int) + 1)) _
    have fb := wfS_b AL V y al i
    have b := vb ((i : Int) + 1)
    obtain ⟨h3, e3, I3, G3⟩ := isGrave_e I2 G2 q (g := (i : Int) + 1) (by omega) (by omega)
    rw [eG] at e3
    obtain ⟨h4, e4, I4, F4⟩ := wt_m I3 q (g := (i : Int) + 1) (by omega) (by omega)
    rw [hV] at e4
    have G4 := G3.on F4
    have ef : ftS AL (i + 1) = ftS AL i + AL ((i : Int) + 1) := rfl
    have ew : wfS AL V y (i + 1) = wfS AL V y i + (if AL ((i : Int) + 1) = 0 then 0 else if V ((i : Int) + 1) < y then 0 else 1) := rfl
    unfold Md_ask_b38_body
    rw [w32_n (x := (i : Int) + 1) (by omega) (by omega), if_neg (by omega), cC_s SH2000' rfl, e3, cl_s]
    rcases al ((i : Int) + 1) with z | z
    · rw [z, if_pos wz0]
      refine N _ ⟨h3, ?_, I3, G3⟩
      rw [ef, ew, z, if_pos rfl, Int.add_zero, Int.add_zero]
      rfl
    · rw [z, if_neg wn1, e4, cl_s, w32_n (x := V ((i : Int) + 1)) (by omega) (by omega), w32_n (x := y) (by omega) (by omega)]
      have nz : ¬ ftS AL i + 1 = 0 := by omega
      by_cases w : V ((i : Int) + 1) < y
      · rw [if_pos w, bd_s]
        refine N _ ⟨h4, ?_, I4, G4⟩
        have e5 : 2 * (wfS AL V y i + 0) - (ftS AL i + 1) = 2 * wfS AL V y i - ftS AL i + (-1) := by omega
        rw [ef, ew, z, if_neg (by decide), if_pos w, if_neg nz, e5]
        rfl
      · rw [if_neg w, bd_s]
        refine N _ ⟨h4, ?_, I4, G4⟩
        have e5 : 2 * (wfS AL V y i + 1) - (ftS AL i + 1) = 2 * wfS AL V y i - ftS AL i + 1 := by omega
        rw [ef, ew, z, if_neg (by decide), if_neg w, if_neg nz, e5]
        rfl
  · rintro σ k2 ⟨h2, rfl, I2, G2⟩
    show wp (Md_ask_b38_body kk k2 h2 2000 a x2 x3 y (2 * wfS AL V y 9 - ftS AL 9) (if ftS AL 9 = 0 then 0 else 1) (((9 : Nat) : Int) + 1)) _
    have fb := wfS_b AL V y al 9
    have db := dfV_b AL V y al
    have e2 : (if 0 ≤ w32 (2 * wfS AL V y 9 - ftS AL 9) then (2 * wfS AL V y 9 - ftS AL 9) else -(2 * wfS AL V y 9 - ftS AL 9)) = dfV AL V y := by
      rw [w32_id (x := 2 * wfS AL V y 9 - ftS AL 9) (by omega) (by omega)]
      rfl
    have KK := K h2 I2 G2
    unfold Md_ask_b38_body
    rw [if_pos (by decide), e2, bd_s, w32_n (x := dfV AL V y) (by omega) (by omega)]
    by_cases z : ftS AL 9 = 0
    · rw [if_pos z] at KK
      rw [if_pos z, if_pos wz0]
      exact KK
    · rw [if_neg z] at KK
      rw [if_neg z, if_neg wn1]
      exact KK
theorem mas_e (I : IvP h n W lc sc ru pd wd f ly k sn) (G : GvR h gc W gw gb gm) (q : isWr W a) : ∃ h', Md_ask_b22 h 2000 a (-1) 0 1 = some (if ftS (grV ru pd wd ly k gw gb gm gc a) 9 = 0 then -1 else (bsP (dfV (grV ru pd wd ly k gw gb gm gc a) (wtV ru pd wd ly k a)) 30).1, h') ∧ IvP h' n W lc sc ru pd wd f ly k sn := by
  have rb := (I.2.1.2.2.1.1 (n_pos I.2.1.2.2.1 q)).2.1
  have al : ∀ g, grV ru pd wd ly k gw gb gm gc a g = 0 ∨ grV ru pd wd ly k gw gb gm gc a g = 1 := fun g => alF_c _ _ _ _ _ _ _
  have Wp : wp (Md_ask_b22 h 2000 a (-1) 0 1) (fun r h' => r = (if ftS (grV ru pd wd ly k gw gb gm gc a) 9 = 0 then -1 else (bsP (dfV (grV ru pd wd ly k gw gb gm gc a) (wtV ru pd wd ly k a)) 30).1) ∧ IvP h' n W lc sc ru pd wd f ly k sn) := by
    have db : ∀ y, 0 ≤ dfV (grV ru pd wd ly k gw gb gm gc a) (wtV ru pd wd ly k a) y ∧ dfV (grV ru pd wd ly k gw gb gm gc a) (wtV ru pd wd ly k a) y ≤ 9 := fun y => dfV_b _ _ y al
    generalize hD : dfV (grV ru pd wd ly k gw gb gm gc a) (wtV ru pd wd ly k a) = D at db
    generalize hE : (bsP D 30).1 = E
    unfold Md_ask_b22
    refine itr_wp (fun i σ => ∃ h2 : Hp, σ = (h2, 2000, a, (if i = 0 then -1 else (bsP D i).1), (if i = 0 then 0 else (bsP D i).2), (i : Int) + 1) ∧ IvP h2 n W lc sc ru pd wd f ly k sn ∧ GvR h2 gc W gw gb gm ∧ (0 < i → ftS (grV ru pd wd ly k gw gb gm gc a) 9 ≠ 0)) 30 ?_ ?_ (FU_gt (by decide)) ⟨h, rfl, I, G, fun h => absurd h (by decide)⟩
    · rintro i σ k2 hi ⟨h2, rfl, I2, G2, nz⟩ N
      show wp (Md_ask_b22_body k2 h2 2000 a (if i = 0 then -1 else (bsP D i).1) (if i = 0 then 0 else (bsP D i).2) ((i : Int) + 1)) _
      unfold Md_ask_b22_body
      rw [w32_n (x := (i : Int) + 1) (by omega) (by omega), if_neg (by omega)]
      refine mai_e I2 G2 q (by omega) (by omega) (fun h3 I3 G3 => ?_)
      have bb := bsP_b D db i
      have d1 := db ((i : Int) + 1)
      have eb : bsP D (i + 1) = if D ((i : Int) + 1) < (bsP D i).2 then ((i : Int) + 1, D ((i : Int) + 1)) else bsP D i := rfl
      rw [hD]
      by_cases z : ftS (grV ru pd wd ly k gw gb gm gc a) 9 = 0
      · rw [if_pos z]
        exact wp_i ⟨by rw [if_pos z], I3⟩
      · rw [if_neg z]
        have go1 : bsP D (i + 1) = ((i : Int) + 1, D ((i : Int) + 1)) → wp (k2 (h3, 2000, a, (i : Int) + 1, D ((i : Int) + 1), (i : Int) + 1 + 1)) (fun r h' => r = (if ftS (grV ru pd wd ly k gw gb gm gc a) 9 = 0 then -1 else E) ∧ IvP h' n W lc sc ru pd wd f ly k sn) := fun e => N _ ⟨h3, by rw [if_neg (Nat.succ_ne_zero i), if_neg (Nat.succ_ne_zero i), e]; rfl, I3, G3, fun _ => z⟩
        by_cases i0 : i = 0
        · subst i0
          rw [if_pos rfl, if_pos rfl, if_pos w32_m1]
          refine go1 ?_
          rw [eb, if_pos (by have e0 : (bsP D 0).2 = 10 := rfl; rw [e0]; omega)]
        · rw [if_neg i0, if_neg i0, w32_n (x := (bsP D i).1) (by omega) (by omega), if_neg (by omega), w32_n (x := (bsP D i).2) (by omega) (by omega)]
          by_cases w : D ((i : Int) + 1) < (bsP D i).2
          · rw [if_pos w]
            exact go1 (by rw [eb, if_pos w])
          · rw [if_neg w]
            exact N _ ⟨h3, by rw [if_neg (Nat.succ_ne_zero i), if_neg (Nat.succ_ne_zero i), eb, if_neg w]; rfl, I3, G3, fun _ => z⟩
    · rintro σ k2 ⟨h2, rfl, I2, G2, nz⟩
      show wp (Md_ask_b22_body k2 h2 2000 a _ _ (((30 : Nat) : Int) + 1)) _
      unfold Md_ask_b22_body
      rw [if_pos (by decide), if_neg (nz (by decide))]
      exact wp_i ⟨by rw [if_neg (by decide : ¬ (30 : Nat) = 0), hE], I2⟩
  obtain ⟨r, h', e, rfl, q2⟩ := Wp
  exact ⟨h', e, q2⟩
end Q
theorem So_graves : S_graves Inv := by
  intro h a1 a2 I i1 i2
  obtain ⟨n, W, lc, sc, ru, pd, wd, f, ly, k0, sn, J⟩ := I
  have Ct := J.2.1
  have J0 := J.qs (h' := up h 2000 0 0) t0_sc
  have Gv := J.2.2.2.2.2.2.2.2.2.2.2.2.1
  obtain ⟨gc, gw, gb, gm, G⟩ := gvr Gv
  unfold Cc_graves Md_graves
  rw [cC_s SH20' rfl]
  by_cases q : isWr W a1
  · have rb := (Ct.2.2.1.1 (n_pos Ct.2.2.1 q)).2.1
    obtain ⟨h1, e1, F1, row⟩ := fit_e J G q
    have J1 := (J.qs F1).qs (h' := up h1 2000 0 0) t0_sc
    have G1 : GvR (up h1 2000 0 0) gc W gw gb gm := G.on ((F1.tr t0_sc).w (fun _ _ t => Or.inl t))
    obtain ⟨h2, e2, J2⟩ := mgr_e J1 G1 q i2
    have ec := cgr_e (h := h1) (AL := grV ru pd wd ly k0 gw gb gm gc a1) (V := wtV ru pd wd ly k0 a1) row (fun g => wt_b rb) i2
    rw [(isW_1 Ct i1 q).1, cl_s, if_neg wn1, e1, cl_s, ec]
    by_cases z : a2 < -1
    · refine so_s ⟨-1, up h1 2000 0 0, ?_, by rw [gvF_n _ z], ⟨n, W, lc, sc, ru, pd, wd, f, ly, k0, sn, J1⟩⟩
      rw [cC_s SH2000' rfl, pu_s, (isW_1 J1.2.1 i1 q).2, cl_s, if_neg wn1, ri i2, if_pos z]
    · refine so_s ⟨_, h2, ?_, rfl, ⟨n, W, lc, sc, ru, pd, wd, f, ly, k0, sn, J2⟩⟩
      rw [cC_s SH2000' rfl, pu_s, (isW_1 J1.2.1 i1 q).2, cl_s, if_neg wn1, ri i2, if_neg z, e2]
  · rw [(isW_0 Ct i1 q).1, cl_s, if_pos wz0]
    refine so_s ⟨-1, up h 2000 0 0, ?_, rfl, ⟨n, W, lc, sc, ru, pd, wd, f, ly, k0, sn, J0⟩⟩
    rw [cC_s SH2000' rfl, pu_s, (isW_0 J0.2.1 i1 q).2, cl_s, if_pos wz0]
theorem So_ask : S_ask Inv := by
  intro h a1 I i1
  obtain ⟨n, W, lc, sc, ru, pd, wd, f, ly, k0, sn, J⟩ := I
  have Ct := J.2.1
  have J0 := J.qs (h' := up h 2000 0 0) t0_sc
  have Gv := J.2.2.2.2.2.2.2.2.2.2.2.2.1
  obtain ⟨gc, gw, gb, gm, G⟩ := gvr Gv
  unfold Cc_ask Md_ask
  rw [cC_s SH20' rfl]
  by_cases q : isWr W a1
  · have rb := (Ct.2.2.1.1 (n_pos Ct.2.2.1 q)).2.1
    have al : ∀ g, grV ru pd wd ly k0 gw gb gm gc a1 g = 0 ∨ grV ru pd wd ly k0 gw gb gm gc a1 g = 1 := fun g => alF_c _ _ _ _ _ _ _
    obtain ⟨h1, e1, F1, row⟩ := fit_e J G q
    have J1 := (J.qs F1).qs (h' := up h1 2000 0 0) t0_sc
    have G1 : GvR (up h1 2000 0 0) gc W gw gb gm := G.on ((F1.tr t0_sc).w (fun _ _ t => Or.inl t))
    obtain ⟨h2, e2, J2⟩ := mas_e J1 G1 q
    have ec := cas_e (h := h1) (AL := grV ru pd wd ly k0 gw gb gm gc a1) (V := wtV ru pd wd ly k0 a1) al row (fun g => wt_b rb)
    have fb := wfS_b (grV ru pd wd ly k0 gw gb gm gc a1) (wtV ru pd wd ly k0 a1) 0 al 9
    have e1' : Cc_fit h 20 a1 = some (ftS (grV ru pd wd ly k0 gw gb gm gc a1) 9, h1) := e1
    have em : Md_isWrong (up h1 2000 0 0) 2000 a1 = some (1, up h1 2000 0 0) := (isW_1 J1.2.1 i1 q).2
    rw [(isW_1 Ct i1 q).1, cl_s, if_neg wn1, e1', cl_s, w32_n (x := ftS (grV ru pd wd ly k0 gw gb gm gc a1) 9) (by omega) (by omega), ec]
    by_cases z : ftS (grV ru pd wd ly k0 gw gb gm gc a1) 9 = 0
    · rw [if_pos z] at e2 ⊢
      refine so_s ⟨_, h2, ?_, rfl, ⟨n, W, lc, sc, ru, pd, wd, f, ly, k0, sn, J2⟩⟩
      rw [cC_s SH2000' rfl, pu_s, em, cl_s, if_neg wn1, e2]
    · rw [if_neg z] at e2 ⊢
      refine so_s ⟨_, h2, ?_, rfl, ⟨n, W, lc, sc, ru, pd, wd, f, ly, k0, sn, J2⟩⟩
      rw [cC_s SH2000' rfl, pu_s, em, cl_s, if_neg wn1, e2]
  · rw [(isW_0 Ct i1 q).1, cl_s, if_pos wz0]
    refine so_s ⟨-1, up h 2000 0 0, ?_, rfl, ⟨n, W, lc, sc, ru, pd, wd, f, ly, k0, sn, J0⟩⟩
    rw [cC_s SH2000' rfl, pu_s, (isW_0 J0.2.1 i1 q).2, cl_s, if_pos wz0]
end PureAsk
