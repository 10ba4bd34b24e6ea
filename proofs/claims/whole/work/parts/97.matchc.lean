section PureMatchC
/-! MATCHED: what a row takes away; the class's side; both ways to the best one -/
def adM (n : Nat) (f st : Int → Int) : Prop := ∀ k : Nat, k < n → (st (k : Int) = 9 ∨ (0 ≤ st (k : Int) ∧ st (k : Int) < (n : Int))) ∧ (st (k : Int) ≠ 9 → f (6 * (k : Int) + st (k : Int)) ≠ 0)
def gsV (n : Nat) (f st : Int → Int) : Int := sm (fun k => if st (k : Int) = 9 then 0 else f (36 + 2 * (k : Int))) n
section B
variable {h : Hp} {n : Nat} {f st : Int → Int}
theorem gsV_b (g : Gd n f) : ∀ m : Nat, m ≤ n → 0 ≤ gsV m f st ∧ gsV m f st ≤ 9 * m := fun m hm => by
  have n6 := g.1
  refine sm_b (f := fun k => if st (k : Int) = 9 then 0 else f (36 + 2 * (k : Int))) (m := 9) m (fun i hi => ?_)
  have l := Gd_l g (p := (i : Int)) (by omega) (by omega)
  by_cases c : st (i : Int) = 9
  · rw [if_pos c]; omega
  · rw [if_neg c]; exact l
theorem gsV_s (m : Nat) : gsV (m + 1) f st = gsV m f st + (if st (m : Int) = 9 then 0 else f (36 + 2 * (m : Int))) := rfl
theorem c_gone (A : StA h 110 n f) (K : seOK n st) (T : ∀ k : Nat, k < n → h 72 (k : Int) = st (k : Int)) : wp (Cc_lonelinessGone h 20 72) (fun r h' => h' = h ∧ ((adM n f st ∧ r = gsV n f st) ∨ (¬ adM n f st ∧ r = -1))) := by
  have n6 := A.2.2.2.1
  have g := A.2.2.2
  have s7 := (IsS_sh A.1).1
  unfold Cc_lonelinessGone Cc_lonelinessGone_b4
  refine itr_wpx (n := n) (fun m σ => ∃ a : Nat, σ = (h, 20, 72, gsV a f st, (a : Int)) ∧ m + a = n ∧ ∀ k : Nat, k < a → st (k : Int) ≠ 9 → f (6 * (k : Int) + st (k : Int)) ≠ 0) ?_ (FU_gt (by omega)) ⟨0, rfl, rfl, fun c hc => absurd hc (by omega)⟩
  rintro m σ kk ⟨a, rfl, hm, P1⟩ KK
  show wp (Cc_lonelinessGone_b4_body kk h 20 72 (gsV a f st) (a : Int)) _
  unfold Cc_lonelinessGone_b4_body
  rw [cC_s SH20' rfl, cC_s s7 rfl, A.2.1, w32_n (x := (a : Int)) (by omega) (by omega), w32_n (x := (n : Int)) (by omega) (by omega)]
  by_cases c : a < n
  · have ka := K a c
    have nx : (st (a : Int) ≠ 9 → f (6 * (a : Int) + st (a : Int)) ≠ 0) → ∀ v, v = gsV (a + 1) f st → wp (kk (h, 20, 72, v, (a : Int) + 1)) (fun r h' => h' = h ∧ ((adM n f st ∧ r = gsV n f st) ∨ (¬ adM n f st ∧ r = -1))) := fun q v hv => KK (m - 1) _ (by omega) ⟨a + 1, by rw [hv, show (a : Int) + 1 = ((a + 1 : Nat) : Int) by omega], by omega, fun k hk => by
      by_cases z : k = a
      · rw [z]; exact q
      · exact P1 k (by omega)⟩
    rw [if_pos (by omega), at_eq SH72' (by decide) (by omega) (by omega) (by decide), cl_s, T a c, w32_id (x := st (a : Int)) (by omega) (by omega)]
    by_cases z : st (a : Int) = 9
    · rw [if_pos z]
      exact nx (fun q => absurd z q) _ (by rw [gsV_s, if_pos z]; omega)
    · have db := Gd_d g (a := (a : Int)) (b := st (a : Int)) (by omega) (by omega) (by omega) (by omega)
      rw [if_neg z, St_owes_e A (by omega) (by omega) (by omega) (by omega), cl_s, w32_n (x := f (6 * (a : Int) + st (a : Int))) (by omega) (by omega)]
      by_cases y : f (6 * (a : Int) + st (a : Int)) = 0
      · rw [if_pos y]
        exact wp_i ⟨rfl, Or.inr ⟨fun q => (q a c).2 z y, rfl⟩⟩
      · rw [if_neg y, St_lonelyOf_e A (by omega) (by omega), cl_s, bd_s]
        exact nx (fun _ => y) _ (by rw [gsV_s, if_neg z])
  · rw [if_neg (by omega)]
    have ea : a = n := by omega
    subst ea
    exact wp_i ⟨rfl, Or.inl ⟨fun k hk => ⟨K k hk, P1 k hk⟩, rfl⟩⟩
end B
noncomputable def mtC (n : Nat) (f : Int → Int) (s : Int × Int) (st : Int → Int) : Int × Int := @ite _ (adM n f st) (Classical.propDecidable _) (if s.2 < gsV n f st then (rowN n st, gsV n f st) else s) s
noncomputable def mtM (n : Nat) (f : Int → Int) (s : Int × Int) (st : Int → Int) : Int × Int := @ite _ (adM n f st) (Classical.propDecidable _) (if s.1 = -1 then (rowN n st, gsV n f st) else if gsV n f st < s.2 then s else if gsV n f st = s.2 then (if rowN n st < s.1 then (rowN n st, gsV n f st) else s) else (rowN n st, gsV n f st)) s
section F
variable {n : Nat} {f : Int → Int}
theorem mtC_1 {s : Int × Int} {st : Int → Int} (p : adM n f st) : mtC n f s st = if s.2 < gsV n f st then (rowN n st, gsV n f st) else s := if_pos p
theorem mtC_0 {s : Int × Int} {st : Int → Int} (p : ¬ adM n f st) : mtC n f s st = s := if_neg p
theorem mtM_1 {s : Int × Int} {st : Int → Int} (p : adM n f st) : mtM n f s st = if s.1 = -1 then (rowN n st, gsV n f st) else if gsV n f st < s.2 then s else if gsV n f st = s.2 then (if rowN n st < s.1 then (rowN n st, gsV n f st) else s) else (rowN n st, gsV n f st) := if_pos p
theorem mtM_0 {s : Int × Int} {st : Int → Int} (p : ¬ adM n f st) : mtM n f s st = s := if_neg p
theorem mt_same (g : Gd n f) : ∀ (l : List (Int → Int)) (s : Int × Int), 0 ≤ s.1 → (∀ st ∈ l, seOK n st ∧ s.1 < rowN n st) → (l.map (rowN n)).Pairwise (fun a b => a < b) → l.foldl (mtC n f) s = l.foldl (mtM n f) s := by
  have n6 := g.1
  intro l
  induction l with
  | nil => exact fun s _ _ _ => rfl
  | cons st l ih =>
    intro s s1 K P
    rw [List.map_cons, List.pairwise_cons] at P
    obtain ⟨P1, P2⟩ := P
    have ks := K st (List.mem_cons_self ..)
    have rb := rowN_b n6 ks.1 n (Nat.le_refl _)
    have up' : ∀ x ∈ l, rowN n st < rowN n x := fun x hx => P1 _ (List.mem_map_of_mem hx)
    have same : l.foldl (mtC n f) s = l.foldl (mtM n f) s := ih s s1 (fun x hx => K x (List.mem_cons_of_mem _ hx)) P2
    have new : l.foldl (mtC n f) (rowN n st, gsV n f st) = l.foldl (mtM n f) (rowN n st, gsV n f st) := ih (rowN n st, gsV n f st) rb.1 (fun x hx => ⟨(K x (List.mem_cons_of_mem _ hx)).1, up' x hx⟩) P2
    rw [List.foldl_cons, List.foldl_cons]
    by_cases p : adM n f st
    · rw [mtC_1 p, mtM_1 p, if_neg (show ¬ s.1 = -1 by omega)]
      by_cases c : s.2 < gsV n f st
      · rw [if_pos c, if_neg (show ¬ gsV n f st < s.2 by omega), if_neg (show ¬ gsV n f st = s.2 by omega)]
        exact new
      · rw [if_neg c]
        by_cases d : gsV n f st < s.2
        · rw [if_pos d]; exact same
        · rw [if_neg d, if_pos (show gsV n f st = s.2 by omega), if_neg (show ¬ rowN n st < s.1 by omega)]
          exact same
    · rw [mtC_0 p, mtM_0 p]
      exact same
theorem mt_eq (g : Gd n f) : ∀ (l : List (Int → Int)), (∀ st ∈ l, seOK n st) → (l.map (rowN n)).Pairwise (fun a b => a < b) → (∃ st ∈ l, adM n f st) → l.foldl (mtC n f) (-1, -1) = l.foldl (mtM n f) (-1, 0) := by
  have n6 := g.1
  intro l
  induction l with
  | nil => intro _ _ ⟨st, h, _⟩; exact absurd h List.not_mem_nil
  | cons st l ih =>
    intro K P E
    rw [List.map_cons, List.pairwise_cons] at P
    obtain ⟨P1, P2⟩ := P
    have ks := K st (List.mem_cons_self ..)
    have rb := rowN_b n6 ks n (Nat.le_refl _)
    have gb := gsV_b (st := st) g n (Nat.le_refl _)
    rw [List.foldl_cons, List.foldl_cons]
    by_cases p : adM n f st
    · rw [mtC_1 p, mtM_1 p, if_pos (show ((-1 : Int), (0 : Int)).1 = -1 from rfl), if_pos (show ((-1 : Int), (-1 : Int)).2 < gsV n f st by show (-1 : Int) < _; omega)]
      exact mt_same g l (rowN n st, gsV n f st) rb.1 (fun x hx => ⟨K x (List.mem_cons_of_mem _ hx), P1 _ (List.mem_map_of_mem hx)⟩) P2
    · rw [mtC_0 p, mtM_0 p]
      obtain ⟨x, hx, px⟩ := E
      refine ih (fun y hy => K y (List.mem_cons_of_mem _ hy)) P2 ⟨x, ?_, px⟩
      rcases List.mem_cons.mp hx with e | e
      · exact absurd (e ▸ px) p
      · exact e
theorem c_matchL (n6 : n ≤ 6) {w : Int} (hw : ir w) : ∀ (l : List (Int → Int)) (x : Nat) (s : Int × Int) (h : Hp), StA h 110 n f → h 70 3 = (n : Int) → h 70 2 = ((x + l.length : Nat) : Int) → x + l.length ≤ 76 → (-1 ≤ s.2 ∧ s.2 ≤ 1000) → (∀ (j : Nat) (st : Int → Int), l[j]? = some st → h 71 ((x + j : Nat) : Int) = rowN n st) → (∀ st ∈ l, seOK n st) → ∀ N, l.length < N → ∃ h', itr (fun k s => Cc_matched_b25_body k s.1 s.2.1 s.2.2.1 s.2.2.2.1 s.2.2.2.2.1 s.2.2.2.2.2) N (h, 20, w, s.1, s.2, (x : Int)) = some (if w = 0 then (l.foldl (mtC n f) s).1 else (l.foldl (mtC n f) s).2, h') ∧ On (fun a _ => a = 72) h h' := by
  intro l
  induction l with
  | nil =>
    intro x s h A h3 h2 x76 sb R K N hN
    obtain ⟨N, rfl⟩ : ∃ N' : Nat, N = N' + 1 := ⟨N - 1, by omega⟩
    refine ⟨h, ?_, On.rf⟩
    have e2 : h 70 2 = (x : Int) := h2
    rw [itr_s]
    show Cc_matched_b25_body _ h 20 w s.1 s.2 (x : Int) = some (if w = 0 then s.1 else s.2, h)
    unfold Cc_matched_b25_body
    rw [cC_s SH20' rfl, cC_s SH70' rfl, e2, if_neg (Int.lt_irrefl _), ri hw]
    by_cases z : w = 0
    · rw [if_pos z, if_pos z]
    · rw [if_neg z, if_neg z]
  | cons st l ih =>
    intro x s h A h3 h2 x76 sb R K N hN
    obtain ⟨N, rfl⟩ : ∃ N' : Nat, N = N' + 1 := ⟨N - 1, by omega⟩
    have ll : (st :: l).length = l.length + 1 := rfl
    rw [ll] at h2 x76 hN
    have Ks : seOK n st := K st (List.mem_cons_self ..)
    have r0 : h 71 (x : Int) = rowN n st := R 0 st rfl
    obtain ⟨h1, e1, F1, T1⟩ := seatsOf_e n6 h3 Ks (i := x) (by omega) r0
    have A1 : StA h1 110 n f := A.c (fun j _ _ => F1 110 j (by omega)) (fun j j0 j1 => F1.row (fun m => by omega))
    obtain ⟨r, hh, e2, eH, fr⟩ := c_gone A1 Ks T1
    rw [eH] at e2
    have gb := gsV_b (st := st) A.2.2.2 n (Nat.le_refl _)
    have ih' := fun (s' : Int × Int) (hs : -1 ≤ s'.2 ∧ s'.2 ≤ 1000) => ih (x + 1) s' h1 A1 (by rw [F1 70 3 (by omega)]; exact h3) (by rw [F1 70 2 (by omega), h2]; omega) (by omega) hs (fun j s' hj => by
      rw [F1 71 _ (by omega)]
      have t := R (j + 1) s' (by rw [List.getElem?_cons_succ]; exact hj)
      rw [show x + 1 + j = x + (j + 1) by omega]
      exact t) (fun s' hs => K s' (List.mem_cons_of_mem _ hs)) N (by omega)
    have ex : (x : Int) + 1 = ((x + 1 : Nat) : Int) := by omega
    have rb : -1 ≤ r ∧ r ≤ 1000 := by
      rcases fr with ⟨-, e⟩ | ⟨-, e⟩
      · omega
      · omega
    have bd : Cc_matched_b25_body (itr (fun k s => Cc_matched_b25_body k s.1 s.2.1 s.2.2.1 s.2.2.2.1 s.2.2.2.2.1 s.2.2.2.2.2) N) h 20 w s.1 s.2 (x : Int) = if s.2 < r then itr (fun k s => Cc_matched_b25_body k s.1 s.2.1 s.2.2.1 s.2.2.2.1 s.2.2.2.2.1 s.2.2.2.2.2) N (h1, 20, w, rowN n st, r, ((x + 1 : Nat) : Int)) else itr (fun k s => Cc_matched_b25_body k s.1 s.2.1 s.2.2.1 s.2.2.2.1 s.2.2.2.2.1 s.2.2.2.2.2) N (h1, 20, w, s.1, s.2, ((x + 1 : Nat) : Int)) := by
      unfold Cc_matched_b25_body
      rw [cC_s SH20' rfl, cC_s SH70' rfl, h2, w32_n (x := (x : Int)) (by omega) (by omega), w32_n (x := ((x + (l.length + 1) : Nat) : Int)) (by omega) (by omega), if_pos (by omega), e1, cl_s, e2, cl_s, w32_id (x := s.2) (by omega) (by omega), w32_id (x := r) (by omega) (by omega), rowAt_e (by omega), cl_s, ex, F1 71 _ (by omega), r0]
    rw [itr_s, List.foldl_cons]
    show ∃ h' : Hp, Cc_matched_b25_body _ h 20 w s.1 s.2 (x : Int) = _ ∧ _
    rw [bd]
    rcases fr with ⟨p, r1⟩ | ⟨p, r1⟩
    · rw [mtC_1 p, r1]
      by_cases z : s.2 < gsV n f st
      · rw [if_pos z, if_pos z]
        obtain ⟨h', e, F⟩ := ih' (rowN n st, gsV n f st) (by show -1 ≤ gsV n f st ∧ gsV n f st ≤ 1000; omega)
        exact ⟨h', e, F1.tr F⟩
      · rw [if_neg z, if_neg z]
        obtain ⟨h', e, F⟩ := ih' s sb
        exact ⟨h', e, F1.tr F⟩
    · rw [mtC_0 p, r1, if_neg (by omega)]
      obtain ⟨h', e, F⟩ := ih' s sb
      exact ⟨h', e, F1.tr F⟩
end F
end PureMatchC
