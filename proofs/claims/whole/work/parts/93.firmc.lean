section PureFirmC
/-! FIRM: is a row firm; the class's side -/
def slV (f st : Int → Int) (a : Int) : Int := if st a = 9 then 0 else f (36 + 2 * a) - f (37 + 2 * st a)
def lkV (f : Int → Int) (a b : Int) : Int := f (36 + 2 * a) - f (37 + 2 * b)
def frQ (f st : Int → Int) (a b : Nat) : Prop := st (a : Int) ≠ (b : Int) ∧ slV f st (a : Int) < lkV f (a : Int) (b : Int) ∧ slV f st (b : Int) < lkV f (b : Int) (a : Int)
def frP (n : Nat) (f st : Int → Int) : Prop := (∀ a : Nat, a < n → 0 ≤ slV f st (a : Int)) ∧ ∀ a b : Nat, a < b → b < n → ¬ frQ f st a b
def frR (n : Nat) (f st : Int → Int) (r : Int) : Prop := (r = 1 ∧ frP n f st) ∨ (r = 0 ∧ ¬ frP n f st)
section B
variable {h : Hp} {n : Nat} {f st : Int → Int}
theorem lkV_b (g : Gd n f) {a b : Int} (a0 : 0 ≤ a) (a1 : a < n) (b0 : 0 ≤ b) (b1 : b < n) : -9 ≤ lkV f a b ∧ lkV f a b ≤ 9 := by
  have n6 := g.1
  have z1 := Gd_l g a0 (show a < 6 by omega)
  have z2 := Gd_b g b0 (show b < 6 by omega)
  unfold lkV
  omega
theorem slV_b (g : Gd n f) (K : seOK n st) {a : Nat} (a1 : a < n) : -9 ≤ slV f st (a : Int) ∧ slV f st (a : Int) ≤ 9 := by
  unfold slV
  by_cases c : st (a : Int) = 9
  · rw [if_pos c]; omega
  · rw [if_neg c]
    have k := K a a1
    exact lkV_b g (a := (a : Int)) (b := st (a : Int)) (by omega) (by omega) (by omega) (by omega)
theorem c_sl (A : StA h 110 n f) (K : seOK n st) (T : ∀ k : Nat, k < n → h 72 (k : Int) = st (k : Int)) {a : Nat} (a1 : a < n) : Cc_seatLiking h 20 72 (a : Int) = some (slV f st (a : Int), h) := by
  have n6 := A.2.2.2.1
  have k := K a a1
  unfold Cc_seatLiking slV
  rw [at_eq SH72' (by decide) (by omega) (by omega) (by decide), cl_s, T a a1, w32_id (x := st (a : Int)) (by omega) (by omega)]
  by_cases c : st (a : Int) = 9
  · rw [if_pos c, if_pos c]
  · rw [if_neg c, if_neg c, cC_s SH20' rfl, c_lik A (by omega) (by omega) (by omega) (by omega), cl_s]
theorem c_isFirm (A : StA h 110 n f) (K : seOK n st) (T : ∀ k : Nat, k < n → h 72 (k : Int) = st (k : Int)) : wp (Cc_isFirm h 20 72) (fun r h' => h' = h ∧ frR n f st r) := by
  have n6 := A.2.2.2.1
  have g := A.2.2.2
  have s7 := (IsS_sh A.1).1
  unfold Cc_isFirm Cc_isFirm_b2
  refine itr_wpx (n := n) (fun m σ => ∃ a : Nat, σ = (h, 20, 72, (a : Int)) ∧ m + a = n ∧ (∀ c : Nat, c < a → 0 ≤ slV f st (c : Int)) ∧ ∀ c b : Nat, c < a → c < b → b < n → ¬ frQ f st c b) ?_ (FU_gt (by omega)) ⟨0, rfl, rfl, fun c hc => absurd hc (by omega), fun c b hc => absurd hc (by omega)⟩
  rintro m σ kk ⟨a, rfl, hm, P1, P2⟩ KK
  show wp (Cc_isFirm_b2_body kk h 20 72 (a : Int)) _
  unfold Cc_isFirm_b2_body
  rw [cC_s SH20' rfl, cC_s s7 rfl, A.2.1, w32_n (x := (a : Int)) (by omega) (by omega), w32_n (x := (n : Int)) (by omega) (by omega)]
  by_cases c : a < n
  · have sb := slV_b g K c
    rw [if_pos (by omega), c_sl A K T c, cl_s, w32_id (x := slV f st (a : Int)) (by omega) (by omega)]
    by_cases d : slV f st (a : Int) < 0
    · rw [if_pos d]
      exact wp_i ⟨rfl, Or.inr ⟨rfl, fun q => absurd (q.1 a c) (by omega)⟩⟩
    · rw [if_neg d, bd_s]
      unfold Cc_isFirm_b28
      refine itr_wpx (n := n - (a + 1)) (fun m2 σ => ∃ b : Nat, σ = (h, 20, 72, (a : Int), (b : Int)) ∧ m2 + b = n ∧ a < b ∧ ∀ c : Nat, a < c → c < b → ¬ frQ f st a c) ?_ (FU_gt (by omega)) ⟨a + 1, by rw [show (a : Int) + 1 = ((a + 1 : Nat) : Int) by omega], by omega, by omega, fun c c0 c1 => absurd c1 (by omega)⟩
      rintro m2 σ k2 ⟨b, rfl, hb, ab, Q1⟩ K2
      show wp (Cc_isFirm_b28_body kk k2 h 20 72 (a : Int) (b : Int)) _
      unfold Cc_isFirm_b28_body
      rw [cC_s SH20' rfl, cC_s s7 rfl, A.2.1, w32_n (x := (b : Int)) (by omega) (by omega), w32_n (x := (n : Int)) (by omega) (by omega)]
      have nx : b < n → ¬ frQ f st a b → wp (k2 (h, 20, 72, (a : Int), (b : Int) + 1)) (fun r h' => h' = h ∧ frR n f st r) := fun hbn nq => K2 (m2 - 1) _ (by omega) ⟨b + 1, by rw [show (b : Int) + 1 = ((b + 1 : Nat) : Int) by omega], by omega, by omega, fun c c0 c1 => by
        by_cases z : c = b
        · rw [z]; exact nq
        · exact Q1 c c0 (by omega)⟩
      by_cases e : b < n
      · have ka := K a c
        have lb1 := lkV_b g (a := (a : Int)) (b := (b : Int)) (by omega) (by omega) (by omega) (by omega)
        have lb2 := lkV_b g (a := (b : Int)) (b := (a : Int)) (by omega) (by omega) (by omega) (by omega)
        have sb2 := slV_b g K e
        rw [if_pos (by omega), at_eq SH72' (by decide) (by omega) (by omega) (by decide), cl_s, T a c, w32_id (x := st (a : Int)) (by omega) (by omega)]
        by_cases z : st (a : Int) = (b : Int)
        · rw [if_pos z]
          exact nx e (fun q => q.1 z)
        · have l1 : Cc_liking h 20 (a : Int) (b : Int) = some (lkV f (a : Int) (b : Int), h) := c_lik A (by omega) (by omega) (by omega) (by omega)
          have l2 : Cc_liking h 20 (b : Int) (a : Int) = some (lkV f (b : Int) (a : Int), h) := c_lik A (by omega) (by omega) (by omega) (by omega)
          rw [if_neg z, l1, cl_s, c_sl A K T c, cl_s, w32_id (x := slV f st (a : Int)) (by omega) (by omega), w32_id (x := lkV f (a : Int) (b : Int)) (by omega) (by omega)]
          by_cases y : slV f st (a : Int) < lkV f (a : Int) (b : Int)
          · rw [if_pos y, l2, cl_s, c_sl A K T e, cl_s, w32_id (x := slV f st (b : Int)) (by omega) (by omega), w32_id (x := lkV f (b : Int) (a : Int)) (by omega) (by omega)]
            by_cases x : slV f st (b : Int) < lkV f (b : Int) (a : Int)
            · rw [if_pos x]
              exact wp_i ⟨rfl, Or.inr ⟨rfl, fun q => q.2 a b ab e ⟨z, y, x⟩⟩⟩
            · rw [if_neg x]
              exact nx e (fun q => x q.2.2)
          · rw [if_neg y]
            exact nx e (fun q => y q.2.1)
      · rw [if_neg (by omega)]
        refine KK (m - 1) _ (by omega) ⟨a + 1, by rw [show (a : Int) + 1 = ((a + 1 : Nat) : Int) by omega], by omega, fun c0 hc0 => ?_, fun c0 b0 hc0 hcb hbn => ?_⟩
        · by_cases z : c0 = a
          · rw [z]; omega
          · exact P1 c0 (by omega)
        · by_cases z : c0 = a
          · rw [z]; exact Q1 b0 (by omega) (by omega)
          · exact P2 c0 b0 (by omega) hcb hbn
  · rw [if_neg (by omega)]
    have ea : a = n := by omega
    subst ea
    exact wp_i ⟨rfl, Or.inl ⟨rfl, P1, fun c0 b0 hcb hb => P2 c0 b0 (by omega) hcb hb⟩⟩
end B
/-- the i-th of a list that is firm, or how many are -/
noncomputable def fmV (n : Nat) (f : Int → Int) (i : Int) : List (Int → Int) → Nat → Int
  | [], c => if i = -1 then (c : Int) else -1
  | st :: l, c => @ite _ (frP n f st) (Classical.propDecidable _) (if (c : Int) = i then rowN n st else fmV n f i l (c + 1)) (fmV n f i l c)
section C
variable {n : Nat} {f : Int → Int}
theorem c_firmL (n6 : n ≤ 6) {i : Int} (hi : ir i) : ∀ (l : List (Int → Int)) (x c : Nat) (h : Hp), StA h 110 n f → h 70 3 = (n : Int) → h 70 2 = ((x + l.length : Nat) : Int) → x + l.length ≤ 76 → c ≤ x → (∀ (j : Nat) (st : Int → Int), l[j]? = some st → h 71 ((x + j : Nat) : Int) = rowN n st) → (∀ st ∈ l, seOK n st) → ∀ N, l.length < N → ∃ h', itr (fun k s => Cc_firm_b13_body k s.1 s.2.1 s.2.2.1 s.2.2.2.1 s.2.2.2.2) N (h, 20, i, (c : Int), (x : Int)) = some (fmV n f i l c, h') ∧ On (fun a _ => a = 72) h h' := by
  intro l
  induction l with
  | nil =>
    intro x c h A h3 h2 x76 cx R K N hN
    obtain ⟨N, rfl⟩ : ∃ N' : Nat, N = N' + 1 := ⟨N - 1, by omega⟩
    refine ⟨h, ?_, On.rf⟩
    have e2 : h 70 2 = (x : Int) := h2
    rw [itr_s]
    show Cc_firm_b13_body _ h 20 i (c : Int) (x : Int) = some (if i = -1 then (c : Int) else -1, h)
    unfold Cc_firm_b13_body
    rw [cC_s SH20' rfl, cC_s SH70' rfl, e2, if_neg (Int.lt_irrefl _), ri hi]
    by_cases z : i = -1
    · rw [if_pos z, if_pos z]
    · rw [if_neg z, if_neg z]
  | cons st l ih =>
    intro x c h A h3 h2 x76 cx R K N hN
    obtain ⟨N, rfl⟩ : ∃ N' : Nat, N = N' + 1 := ⟨N - 1, by omega⟩
    have ll : (st :: l).length = l.length + 1 := rfl
    rw [ll] at h2 x76 hN
    have Ks : seOK n st := K st (List.mem_cons_self ..)
    have r0 : h 71 (x : Int) = rowN n st := R 0 st rfl
    obtain ⟨h1, e1, F1, T1⟩ := seatsOf_e n6 h3 Ks (i := x) (by omega) r0
    have A1 : StA h1 110 n f := A.c (fun j _ _ => F1 110 j (by omega)) (fun j j0 j1 => F1.row (fun m => by omega))
    obtain ⟨r, hh, e2, eH, fr⟩ := c_isFirm A1 Ks T1
    rw [eH] at e2
    have ih' := fun (c' : Nat) (hc : c' ≤ x + 1) => ih (x + 1) c' h1 A1 (by rw [F1 70 3 (by omega)]; exact h3) (by rw [F1 70 2 (by omega), h2]; omega) (by omega) hc (fun j s' hj => by
      rw [F1 71 _ (by omega)]
      have t := R (j + 1) s' (by rw [List.getElem?_cons_succ]; exact hj)
      rw [show x + 1 + j = x + (j + 1) by omega]
      exact t) (fun s' hs => K s' (List.mem_cons_of_mem _ hs)) N (by omega)
    have ex : (x : Int) + 1 = ((x + 1 : Nat) : Int) := by omega
    have ec : (c : Int) + 1 = ((c + 1 : Nat) : Int) := by omega
    have bd : Cc_firm_b13_body (itr (fun k s => Cc_firm_b13_body k s.1 s.2.1 s.2.2.1 s.2.2.2.1 s.2.2.2.2) N) h 20 i (c : Int) (x : Int) = if w32 r = 0 then itr (fun k s => Cc_firm_b13_body k s.1 s.2.1 s.2.2.1 s.2.2.2.1 s.2.2.2.2) N (h1, 20, i, (c : Int), ((x + 1 : Nat) : Int)) else if (c : Int) = i then some (h1 71 (x : Int), h1) else itr (fun k s => Cc_firm_b13_body k s.1 s.2.1 s.2.2.1 s.2.2.2.1 s.2.2.2.2) N (h1, 20, i, ((c + 1 : Nat) : Int), ((x + 1 : Nat) : Int)) := by
      unfold Cc_firm_b13_body
      rw [cC_s SH20' rfl, cC_s SH70' rfl, h2, w32_n (x := (x : Int)) (by omega) (by omega), w32_n (x := ((x + (l.length + 1) : Nat) : Int)) (by omega) (by omega), if_pos (by omega), e1, cl_s, e2, cl_s, w32_n (x := (c : Int)) (by omega) (by omega), ri hi, rowAt_e (by omega), cl_s, ex, ec]
    rw [itr_s]
    show ∃ h', Cc_firm_b13_body _ h 20 i (c : Int) (x : Int) = some (@ite _ (frP n f st) (Classical.propDecidable _) (if (c : Int) = i then rowN n st else fmV n f i l (c + 1)) (fmV n f i l c), h') ∧ On (fun a _ => a = 72) h h'
    rw [bd]
    rcases fr with ⟨r1, p⟩ | ⟨r1, p⟩
    · rw [if_pos p, r1, if_neg wn1]
      by_cases z : (c : Int) = i
      · rw [if_pos z, if_pos z]
        exact ⟨h1, by rw [F1 71 _ (by omega), r0], F1⟩
      · rw [if_neg z, if_neg z]
        obtain ⟨h', e, F⟩ := ih' (c + 1) (by omega)
        exact ⟨h', e, F1.tr F⟩
    · rw [if_neg p, r1, if_pos wz0]
      obtain ⟨h', e, F⟩ := ih' c (by omega)
      exact ⟨h', e, F1.tr F⟩
theorem c_firm {h : Hp} (C : CoA h n) (A : StA h 110 n f) (Rw : RwI h n) {i : Int} (hi : ir i) : ∃ h', Cc_firm h 20 i = some (if n = 0 then -1 else fmV n f i (seL n) 0, h') ∧ On (fun a _ => a = 72) h h' := by
  have n6 := A.2.2.2.1
  unfold Cc_firm
  rw [cC_s SH20' rfl]
  by_cases z : n = 0
  · rw [told0 C z, cl_s, if_pos wz0, if_pos z]
    exact ⟨h, rfl, On.rf⟩
  · obtain ⟨w1, w2, w3⟩ := Rw (by omega)
    have ln := seL_len n (by omega)
    rw [told1 C z, cl_s, if_neg wn1, if_neg z]
    unfold Cc_firm_b13
    have e0 : ∀ (k : Nat), 0 + k = k := Nat.zero_add
    exact c_firmL n6 hi (seL n) 0 0 h A w1 (by rw [e0]; exact w2) (by omega) (Nat.le_refl _) (fun j st hj => by rw [e0]; exact w3 j st hj) (fun st hs => seL_ok n (by omega) st hs) FU (FU_gt (by omega))
end C
end PureFirmC
