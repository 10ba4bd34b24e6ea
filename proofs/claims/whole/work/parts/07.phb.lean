section PhB
def shLo : List (Nat × Nat) := [(9, 0), (8, 0), (100, 240), (999, 0), (999, 0), (999, 0), (999, 0), (999, 0), (999, 0), (999, 0), (0, 0), (100, 3), (100, 18), (100, 24), (999, 0), (999, 0), (999, 0), (999, 0), (999, 0), (999, 0), (0, 0), (100, 3), (100, 18), (100, 24), (999, 0), (999, 0), (999, 0), (999, 0), (999, 0), (999, 0), (110, 5), (111, 5), (112, 7), (999, 0), (999, 0), (4, 0), (112, 41), (999, 0), (999, 0), (999, 0), (3, 0), (100, 1000), (100, 60), (999, 0), (999, 0), (1, 0), (100, 10), (100, 10), (103, 10), (100, 10), (5, 0), (100, 76), (100, 6), (999, 0), (999, 0), (100, 6), (999, 0), (999, 0), (999, 0), (999, 0), (102, 1), (999, 0), (999, 0), (999, 0), (999, 0), (999, 0), (999, 0), (999, 0), (999, 0), (999, 0), (999, 0), (999, 0), (999, 0), (999, 0), (999, 0), (999, 0), (999, 0), (999, 0), (999, 0), (999, 0)]
def shM : List (Nat × Nat) := [(10, 0), (101, 240), (101, 960), (100, 4), (100, 128), (999, 0), (999, 0), (999, 0), (999, 0), (999, 0), (999, 0), (999, 0), (999, 0), (999, 0), (999, 0), (999, 0), (999, 0), (999, 0), (100, 2), (100, 2), (100, 18), (100, 18), (100, 24), (100, 24), (100, 240), (100, 5), (999, 0), (999, 0), (999, 0), (999, 0), (999, 0), (999, 0), (100, 233), (100, 233), (999, 0), (999, 0), (102, 8191), (100, 8191), (100, 6), (999, 0), (999, 0), (100, 9320), (999, 0), (999, 0), (999, 0), (999, 0), (999, 0), (999, 0), (999, 0), (100, 30), (999, 0), (100, 371), (100, 233), (999, 0)]
def shS : List (Nat × Nat) := [(7, 0), (100, 36), (100, 6), (100, 6), (100, 6)]
def shL : List (Nat × Nat) := [(2, 0), (100, 256), (100, 64)]
def shN : List (Nat × Nat) := [(6, 0), (100, 48)]
/-- the kind and the length of every cell behind the constructors -/
def SH (a : Int) : Nat × Nat :=
  if a < 20 then (if 1 ≤ a ∧ a < 5 then (100, 9) else if a = 5 then (100, 6) else if a = 6 ∨ a = 7 then (100, 4) else (999, 0))
  else if a < 100 then shLo.getD (a - 20).toNat (999, 0)
  else if a < 610 then shS.getD (a % 10).toNat (999, 0)
  else if a < 1000 then (999, 0)
  else if a < 1050 then shL.getD (a % 10).toNat (999, 0)
  else if a < 1100 then (999, 0)
  else if a < 1150 then shN.getD (a % 10).toNat (999, 0)
  else if a < 2000 then (999, 0)
  else shM.getD (a - 2000).toNat (999, 0)
/-- where each cell points for good -/
def PT (a k : Int) : Int :=
  if a = 20 then (if k = 0 then 21 else if k < 9 then 47 + k else if k < 12 then 100 + 10 * (k - 9) else if k = 13 then 52 else if k = 18 then 75 else if k = 14 then 55 else if k = 15 then 60 else if k = 16 then 65 else 70)
  else if a = 50 then 1000 + 10 * k else if a = 51 then 1100 + 10 * k else if a = 52 then 130 + 10 * k else if a = 56 then 200 + 10 * k
  else if a = 2000 then (if k = 15 then 11 else if k = 16 then 12 else 2000 + k)
  else a + 1 + k
theorem SH_dom {a : Int} (h : (SH a).1 < 500) : 0 ≤ a ∧ a < 2060 := by
  unfold SH at h
  by_cases h0 : a < 20
  · rw [if_pos h0] at h
    by_cases h1 : 1 ≤ a ∧ a < 5
    · omega
    · rw [if_neg h1] at h
      by_cases h2 : a = 5
      · omega
      · rw [if_neg h2] at h
        by_cases h3 : a = 6 ∨ a = 7
        · omega
        · rw [if_neg h3] at h
          exact absurd h (by decide)
  · refine ⟨by omega, ?_⟩
    apply Int.not_le.mp
    intro h9
    rw [if_neg h0, if_neg (by omega), if_neg (by omega), if_neg (by omega), if_neg (by omega), if_neg (by omega), if_neg (by omega), if_neg (by omega)] at h
    have hl : shM.length ≤ (a - 2000).toNat := by
      have : shM.length = 54 := rfl
      omega
    have hx : shM.getD (a - 2000).toNat (999, 0) = (999, 0) := by
      simp [List.getD, List.getElem?_eq_none hl]
    rw [hx] at h
    exact absurd h (by decide)
theorem SH_all {P : Int → Prop} (hP : ∀ n : Nat, n < 2060 → (SH (n : Int)).1 < 500 → P (n : Int)) {a : Int} (h : (SH a).1 < 500) : P a := by
  obtain ⟨h0, h1⟩ := SH_dom h
  have e : ((a.toNat : Nat) : Int) = a := by omega
  have := hP a.toNat (by omega) (by rw [e]; exact h)
  rwa [e] at this
theorem SH_obj {a : Int} (h : (SH a).1 < 100) : 20 ≤ a := by
  refine SH_all (P := fun a => (SH a).1 < 100 → 20 ≤ a) ?_ (by omega) h
  decide +kernel
/-- which addresses are of a class -/
theorem SH_c0 {a : Int} (h : (SH a).1 = 0) : a = 30 ∨ a = 40 := by
  refine SH_all (P := fun a => (SH a).1 = 0 → a = 30 ∨ a = 40) ?_ (by omega) h
  decide +kernel
theorem SH_c1 {a : Int} (h : (SH a).1 = 1) : a = 65 := by
  refine SH_all (P := fun a => (SH a).1 = 1 → a = 65) ?_ (by omega) h
  decide +kernel
theorem SH_c2 {a : Int} (h : (SH a).1 = 2) : 1000 ≤ a ∧ a < 1050 ∧ a % 10 = 0 := by
  refine SH_all (P := fun a => (SH a).1 = 2 → 1000 ≤ a ∧ a < 1050 ∧ a % 10 = 0) ?_ (by omega) h
  decide +kernel
theorem SH_c3 {a : Int} (h : (SH a).1 = 3) : a = 60 := by
  refine SH_all (P := fun a => (SH a).1 = 3 → a = 60) ?_ (by omega) h
  decide +kernel
theorem SH_c4 {a : Int} (h : (SH a).1 = 4) : a = 55 := by
  refine SH_all (P := fun a => (SH a).1 = 4 → a = 55) ?_ (by omega) h
  decide +kernel
theorem SH_c5 {a : Int} (h : (SH a).1 = 5) : a = 70 := by
  refine SH_all (P := fun a => (SH a).1 = 5 → a = 70) ?_ (by omega) h
  decide +kernel
theorem SH_c6 {a : Int} (h : (SH a).1 = 6) : 1100 ≤ a ∧ a < 1150 ∧ a % 10 = 0 := by
  refine SH_all (P := fun a => (SH a).1 = 6 → 1100 ≤ a ∧ a < 1150 ∧ a % 10 = 0) ?_ (by omega) h
  decide +kernel
theorem SH_c7 {a : Int} (h : (SH a).1 = 7) : 100 ≤ a ∧ a < 610 ∧ a % 10 = 0 := by
  refine SH_all (P := fun a => (SH a).1 = 7 → 100 ≤ a ∧ a < 610 ∧ a % 10 = 0) ?_ (by omega) h
  decide +kernel
theorem SH_c8 {a : Int} (h : (SH a).1 = 8) : a = 21 := by
  refine SH_all (P := fun a => (SH a).1 = 8 → a = 21) ?_ (by omega) h
  decide +kernel
theorem SH_c9 {a : Int} (h : (SH a).1 = 9) : a = 20 := by
  refine SH_all (P := fun a => (SH a).1 = 9 → a = 20) ?_ (by omega) h
  decide +kernel
theorem SH_c10 {a : Int} (h : (SH a).1 = 10) : a = 2000 := by
  refine SH_all (P := fun a => (SH a).1 = 10 → a = 2000) ?_ (by omega) h
  decide +kernel
theorem PT_in {a k : Int} (h1 : a ≠ 20) (h2 : a ≠ 50) (h3 : a ≠ 51) (h4 : a ≠ 52) (h5 : a ≠ 56) (h6 : a ≠ 2000) : PT a k = a + 1 + k := by
  unfold PT
  rw [if_neg h1, if_neg h2, if_neg h3, if_neg h4, if_neg h5, if_neg h6]
section Gv
variable {ω : Wd} {h : Hp} {a : Int}
theorem gv0_0 (hs : (SH a).1 = 0) : fV ω PT h (fkd 0 0) a ((0 : Nat) : Int) = aV ω (a + 1) := by
  have g := SH_c0 hs
  have e : PT a ((0 : Nat) : Int) = (a + 1) := by
    first
      | (rw [PT_in (by omega) (by omega) (by omega) (by omega) (by omega) (by omega)]; omega)
      | (have e : a = 20 := by omega
         subst e; rfl)
      | (have e : a = 2000 := by omega
         subst e; rfl)
  show aV ω (PT a ((0 : Nat) : Int)) = _
  rw [e]
theorem gv0_1 (hs : (SH a).1 = 0) : fV ω PT h (fkd 0 1) a ((1 : Nat) : Int) = aV ω (a + 2) := by
  have g := SH_c0 hs
  have e : PT a ((1 : Nat) : Int) = (a + 2) := by
    first
      | (rw [PT_in (by omega) (by omega) (by omega) (by omega) (by omega) (by omega)]; omega)
      | (have e : a = 20 := by omega
         subst e; rfl)
      | (have e : a = 2000 := by omega
         subst e; rfl)
  show aV ω (PT a ((1 : Nat) : Int)) = _
  rw [e]
theorem gv0_2 (hs : (SH a).1 = 0) : fV ω PT h (fkd 0 2) a ((2 : Nat) : Int) = aV ω (a + 3) := by
  have g := SH_c0 hs
  have e : PT a ((2 : Nat) : Int) = (a + 3) := by
    first
      | (rw [PT_in (by omega) (by omega) (by omega) (by omega) (by omega) (by omega)]; omega)
      | (have e : a = 20 := by omega
         subst e; rfl)
      | (have e : a = 2000 := by omega
         subst e; rfl)
  show aV ω (PT a ((2 : Nat) : Int)) = _
  rw [e]
theorem gv0_3 : fV ω PT h (fkd 0 3) a ((3 : Nat) : Int) = iV (h a 3) := rfl
theorem gv0_4 : fV ω PT h (fkd 0 4) a ((4 : Nat) : Int) = iV (h a 4) := rfl
theorem gv0_5 : fV ω PT h (fkd 0 5) a ((5 : Nat) : Int) = iV (h a 5) := rfl
theorem gv1_0 (hs : (SH a).1 = 1) : fV ω PT h (fkd 1 0) a ((0 : Nat) : Int) = aV ω 66 := by
  have g := SH_c1 hs
  have e : PT a ((0 : Nat) : Int) = 66 := by
    first
      | (rw [PT_in (by omega) (by omega) (by omega) (by omega) (by omega) (by omega)]; omega)
      | (have e : a = 20 := by omega
         subst e; rfl)
      | (have e : a = 2000 := by omega
         subst e; rfl)
  show aV ω (PT a ((0 : Nat) : Int)) = _
  rw [e]
theorem gv1_1 (hs : (SH a).1 = 1) : fV ω PT h (fkd 1 1) a ((1 : Nat) : Int) = aV ω 67 := by
  have g := SH_c1 hs
  have e : PT a ((1 : Nat) : Int) = 67 := by
    first
      | (rw [PT_in (by omega) (by omega) (by omega) (by omega) (by omega) (by omega)]; omega)
      | (have e : a = 20 := by omega
         subst e; rfl)
      | (have e : a = 2000 := by omega
         subst e; rfl)
  show aV ω (PT a ((1 : Nat) : Int)) = _
  rw [e]
theorem gv1_2 (hs : (SH a).1 = 1) : fV ω PT h (fkd 1 2) a ((2 : Nat) : Int) = aV ω 68 := by
  have g := SH_c1 hs
  have e : PT a ((2 : Nat) : Int) = 68 := by
    first
      | (rw [PT_in (by omega) (by omega) (by omega) (by omega) (by omega) (by omega)]; omega)
      | (have e : a = 20 := by omega
         subst e; rfl)
      | (have e : a = 2000 := by omega
         subst e; rfl)
  show aV ω (PT a ((2 : Nat) : Int)) = _
  rw [e]
theorem gv1_3 (hs : (SH a).1 = 1) : fV ω PT h (fkd 1 3) a ((3 : Nat) : Int) = aV ω 69 := by
  have g := SH_c1 hs
  have e : PT a ((3 : Nat) : Int) = 69 := by
    first
      | (rw [PT_in (by omega) (by omega) (by omega) (by omega) (by omega) (by omega)]; omega)
      | (have e : a = 20 := by omega
         subst e; rfl)
      | (have e : a = 2000 := by omega
         subst e; rfl)
  show aV ω (PT a ((3 : Nat) : Int)) = _
  rw [e]
theorem gv1_4 : fV ω PT h (fkd 1 4) a ((4 : Nat) : Int) = iV (h a 4) := rfl
theorem gv2_0 (hs : (SH a).1 = 2) : fV ω PT h (fkd 2 0) a ((0 : Nat) : Int) = aV ω (a + 1) := by
  have g := SH_c2 hs
  have e : PT a ((0 : Nat) : Int) = (a + 1) := by
    first
      | (rw [PT_in (by omega) (by omega) (by omega) (by omega) (by omega) (by omega)]; omega)
      | (have e : a = 20 := by omega
         subst e; rfl)
      | (have e : a = 2000 := by omega
         subst e; rfl)
  show aV ω (PT a ((0 : Nat) : Int)) = _
  rw [e]
theorem gv2_1 (hs : (SH a).1 = 2) : fV ω PT h (fkd 2 1) a ((1 : Nat) : Int) = aV ω (a + 2) := by
  have g := SH_c2 hs
  have e : PT a ((1 : Nat) : Int) = (a + 2) := by
    first
      | (rw [PT_in (by omega) (by omega) (by omega) (by omega) (by omega) (by omega)]; omega)
      | (have e : a = 20 := by omega
         subst e; rfl)
      | (have e : a = 2000 := by omega
         subst e; rfl)
  show aV ω (PT a ((1 : Nat) : Int)) = _
  rw [e]
theorem gv2_2 : fV ω PT h (fkd 2 2) a ((2 : Nat) : Int) = iV (h a 2) := rfl
theorem gv2_3 : fV ω PT h (fkd 2 3) a ((3 : Nat) : Int) = iV (h a 3) := rfl
theorem gv3_0 (hs : (SH a).1 = 3) : fV ω PT h (fkd 3 0) a ((0 : Nat) : Int) = aV ω 61 := by
  have g := SH_c3 hs
  have e : PT a ((0 : Nat) : Int) = 61 := by
    first
      | (rw [PT_in (by omega) (by omega) (by omega) (by omega) (by omega) (by omega)]; omega)
      | (have e : a = 20 := by omega
         subst e; rfl)
      | (have e : a = 2000 := by omega
         subst e; rfl)
  show aV ω (PT a ((0 : Nat) : Int)) = _
  rw [e]
theorem gv3_1 (hs : (SH a).1 = 3) : fV ω PT h (fkd 3 1) a ((1 : Nat) : Int) = aV ω 62 := by
  have g := SH_c3 hs
  have e : PT a ((1 : Nat) : Int) = 62 := by
    first
      | (rw [PT_in (by omega) (by omega) (by omega) (by omega) (by omega) (by omega)]; omega)
      | (have e : a = 20 := by omega
         subst e; rfl)
      | (have e : a = 2000 := by omega
         subst e; rfl)
  show aV ω (PT a ((1 : Nat) : Int)) = _
  rw [e]
theorem gv4_0 (hs : (SH a).1 = 4) : fV ω PT h (fkd 4 0) a ((0 : Nat) : Int) = aV ω 56 := by
  have g := SH_c4 hs
  have e : PT a ((0 : Nat) : Int) = 56 := by
    first
      | (rw [PT_in (by omega) (by omega) (by omega) (by omega) (by omega) (by omega)]; omega)
      | (have e : a = 20 := by omega
         subst e; rfl)
      | (have e : a = 2000 := by omega
         subst e; rfl)
  show aV ω (PT a ((0 : Nat) : Int)) = _
  rw [e]
theorem gv4_1 : fV ω PT h (fkd 4 1) a ((1 : Nat) : Int) = iV (h a 1) := rfl
theorem gv4_2 : fV ω PT h (fkd 4 2) a ((2 : Nat) : Int) = iV (h a 2) := rfl
theorem gv5_0 (hs : (SH a).1 = 5) : fV ω PT h (fkd 5 0) a ((0 : Nat) : Int) = aV ω 71 := by
  have g := SH_c5 hs
  have e : PT a ((0 : Nat) : Int) = 71 := by
    first
      | (rw [PT_in (by omega) (by omega) (by omega) (by omega) (by omega) (by omega)]; omega)
      | (have e : a = 20 := by omega
         subst e; rfl)
      | (have e : a = 2000 := by omega
         subst e; rfl)
  show aV ω (PT a ((0 : Nat) : Int)) = _
  rw [e]
theorem gv5_1 (hs : (SH a).1 = 5) : fV ω PT h (fkd 5 1) a ((1 : Nat) : Int) = aV ω 72 := by
  have g := SH_c5 hs
  have e : PT a ((1 : Nat) : Int) = 72 := by
    first
      | (rw [PT_in (by omega) (by omega) (by omega) (by omega) (by omega) (by omega)]; omega)
      | (have e : a = 20 := by omega
         subst e; rfl)
      | (have e : a = 2000 := by omega
         subst e; rfl)
  show aV ω (PT a ((1 : Nat) : Int)) = _
  rw [e]
theorem gv5_2 : fV ω PT h (fkd 5 2) a ((2 : Nat) : Int) = iV (h a 2) := rfl
theorem gv5_3 : fV ω PT h (fkd 5 3) a ((3 : Nat) : Int) = iV (h a 3) := rfl
theorem gv6_0 (hs : (SH a).1 = 6) : fV ω PT h (fkd 6 0) a ((0 : Nat) : Int) = aV ω (a + 1) := by
  have g := SH_c6 hs
  have e : PT a ((0 : Nat) : Int) = (a + 1) := by
    first
      | (rw [PT_in (by omega) (by omega) (by omega) (by omega) (by omega) (by omega)]; omega)
      | (have e : a = 20 := by omega
         subst e; rfl)
      | (have e : a = 2000 := by omega
         subst e; rfl)
  show aV ω (PT a ((0 : Nat) : Int)) = _
  rw [e]
theorem gv6_1 : fV ω PT h (fkd 6 1) a ((1 : Nat) : Int) = iV (h a 1) := rfl
theorem gv7_0 (hs : (SH a).1 = 7) : fV ω PT h (fkd 7 0) a ((0 : Nat) : Int) = aV ω (a + 1) := by
  have g := SH_c7 hs
  have e : PT a ((0 : Nat) : Int) = (a + 1) := by
    first
      | (rw [PT_in (by omega) (by omega) (by omega) (by omega) (by omega) (by omega)]; omega)
      | (have e : a = 20 := by omega
         subst e; rfl)
      | (have e : a = 2000 := by omega
         subst e; rfl)
  show aV ω (PT a ((0 : Nat) : Int)) = _
  rw [e]
theorem gv7_1 (hs : (SH a).1 = 7) : fV ω PT h (fkd 7 1) a ((1 : Nat) : Int) = aV ω (a + 2) := by
  have g := SH_c7 hs
  have e : PT a ((1 : Nat) : Int) = (a + 2) := by
    first
      | (rw [PT_in (by omega) (by omega) (by omega) (by omega) (by omega) (by omega)]; omega)
      | (have e : a = 20 := by omega
         subst e; rfl)
      | (have e : a = 2000 := by omega
         subst e; rfl)
  show aV ω (PT a ((1 : Nat) : Int)) = _
  rw [e]
theorem gv7_2 (hs : (SH a).1 = 7) : fV ω PT h (fkd 7 2) a ((2 : Nat) : Int) = aV ω (a + 3) := by
  have g := SH_c7 hs
  have e : PT a ((2 : Nat) : Int) = (a + 3) := by
    first
      | (rw [PT_in (by omega) (by omega) (by omega) (by omega) (by omega) (by omega)]; omega)
      | (have e : a = 20 := by omega
         subst e; rfl)
      | (have e : a = 2000 := by omega
         subst e; rfl)
  show aV ω (PT a ((2 : Nat) : Int)) = _
  rw [e]
theorem gv7_3 (hs : (SH a).1 = 7) : fV ω PT h (fkd 7 3) a ((3 : Nat) : Int) = aV ω (a + 4) := by
  have g := SH_c7 hs
  have e : PT a ((3 : Nat) : Int) = (a + 4) := by
    first
      | (rw [PT_in (by omega) (by omega) (by omega) (by omega) (by omega) (by omega)]; omega)
      | (have e : a = 20 := by omega
         subst e; rfl)
      | (have e : a = 2000 := by omega
         subst e; rfl)
  show aV ω (PT a ((3 : Nat) : Int)) = _
  rw [e]
theorem gv7_4 : fV ω PT h (fkd 7 4) a ((4 : Nat) : Int) = iV (h a 4) := rfl
theorem gv7_5 : fV ω PT h (fkd 7 5) a ((5 : Nat) : Int) = iV (h a 5) := rfl
theorem gv7_6 : fV ω PT h (fkd 7 6) a ((6 : Nat) : Int) = iV (h a 6) := rfl
theorem gv7_7 : fV ω PT h (fkd 7 7) a ((7 : Nat) : Int) = iV (h a 7) := rfl
theorem gv7_8 : fV ω PT h (fkd 7 8) a ((8 : Nat) : Int) = iV (h a 8) := rfl
theorem gv7_9 : fV ω PT h (fkd 7 9) a ((9 : Nat) : Int) = iV (h a 9) := rfl
theorem gv7_10 : fV ω PT h (fkd 7 10) a ((10 : Nat) : Int) = iV (h a 10) := rfl
theorem gv8_0 (hs : (SH a).1 = 8) : fV ω PT h (fkd 8 0) a ((0 : Nat) : Int) = aV ω 22 := by
  have g := SH_c8 hs
  have e : PT a ((0 : Nat) : Int) = 22 := by
    first
      | (rw [PT_in (by omega) (by omega) (by omega) (by omega) (by omega) (by omega)]; omega)
      | (have e : a = 20 := by omega
         subst e; rfl)
      | (have e : a = 2000 := by omega
         subst e; rfl)
  show aV ω (PT a ((0 : Nat) : Int)) = _
  rw [e]
theorem gv8_1 : fV ω PT h (fkd 8 1) a ((1 : Nat) : Int) = iV (h a 1) := rfl
theorem gv8_2 : fV ω PT h (fkd 8 2) a ((2 : Nat) : Int) = iV (h a 2) := rfl
theorem gv8_3 : fV ω PT h (fkd 8 3) a ((3 : Nat) : Int) = iV (h a 3) := rfl
theorem gv9_0 (hs : (SH a).1 = 9) : fV ω PT h (fkd 9 0) a ((0 : Nat) : Int) = aV ω 21 := by
  have g := SH_c9 hs
  have e : PT a ((0 : Nat) : Int) = 21 := by
    first
      | (rw [PT_in (by omega) (by omega) (by omega) (by omega) (by omega) (by omega)]; omega)
      | (have e : a = 20 := by omega
         subst e; rfl)
      | (have e : a = 2000 := by omega
         subst e; rfl)
  show aV ω (PT a ((0 : Nat) : Int)) = _
  rw [e]
theorem gv9_1 : fV ω PT h (fkd 9 1) a ((1 : Nat) : Int) = aV ω (h a 1) := rfl
theorem gv9_2 : fV ω PT h (fkd 9 2) a ((2 : Nat) : Int) = aV ω (h a 2) := rfl
theorem gv9_3 (hs : (SH a).1 = 9) : fV ω PT h (fkd 9 3) a ((3 : Nat) : Int) = aV ω 50 := by
  have g := SH_c9 hs
  have e : PT a ((3 : Nat) : Int) = 50 := by
    first
      | (rw [PT_in (by omega) (by omega) (by omega) (by omega) (by omega) (by omega)]; omega)
      | (have e : a = 20 := by omega
         subst e; rfl)
      | (have e : a = 2000 := by omega
         subst e; rfl)
  show aV ω (PT a ((3 : Nat) : Int)) = _
  rw [e]
theorem gv9_4 (hs : (SH a).1 = 9) : fV ω PT h (fkd 9 4) a ((4 : Nat) : Int) = aV ω 51 := by
  have g := SH_c9 hs
  have e : PT a ((4 : Nat) : Int) = 51 := by
    first
      | (rw [PT_in (by omega) (by omega) (by omega) (by omega) (by omega) (by omega)]; omega)
      | (have e : a = 20 := by omega
         subst e; rfl)
      | (have e : a = 2000 := by omega
         subst e; rfl)
  show aV ω (PT a ((4 : Nat) : Int)) = _
  rw [e]
theorem gv9_5 : fV ω PT h (fkd 9 5) a ((5 : Nat) : Int) = iV (h a 5) := rfl
theorem gv9_6 : fV ω PT h (fkd 9 6) a ((6 : Nat) : Int) = iV (h a 6) := rfl
theorem gv9_7 : fV ω PT h (fkd 9 7) a ((7 : Nat) : Int) = iV (h a 7) := rfl
theorem gv9_8 : fV ω PT h (fkd 9 8) a ((8 : Nat) : Int) = iV (h a 8) := rfl
theorem gv9_9 (hs : (SH a).1 = 9) : fV ω PT h (fkd 9 9) a ((9 : Nat) : Int) = aV ω 100 := by
  have g := SH_c9 hs
  have e : PT a ((9 : Nat) : Int) = 100 := by
    first
      | (rw [PT_in (by omega) (by omega) (by omega) (by omega) (by omega) (by omega)]; omega)
      | (have e : a = 20 := by omega
         subst e; rfl)
      | (have e : a = 2000 := by omega
         subst e; rfl)
  show aV ω (PT a ((9 : Nat) : Int)) = _
  rw [e]
theorem gv9_10 (hs : (SH a).1 = 9) : fV ω PT h (fkd 9 10) a ((10 : Nat) : Int) = aV ω 110 := by
  have g := SH_c9 hs
  have e : PT a ((10 : Nat) : Int) = 110 := by
    first
      | (rw [PT_in (by omega) (by omega) (by omega) (by omega) (by omega) (by omega)]; omega)
      | (have e : a = 20 := by omega
         subst e; rfl)
      | (have e : a = 2000 := by omega
         subst e; rfl)
  show aV ω (PT a ((10 : Nat) : Int)) = _
  rw [e]
theorem gv9_11 (hs : (SH a).1 = 9) : fV ω PT h (fkd 9 11) a ((11 : Nat) : Int) = aV ω 120 := by
  have g := SH_c9 hs
  have e : PT a ((11 : Nat) : Int) = 120 := by
    first
      | (rw [PT_in (by omega) (by omega) (by omega) (by omega) (by omega) (by omega)]; omega)
      | (have e : a = 20 := by omega
         subst e; rfl)
      | (have e : a = 2000 := by omega
         subst e; rfl)
  show aV ω (PT a ((11 : Nat) : Int)) = _
  rw [e]
theorem gv9_12 : fV ω PT h (fkd 9 12) a ((12 : Nat) : Int) = iV (h a 12) := rfl
theorem gv9_13 (hs : (SH a).1 = 9) : fV ω PT h (fkd 9 13) a ((13 : Nat) : Int) = aV ω 52 := by
  have g := SH_c9 hs
  have e : PT a ((13 : Nat) : Int) = 52 := by
    first
      | (rw [PT_in (by omega) (by omega) (by omega) (by omega) (by omega) (by omega)]; omega)
      | (have e : a = 20 := by omega
         subst e; rfl)
      | (have e : a = 2000 := by omega
         subst e; rfl)
  show aV ω (PT a ((13 : Nat) : Int)) = _
  rw [e]
theorem gv9_14 (hs : (SH a).1 = 9) : fV ω PT h (fkd 9 14) a ((14 : Nat) : Int) = aV ω 55 := by
  have g := SH_c9 hs
  have e : PT a ((14 : Nat) : Int) = 55 := by
    first
      | (rw [PT_in (by omega) (by omega) (by omega) (by omega) (by omega) (by omega)]; omega)
      | (have e : a = 20 := by omega
         subst e; rfl)
      | (have e : a = 2000 := by omega
         subst e; rfl)
  show aV ω (PT a ((14 : Nat) : Int)) = _
  rw [e]
theorem gv9_15 (hs : (SH a).1 = 9) : fV ω PT h (fkd 9 15) a ((15 : Nat) : Int) = aV ω 60 := by
  have g := SH_c9 hs
  have e : PT a ((15 : Nat) : Int) = 60 := by
    first
      | (rw [PT_in (by omega) (by omega) (by omega) (by omega) (by omega) (by omega)]; omega)
      | (have e : a = 20 := by omega
         subst e; rfl)
      | (have e : a = 2000 := by omega
         subst e; rfl)
  show aV ω (PT a ((15 : Nat) : Int)) = _
  rw [e]
theorem gv9_16 (hs : (SH a).1 = 9) : fV ω PT h (fkd 9 16) a ((16 : Nat) : Int) = aV ω 65 := by
  have g := SH_c9 hs
  have e : PT a ((16 : Nat) : Int) = 65 := by
    first
      | (rw [PT_in (by omega) (by omega) (by omega) (by omega) (by omega) (by omega)]; omega)
      | (have e : a = 20 := by omega
         subst e; rfl)
      | (have e : a = 2000 := by omega
         subst e; rfl)
  show aV ω (PT a ((16 : Nat) : Int)) = _
  rw [e]
theorem gv9_17 (hs : (SH a).1 = 9) : fV ω PT h (fkd 9 17) a ((17 : Nat) : Int) = aV ω 70 := by
  have g := SH_c9 hs
  have e : PT a ((17 : Nat) : Int) = 70 := by
    first
      | (rw [PT_in (by omega) (by omega) (by omega) (by omega) (by omega) (by omega)]; omega)
      | (have e : a = 20 := by omega
         subst e; rfl)
      | (have e : a = 2000 := by omega
         subst e; rfl)
  show aV ω (PT a ((17 : Nat) : Int)) = _
  rw [e]
theorem gv9_18 (hs : (SH a).1 = 9) : fV ω PT h (fkd 9 18) a ((18 : Nat) : Int) = aV ω 75 := by
  have g := SH_c9 hs
  have e : PT a ((18 : Nat) : Int) = 75 := by
    first
      | (rw [PT_in (by omega) (by omega) (by omega) (by omega) (by omega) (by omega)]; omega)
      | (have e : a = 20 := by omega
         subst e; rfl)
      | (have e : a = 2000 := by omega
         subst e; rfl)
  show aV ω (PT a ((18 : Nat) : Int)) = _
  rw [e]
theorem gv9_19 : fV ω PT h (fkd 9 19) a ((19 : Nat) : Int) = lV (h a 19) := rfl
theorem gv10_0 : fV ω PT h (fkd 10 0) a ((0 : Nat) : Int) = iV (h a 0) := rfl
theorem gv10_1 (hs : (SH a).1 = 10) : fV ω PT h (fkd 10 1) a ((1 : Nat) : Int) = aV ω 2001 := by
  have g := SH_c10 hs
  have e : PT a ((1 : Nat) : Int) = 2001 := by
    first
      | (rw [PT_in (by omega) (by omega) (by omega) (by omega) (by omega) (by omega)]; omega)
      | (have e : a = 20 := by omega
         subst e; rfl)
      | (have e : a = 2000 := by omega
         subst e; rfl)
  show aV ω (PT a ((1 : Nat) : Int)) = _
  rw [e]
theorem gv10_2 (hs : (SH a).1 = 10) : fV ω PT h (fkd 10 2) a ((2 : Nat) : Int) = aV ω 2002 := by
  have g := SH_c10 hs
  have e : PT a ((2 : Nat) : Int) = 2002 := by
    first
      | (rw [PT_in (by omega) (by omega) (by omega) (by omega) (by omega) (by omega)]; omega)
      | (have e : a = 20 := by omega
         subst e; rfl)
      | (have e : a = 2000 := by omega
         subst e; rfl)
  show aV ω (PT a ((2 : Nat) : Int)) = _
  rw [e]
theorem gv10_3 (hs : (SH a).1 = 10) : fV ω PT h (fkd 10 3) a ((3 : Nat) : Int) = aV ω 2003 := by
  have g := SH_c10 hs
  have e : PT a ((3 : Nat) : Int) = 2003 := by
    first
      | (rw [PT_in (by omega) (by omega) (by omega) (by omega) (by omega) (by omega)]; omega)
      | (have e : a = 20 := by omega
         subst e; rfl)
      | (have e : a = 2000 := by omega
         subst e; rfl)
  show aV ω (PT a ((3 : Nat) : Int)) = _
  rw [e]
theorem gv10_4 (hs : (SH a).1 = 10) : fV ω PT h (fkd 10 4) a ((4 : Nat) : Int) = aV ω 2004 := by
  have g := SH_c10 hs
  have e : PT a ((4 : Nat) : Int) = 2004 := by
    first
      | (rw [PT_in (by omega) (by omega) (by omega) (by omega) (by omega) (by omega)]; omega)
      | (have e : a = 20 := by omega
         subst e; rfl)
      | (have e : a = 2000 := by omega
         subst e; rfl)
  show aV ω (PT a ((4 : Nat) : Int)) = _
  rw [e]
theorem gv10_5 : fV ω PT h (fkd 10 5) a ((5 : Nat) : Int) = aV ω (h a 5) := rfl
theorem gv10_6 : fV ω PT h (fkd 10 6) a ((6 : Nat) : Int) = iV (h a 6) := rfl
theorem gv10_7 : fV ω PT h (fkd 10 7) a ((7 : Nat) : Int) = iV (h a 7) := rfl
theorem gv10_8 : fV ω PT h (fkd 10 8) a ((8 : Nat) : Int) = iV (h a 8) := rfl
theorem gv10_9 : fV ω PT h (fkd 10 9) a ((9 : Nat) : Int) = iV (h a 9) := rfl
theorem gv10_10 : fV ω PT h (fkd 10 10) a ((10 : Nat) : Int) = iV (h a 10) := rfl
theorem gv10_11 : fV ω PT h (fkd 10 11) a ((11 : Nat) : Int) = iV (h a 11) := rfl
theorem gv10_12 : fV ω PT h (fkd 10 12) a ((12 : Nat) : Int) = iV (h a 12) := rfl
theorem gv10_13 : fV ω PT h (fkd 10 13) a ((13 : Nat) : Int) = iV (h a 13) := rfl
theorem gv10_14 : fV ω PT h (fkd 10 14) a ((14 : Nat) : Int) = iV (h a 14) := rfl
theorem gv10_15 (hs : (SH a).1 = 10) : fV ω PT h (fkd 10 15) a ((15 : Nat) : Int) = aV ω 11 := by
  have g := SH_c10 hs
  have e : PT a ((15 : Nat) : Int) = 11 := by
    first
      | (rw [PT_in (by omega) (by omega) (by omega) (by omega) (by omega) (by omega)]; omega)
      | (have e : a = 20 := by omega
         subst e; rfl)
      | (have e : a = 2000 := by omega
         subst e; rfl)
  show aV ω (PT a ((15 : Nat) : Int)) = _
  rw [e]
theorem gv10_16 (hs : (SH a).1 = 10) : fV ω PT h (fkd 10 16) a ((16 : Nat) : Int) = aV ω 12 := by
  have g := SH_c10 hs
  have e : PT a ((16 : Nat) : Int) = 12 := by
    first
      | (rw [PT_in (by omega) (by omega) (by omega) (by omega) (by omega) (by omega)]; omega)
      | (have e : a = 20 := by omega
         subst e; rfl)
      | (have e : a = 2000 := by omega
         subst e; rfl)
  show aV ω (PT a ((16 : Nat) : Int)) = _
  rw [e]
theorem gv10_17 : fV ω PT h (fkd 10 17) a ((17 : Nat) : Int) = iV (h a 17) := rfl
theorem gv10_18 (hs : (SH a).1 = 10) : fV ω PT h (fkd 10 18) a ((18 : Nat) : Int) = aV ω 2018 := by
  have g := SH_c10 hs
  have e : PT a ((18 : Nat) : Int) = 2018 := by
    first
      | (rw [PT_in (by omega) (by omega) (by omega) (by omega) (by omega) (by omega)]; omega)
      | (have e : a = 20 := by omega
         subst e; rfl)
      | (have e : a = 2000 := by omega
         subst e; rfl)
  show aV ω (PT a ((18 : Nat) : Int)) = _
  rw [e]
theorem gv10_19 (hs : (SH a).1 = 10) : fV ω PT h (fkd 10 19) a ((19 : Nat) : Int) = aV ω 2019 := by
  have g := SH_c10 hs
  have e : PT a ((19 : Nat) : Int) = 2019 := by
    first
      | (rw [PT_in (by omega) (by omega) (by omega) (by omega) (by omega) (by omega)]; omega)
      | (have e : a = 20 := by omega
         subst e; rfl)
      | (have e : a = 2000 := by omega
         subst e; rfl)
  show aV ω (PT a ((19 : Nat) : Int)) = _
  rw [e]
theorem gv10_20 (hs : (SH a).1 = 10) : fV ω PT h (fkd 10 20) a ((20 : Nat) : Int) = aV ω 2020 := by
  have g := SH_c10 hs
  have e : PT a ((20 : Nat) : Int) = 2020 := by
    first
      | (rw [PT_in (by omega) (by omega) (by omega) (by omega) (by omega) (by omega)]; omega)
      | (have e : a = 20 := by omega
         subst e; rfl)
      | (have e : a = 2000 := by omega
         subst e; rfl)
  show aV ω (PT a ((20 : Nat) : Int)) = _
  rw [e]
theorem gv10_21 (hs : (SH a).1 = 10) : fV ω PT h (fkd 10 21) a ((21 : Nat) : Int) = aV ω 2021 := by
  have g := SH_c10 hs
  have e : PT a ((21 : Nat) : Int) = 2021 := by
    first
      | (rw [PT_in (by omega) (by omega) (by omega) (by omega) (by omega) (by omega)]; omega)
      | (have e : a = 20 := by omega
         subst e; rfl)
      | (have e : a = 2000 := by omega
         subst e; rfl)
  show aV ω (PT a ((21 : Nat) : Int)) = _
  rw [e]
theorem gv10_22 (hs : (SH a).1 = 10) : fV ω PT h (fkd 10 22) a ((22 : Nat) : Int) = aV ω 2022 := by
  have g := SH_c10 hs
  have e : PT a ((22 : Nat) : Int) = 2022 := by
    first
      | (rw [PT_in (by omega) (by omega) (by omega) (by omega) (by omega) (by omega)]; omega)
      | (have e : a = 20 := by omega
         subst e; rfl)
      | (have e : a = 2000 := by omega
         subst e; rfl)
  show aV ω (PT a ((22 : Nat) : Int)) = _
  rw [e]
theorem gv10_23 (hs : (SH a).1 = 10) : fV ω PT h (fkd 10 23) a ((23 : Nat) : Int) = aV ω 2023 := by
  have g := SH_c10 hs
  have e : PT a ((23 : Nat) : Int) = 2023 := by
    first
      | (rw [PT_in (by omega) (by omega) (by omega) (by omega) (by omega) (by omega)]; omega)
      | (have e : a = 20 := by omega
         subst e; rfl)
      | (have e : a = 2000 := by omega
         subst e; rfl)
  show aV ω (PT a ((23 : Nat) : Int)) = _
  rw [e]
theorem gv10_24 (hs : (SH a).1 = 10) : fV ω PT h (fkd 10 24) a ((24 : Nat) : Int) = aV ω 2024 := by
  have g := SH_c10 hs
  have e : PT a ((24 : Nat) : Int) = 2024 := by
    first
      | (rw [PT_in (by omega) (by omega) (by omega) (by omega) (by omega) (by omega)]; omega)
      | (have e : a = 20 := by omega
         subst e; rfl)
      | (have e : a = 2000 := by omega
         subst e; rfl)
  show aV ω (PT a ((24 : Nat) : Int)) = _
  rw [e]
theorem gv10_25 (hs : (SH a).1 = 10) : fV ω PT h (fkd 10 25) a ((25 : Nat) : Int) = aV ω 2025 := by
  have g := SH_c10 hs
  have e : PT a ((25 : Nat) : Int) = 2025 := by
    first
      | (rw [PT_in (by omega) (by omega) (by omega) (by omega) (by omega) (by omega)]; omega)
      | (have e : a = 20 := by omega
         subst e; rfl)
      | (have e : a = 2000 := by omega
         subst e; rfl)
  show aV ω (PT a ((25 : Nat) : Int)) = _
  rw [e]
theorem gv10_26 : fV ω PT h (fkd 10 26) a ((26 : Nat) : Int) = iV (h a 26) := rfl
theorem gv10_27 : fV ω PT h (fkd 10 27) a ((27 : Nat) : Int) = iV (h a 27) := rfl
theorem gv10_28 : fV ω PT h (fkd 10 28) a ((28 : Nat) : Int) = iV (h a 28) := rfl
theorem gv10_29 : fV ω PT h (fkd 10 29) a ((29 : Nat) : Int) = iV (h a 29) := rfl
theorem gv10_30 : fV ω PT h (fkd 10 30) a ((30 : Nat) : Int) = iV (h a 30) := rfl
theorem gv10_31 : fV ω PT h (fkd 10 31) a ((31 : Nat) : Int) = iV (h a 31) := rfl
theorem gv10_32 (hs : (SH a).1 = 10) : fV ω PT h (fkd 10 32) a ((32 : Nat) : Int) = aV ω 2032 := by
  have g := SH_c10 hs
  have e : PT a ((32 : Nat) : Int) = 2032 := by
    first
      | (rw [PT_in (by omega) (by omega) (by omega) (by omega) (by omega) (by omega)]; omega)
      | (have e : a = 20 := by omega
         subst e; rfl)
      | (have e : a = 2000 := by omega
         subst e; rfl)
  show aV ω (PT a ((32 : Nat) : Int)) = _
  rw [e]
theorem gv10_33 (hs : (SH a).1 = 10) : fV ω PT h (fkd 10 33) a ((33 : Nat) : Int) = aV ω 2033 := by
  have g := SH_c10 hs
  have e : PT a ((33 : Nat) : Int) = 2033 := by
    first
      | (rw [PT_in (by omega) (by omega) (by omega) (by omega) (by omega) (by omega)]; omega)
      | (have e : a = 20 := by omega
         subst e; rfl)
      | (have e : a = 2000 := by omega
         subst e; rfl)
  show aV ω (PT a ((33 : Nat) : Int)) = _
  rw [e]
theorem gv10_34 : fV ω PT h (fkd 10 34) a ((34 : Nat) : Int) = iV (h a 34) := rfl
theorem gv10_35 : fV ω PT h (fkd 10 35) a ((35 : Nat) : Int) = iV (h a 35) := rfl
theorem gv10_36 (hs : (SH a).1 = 10) : fV ω PT h (fkd 10 36) a ((36 : Nat) : Int) = aV ω 2036 := by
  have g := SH_c10 hs
  have e : PT a ((36 : Nat) : Int) = 2036 := by
    first
      | (rw [PT_in (by omega) (by omega) (by omega) (by omega) (by omega) (by omega)]; omega)
      | (have e : a = 20 := by omega
         subst e; rfl)
      | (have e : a = 2000 := by omega
         subst e; rfl)
  show aV ω (PT a ((36 : Nat) : Int)) = _
  rw [e]
theorem gv10_37 (hs : (SH a).1 = 10) : fV ω PT h (fkd 10 37) a ((37 : Nat) : Int) = aV ω 2037 := by
  have g := SH_c10 hs
  have e : PT a ((37 : Nat) : Int) = 2037 := by
    first
      | (rw [PT_in (by omega) (by omega) (by omega) (by omega) (by omega) (by omega)]; omega)
      | (have e : a = 20 := by omega
         subst e; rfl)
      | (have e : a = 2000 := by omega
         subst e; rfl)
  show aV ω (PT a ((37 : Nat) : Int)) = _
  rw [e]
theorem gv10_38 (hs : (SH a).1 = 10) : fV ω PT h (fkd 10 38) a ((38 : Nat) : Int) = aV ω 2038 := by
  have g := SH_c10 hs
  have e : PT a ((38 : Nat) : Int) = 2038 := by
    first
      | (rw [PT_in (by omega) (by omega) (by omega) (by omega) (by omega) (by omega)]; omega)
      | (have e : a = 20 := by omega
         subst e; rfl)
      | (have e : a = 2000 := by omega
         subst e; rfl)
  show aV ω (PT a ((38 : Nat) : Int)) = _
  rw [e]
theorem gv10_39 : fV ω PT h (fkd 10 39) a ((39 : Nat) : Int) = iV (h a 39) := rfl
theorem gv10_40 : fV ω PT h (fkd 10 40) a ((40 : Nat) : Int) = iV (h a 40) := rfl
theorem gv10_41 (hs : (SH a).1 = 10) : fV ω PT h (fkd 10 41) a ((41 : Nat) : Int) = aV ω 2041 := by
  have g := SH_c10 hs
  have e : PT a ((41 : Nat) : Int) = 2041 := by
    first
      | (rw [PT_in (by omega) (by omega) (by omega) (by omega) (by omega) (by omega)]; omega)
      | (have e : a = 20 := by omega
         subst e; rfl)
      | (have e : a = 2000 := by omega
         subst e; rfl)
  show aV ω (PT a ((41 : Nat) : Int)) = _
  rw [e]
theorem gv10_42 : fV ω PT h (fkd 10 42) a ((42 : Nat) : Int) = iV (h a 42) := rfl
theorem gv10_43 : fV ω PT h (fkd 10 43) a ((43 : Nat) : Int) = lV (h a 43) := rfl
theorem gv10_44 : fV ω PT h (fkd 10 44) a ((44 : Nat) : Int) = iV (h a 44) := rfl
theorem gv10_45 : fV ω PT h (fkd 10 45) a ((45 : Nat) : Int) = iV (h a 45) := rfl
theorem gv10_46 : fV ω PT h (fkd 10 46) a ((46 : Nat) : Int) = iV (h a 46) := rfl
theorem gv10_47 : fV ω PT h (fkd 10 47) a ((47 : Nat) : Int) = iV (h a 47) := rfl
theorem gv10_48 : fV ω PT h (fkd 10 48) a ((48 : Nat) : Int) = iV (h a 48) := rfl
theorem gv10_49 (hs : (SH a).1 = 10) : fV ω PT h (fkd 10 49) a ((49 : Nat) : Int) = aV ω 2049 := by
  have g := SH_c10 hs
  have e : PT a ((49 : Nat) : Int) = 2049 := by
    first
      | (rw [PT_in (by omega) (by omega) (by omega) (by omega) (by omega) (by omega)]; omega)
      | (have e : a = 20 := by omega
         subst e; rfl)
      | (have e : a = 2000 := by omega
         subst e; rfl)
  show aV ω (PT a ((49 : Nat) : Int)) = _
  rw [e]
theorem gv10_50 : fV ω PT h (fkd 10 50) a ((50 : Nat) : Int) = iV (h a 50) := rfl
theorem gv10_51 (hs : (SH a).1 = 10) : fV ω PT h (fkd 10 51) a ((51 : Nat) : Int) = aV ω 2051 := by
  have g := SH_c10 hs
  have e : PT a ((51 : Nat) : Int) = 2051 := by
    first
      | (rw [PT_in (by omega) (by omega) (by omega) (by omega) (by omega) (by omega)]; omega)
      | (have e : a = 20 := by omega
         subst e; rfl)
      | (have e : a = 2000 := by omega
         subst e; rfl)
  show aV ω (PT a ((51 : Nat) : Int)) = _
  rw [e]
theorem gv10_52 (hs : (SH a).1 = 10) : fV ω PT h (fkd 10 52) a ((52 : Nat) : Int) = aV ω 2052 := by
  have g := SH_c10 hs
  have e : PT a ((52 : Nat) : Int) = 2052 := by
    first
      | (rw [PT_in (by omega) (by omega) (by omega) (by omega) (by omega) (by omega)]; omega)
      | (have e : a = 20 := by omega
         subst e; rfl)
      | (have e : a = 2000 := by omega
         subst e; rfl)
  show aV ω (PT a ((52 : Nat) : Int)) = _
  rw [e]
theorem gv10_53 : fV ω PT h (fkd 10 53) a ((53 : Nat) : Int) = iV (h a 53) := rfl
end Gv
/-! the program texts' guards -/
variable {α : Type}
def cC (c : Nat) (a : Int) (A : Option α) : Option α := if (SH a).1 = c then A else none
def cX (kd : Nat) (a i : Int) (A : Option α) : Option α := if (SH a).1 = kd ∧ 0 ≤ w32 i ∧ w32 i < (SH a).2 then A else none
def cY (kd : Nat) (a i : Int) (A : Option α) : Option α := if (SH a).1 = kd ∧ 20 ≤ a ∧ 0 ≤ w32 i ∧ w32 i < (SH a).2 then A else none
def cN (a : Int) (A : Option α) : Option α := if 100 ≤ (SH a).1 ∧ (SH a).1 < 500 then A else none
def pu (h : Hp) (K : Hp → Option α) : Option α := K h
def bd (x : Int) (K : Int → Option α) : Option α := K x
def cl (L : Option (Int × Hp)) (K : Int → Hp → Option α) : Option α := match L with
  | none => none
  | some q => K q.1 q.2
def itr {σ : Type} (B : (σ → Option α) → σ → Option α) : Nat → σ → Option α
  | 0, _ => none
  | n + 1, s => B (itr B n) s
/-- how often a loop may go round; how deep a recursion may go -/
def FU : Nat := 1000000
def RF : Nat := 12
theorem cC_un {c : Nat} {a : Int} {A : Option α} {o : α} (h : cC c a A = some o) : (SH a).1 = c ∧ A = some o := by
  unfold cC at h
  split at h
  · exact ⟨by assumption, h⟩
  · cases h
theorem cX_un {kd : Nat} {a i : Int} {A : Option α} {o : α} (h : cX kd a i A = some o) : (SH a).1 = kd ∧ 0 ≤ w32 i ∧ w32 i < (SH a).2 ∧ A = some o := by
  unfold cX at h
  split at h
  · rename_i g; exact ⟨g.1, g.2.1, g.2.2, h⟩
  · cases h
theorem cY_un {kd : Nat} {a i : Int} {A : Option α} {o : α} (h : cY kd a i A = some o) : (SH a).1 = kd ∧ 20 ≤ a ∧ 0 ≤ w32 i ∧ w32 i < (SH a).2 ∧ A = some o := by
  unfold cY at h
  split at h
  · rename_i g; exact ⟨g.1, g.2.1, g.2.2.1, g.2.2.2, h⟩
  · cases h
theorem cN_un {a : Int} {A : Option α} {o : α} (h : cN a A = some o) : (100 ≤ (SH a).1 ∧ (SH a).1 < 500) ∧ A = some o := by
  unfold cN at h
  split at h
  · rename_i g; exact ⟨g, h⟩
  · cases h
theorem pu_un {h : Hp} {K : Hp → Option α} {o : Option α} (g : pu h K = o) : K h = o := g
theorem bd_un {x : Int} {K : Int → Option α} {o : Option α} (g : bd x K = o) : K x = o := g
theorem cl_un {L : Option (Int × Hp)} {K : Int → Hp → Option α} {o : α} (g : cl L K = some o) : ∃ (r : Int) (h' : Hp), L = some (r, h') ∧ K r h' = some o := by
  cases L with
  | none => cases g
  | some q => exact ⟨q.1, q.2, rfl, g⟩
theorem ite_un {c : Prop} [Decidable c] {A B : Option α} {o : Option α} (g : (if c then A else B) = o) : (c ∧ A = o) ∨ (¬ c ∧ B = o) := by
  by_cases hc : c
  · rw [if_pos hc] at g; exact Or.inl ⟨hc, g⟩
  · rw [if_neg hc] at g; exact Or.inr ⟨hc, g⟩
theorem itr_link {σ : Type} {B : (σ → Option α) → σ → Option α} {P : σ → α → Prop} (hB : ∀ k : σ → Option α, (∀ s o, k s = some o → P s o) → ∀ s o, B k s = some o → P s o) : ∀ (n : Nat) (s : σ) (o : α), itr B n s = some o → P s o := by
  intro n
  induction n with
  | zero => intro s o h; cases h
  | succ n ih => intro s o h; exact hB _ ih s o h
theorem itr_rec {σ : Type} {B : (σ → Option α) → σ → Option α} {P : Nat → σ → α → Prop} (hB : ∀ (n : Nat) (k : σ → Option α), (∀ s o, k s = some o → P n s o) → ∀ s o, B k s = some o → P (n + 1) s o) : ∀ (n : Nat) (s : σ) (o : α), itr B n s = some o → P n s o := by
  intro n
  induction n with
  | zero => intro s o h; cases h
  | succ n ih => intro s o h; exact hB n _ ih s o h
/-! the judgement behind the constructors -/
def QB (v : Option Value) (z : Nat → Prop) (h' : Hp) : Qt := fun v' sh pt z' h1 => v' = v ∧ sh = SH ∧ pt = PT ∧ z' = z ∧ h1 = h'
abbrev EvB (ω : Wd) (M : Mt) (d : Nat) (Q : Qt) (z : Nat → Prop) (h : Hp) (pc : Nat) (lv : List (Option Value)) (st : List Value) : Prop := Ev ω M d (PQm ω Q 0 0) 0 0 0 0 SH PT z h pc lv st
abbrev CtB (ω : Wd) (M : Mt) (d : Nat) (vs : List Value) (z : Nat → Prop) (h : Hp) (v : Option Value) (h' : Hp) : Prop := Ct ω M d vs SH PT z h 0 0 (QB v z h')
variable {ω : Wd} {M : Mt} {d : Nat} {Q : Qt} {z : Nat → Prop} {h : Hp} {pc : Nat} {lv : List (Option Value)} {st : List Value}
theorem evB_iret {x r : Int} {h' : Hp} (hd : decode M.2.1 pc = .ok (.ireturn, 1)) (hr : M.2.2.2 = some .int) (hL : some (x, h) = some (r, h')) : EvB ω M d (QB (some (iV r)) z h') z h pc lv [iV x] := by
  cases hL
  exact ev_iret hd hr (Nat.le_refl _) (Nat.le_refl _) ⟨rfl, rfl, rfl, rfl, rfl⟩
theorem evB_zret {x y r : Int} {h' : Hp} (hd : decode M.2.1 pc = .ok (.ireturn, 1)) (hr : M.2.2.2 = some .boolean) (hy : x % 2 = y) (hL : some (y, h) = some (r, h')) : EvB ω M d (QB (some (iV r)) z h') z h pc lv [iV x] := by
  cases hL
  exact ev_zret hd hr hy (Nat.le_refl _) (Nat.le_refl _) ⟨rfl, rfl, rfl, rfl, rfl⟩
theorem evB_lret {x r : Int} {h' : Hp} (hd : decode M.2.1 pc = .ok (.lreturn, 1)) (hr : M.2.2.2 = some .long) (hL : some (x, h) = some (r, h')) : EvB ω M d (QB (some (lV r)) z h') z h pc lv [lV x] := by
  cases hL
  exact ev_lret hd hr (Nat.le_refl _) (Nat.le_refl _) ⟨rfl, rfl, rfl, rfl, rfl⟩
theorem evB_aret {x r : Int} {h' : Hp} {rt : FieldType} (hd : decode M.2.1 pc = .ok (.areturn, 1)) (hr : M.2.2.2 = some rt) (hrt : (∃ n, rt = .object n) ∨ ∃ t, rt = .array t) (hL : some (x, h) = some (r, h')) : EvB ω M d (QB (some (aV ω r)) z h') z h pc lv [aV ω x] := by
  cases hL
  exact ev_aret hd hr hrt (Nat.le_refl _) (Nat.le_refl _) ⟨rfl, rfl, rfl, rfl, rfl⟩
theorem evB_vret {r : Int} {h' : Hp} (hd : decode M.2.1 pc = .ok (.return_, 1)) (hr : M.2.2.2 = none) (hL : some ((0 : Int), h) = some (r, h')) : EvB ω M d (QB none z h') z h pc lv [] := by
  cases hL
  exact ev_vret hd hr (Nat.le_refl _) (Nat.le_refl _) ⟨rfl, rfl, rfl, rfl, rfl⟩
theorem evB_callS_I {idx d' n : Nat} {N : Mt} {As rest st0 : List Value} {r : Int} {h1 : Hp} (hC : CtB ω N d' As z h (some (iV r)) h1) (hd : decode M.2.1 pc = .ok (.invokestatic idx, 3)) (hM : MT N n) (hst : Cond.static N.1 ∈ WS) (hL : ML M.1.cls idx N.1) (hd' : d' + 1 ≤ d) (hn : As.length = n) (h0 : st0 = As.reverse ++ rest) (hw : (rest.map fun v => v.category).sum ≤ 8)
    (k : EvB ω M d Q z h1 (pc + 3) lv (iV r :: rest)) : EvB ω M d Q z h pc lv st0 := by
  subst h0
  refine ev_callS hC hd hM hst hL hd' hn hw (Nat.le_refl _) (Nat.le_refl _) (fun v sh' pt' z' h' hq => ?_)
  obtain ⟨rfl, rfl, rfl, rfl, rfl⟩ := hq
  exact k
theorem evB_callV_I {idx d' n c9 : Nat} {a : Int} {N : Mt} {As rest st0 : List Value} {r : Int} {h1 : Hp} (hC : CtB ω N d' (aV ω a :: As) z h (some (iV r)) h1) (hd : decode M.2.1 pc = .ok (.invokevirtual idx, 3)) (hM : MT N n) (hst : Cond.instanceMethod N.1 ∈ WS ∧ Cond.selects N.1.cls N.1 N.1 ∈ WS) (hL : ML M.1.cls idx N.1) (hs : (SH a).1 = c9) (hc : c9 < 100) (hy : ∃ q, vwCl[c9]? = some q ∧ q.1 = N.1.cls) (hd' : d' + 1 ≤ d) (hn : As.length = n) (h0 : st0 = As.reverse ++ aV ω a :: rest) (hw : (rest.map fun v => v.category).sum ≤ 8)
    (k : EvB ω M d Q z h1 (pc + 3) lv (iV r :: rest)) : EvB ω M d Q z h pc lv st0 := by
  subst h0
  refine ev_callV hC hd hM hst hL hc hs hy hd' hn hw (Nat.le_refl _) (Nat.le_refl _) (fun v sh' pt' z' h' hq => ?_)
  obtain ⟨rfl, rfl, rfl, rfl, rfl⟩ := hq
  exact k
theorem evB_callS_J {idx d' n : Nat} {N : Mt} {As rest st0 : List Value} {r : Int} {h1 : Hp} (hC : CtB ω N d' As z h (some (lV r)) h1) (hd : decode M.2.1 pc = .ok (.invokestatic idx, 3)) (hM : MT N n) (hst : Cond.static N.1 ∈ WS) (hL : ML M.1.cls idx N.1) (hd' : d' + 1 ≤ d) (hn : As.length = n) (h0 : st0 = As.reverse ++ rest) (hw : (rest.map fun v => v.category).sum ≤ 8)
    (k : EvB ω M d Q z h1 (pc + 3) lv (lV r :: rest)) : EvB ω M d Q z h pc lv st0 := by
  subst h0
  refine ev_callS hC hd hM hst hL hd' hn hw (Nat.le_refl _) (Nat.le_refl _) (fun v sh' pt' z' h' hq => ?_)
  obtain ⟨rfl, rfl, rfl, rfl, rfl⟩ := hq
  exact k
theorem evB_callV_J {idx d' n c9 : Nat} {a : Int} {N : Mt} {As rest st0 : List Value} {r : Int} {h1 : Hp} (hC : CtB ω N d' (aV ω a :: As) z h (some (lV r)) h1) (hd : decode M.2.1 pc = .ok (.invokevirtual idx, 3)) (hM : MT N n) (hst : Cond.instanceMethod N.1 ∈ WS ∧ Cond.selects N.1.cls N.1 N.1 ∈ WS) (hL : ML M.1.cls idx N.1) (hs : (SH a).1 = c9) (hc : c9 < 100) (hy : ∃ q, vwCl[c9]? = some q ∧ q.1 = N.1.cls) (hd' : d' + 1 ≤ d) (hn : As.length = n) (h0 : st0 = As.reverse ++ aV ω a :: rest) (hw : (rest.map fun v => v.category).sum ≤ 8)
    (k : EvB ω M d Q z h1 (pc + 3) lv (lV r :: rest)) : EvB ω M d Q z h pc lv st0 := by
  subst h0
  refine ev_callV hC hd hM hst hL hc hs hy hd' hn hw (Nat.le_refl _) (Nat.le_refl _) (fun v sh' pt' z' h' hq => ?_)
  obtain ⟨rfl, rfl, rfl, rfl, rfl⟩ := hq
  exact k
theorem evB_callS_A {idx d' n : Nat} {N : Mt} {As rest st0 : List Value} {r : Int} {h1 : Hp} (hC : CtB ω N d' As z h (some (aV ω r)) h1) (hd : decode M.2.1 pc = .ok (.invokestatic idx, 3)) (hM : MT N n) (hst : Cond.static N.1 ∈ WS) (hL : ML M.1.cls idx N.1) (hd' : d' + 1 ≤ d) (hn : As.length = n) (h0 : st0 = As.reverse ++ rest) (hw : (rest.map fun v => v.category).sum ≤ 8)
    (k : EvB ω M d Q z h1 (pc + 3) lv (aV ω r :: rest)) : EvB ω M d Q z h pc lv st0 := by
  subst h0
  refine ev_callS hC hd hM hst hL hd' hn hw (Nat.le_refl _) (Nat.le_refl _) (fun v sh' pt' z' h' hq => ?_)
  obtain ⟨rfl, rfl, rfl, rfl, rfl⟩ := hq
  exact k
theorem evB_callV_A {idx d' n c9 : Nat} {a : Int} {N : Mt} {As rest st0 : List Value} {r : Int} {h1 : Hp} (hC : CtB ω N d' (aV ω a :: As) z h (some (aV ω r)) h1) (hd : decode M.2.1 pc = .ok (.invokevirtual idx, 3)) (hM : MT N n) (hst : Cond.instanceMethod N.1 ∈ WS ∧ Cond.selects N.1.cls N.1 N.1 ∈ WS) (hL : ML M.1.cls idx N.1) (hs : (SH a).1 = c9) (hc : c9 < 100) (hy : ∃ q, vwCl[c9]? = some q ∧ q.1 = N.1.cls) (hd' : d' + 1 ≤ d) (hn : As.length = n) (h0 : st0 = As.reverse ++ aV ω a :: rest) (hw : (rest.map fun v => v.category).sum ≤ 8)
    (k : EvB ω M d Q z h1 (pc + 3) lv (aV ω r :: rest)) : EvB ω M d Q z h pc lv st0 := by
  subst h0
  refine ev_callV hC hd hM hst hL hc hs hy hd' hn hw (Nat.le_refl _) (Nat.le_refl _) (fun v sh' pt' z' h' hq => ?_)
  obtain ⟨rfl, rfl, rfl, rfl, rfl⟩ := hq
  exact k
theorem evB_callS_V {idx d' n : Nat} {N : Mt} {As rest st0 : List Value} {h1 : Hp} (hC : CtB ω N d' As z h none h1) (hd : decode M.2.1 pc = .ok (.invokestatic idx, 3)) (hM : MT N n) (hst : Cond.static N.1 ∈ WS) (hL : ML M.1.cls idx N.1) (hd' : d' + 1 ≤ d) (hn : As.length = n) (h0 : st0 = As.reverse ++ rest) (hw : (rest.map fun v => v.category).sum ≤ 8)
    (k : EvB ω M d Q z h1 (pc + 3) lv rest) : EvB ω M d Q z h pc lv st0 := by
  subst h0
  refine ev_callS hC hd hM hst hL hd' hn hw (Nat.le_refl _) (Nat.le_refl _) (fun v sh' pt' z' h' hq => ?_)
  obtain ⟨rfl, rfl, rfl, rfl, rfl⟩ := hq
  exact k
theorem evB_callV_V {idx d' n c9 : Nat} {a : Int} {N : Mt} {As rest st0 : List Value} {h1 : Hp} (hC : CtB ω N d' (aV ω a :: As) z h none h1) (hd : decode M.2.1 pc = .ok (.invokevirtual idx, 3)) (hM : MT N n) (hst : Cond.instanceMethod N.1 ∈ WS ∧ Cond.selects N.1.cls N.1 N.1 ∈ WS) (hL : ML M.1.cls idx N.1) (hs : (SH a).1 = c9) (hc : c9 < 100) (hy : ∃ q, vwCl[c9]? = some q ∧ q.1 = N.1.cls) (hd' : d' + 1 ≤ d) (hn : As.length = n) (h0 : st0 = As.reverse ++ aV ω a :: rest) (hw : (rest.map fun v => v.category).sum ≤ 8)
    (k : EvB ω M d Q z h1 (pc + 3) lv rest) : EvB ω M d Q z h pc lv st0 := by
  subst h0
  refine ev_callV hC hd hM hst hL hc hs hy hd' hn hw (Nat.le_refl _) (Nat.le_refl _) (fun v sh' pt' z' h' hq => ?_)
  obtain ⟨rfl, rfl, rfl, rfl, rfl⟩ := hq
  exact k
theorem evB_putI {idx c9 k9 : Nat} {kI a x : Int} (hd : decode M.2.1 pc = .ok (.putfield idx, 3)) (hF : FL M.1.cls idx c9 k9) (hs : (SH a).1 = c9) (hc : c9 < 100) (hfin : ∀ q, vwCl[c9]? = some q → (q.2.1 k9).2.2.2 = false) (ht : tyf c9 k9 = .int) (hk : fkd c9 k9 = 0) (hI : ((k9 : Nat) : Int) = kI) (k : EvB ω M d Q z (up h a kI x) (pc + 3) lv st) : EvB ω M d Q z h pc lv (iV x :: aV ω a :: st) := by
  subst hI
  exact ev_putI hd hF hc hs (SH_obj (by omega)) hfin ht hk k
theorem evB_putZ {idx c9 k9 : Nat} {kI a x : Int} (hd : decode M.2.1 pc = .ok (.putfield idx, 3)) (hF : FL M.1.cls idx c9 k9) (hs : (SH a).1 = c9) (hc : c9 < 100) (hfin : ∀ q, vwCl[c9]? = some q → (q.2.1 k9).2.2.2 = false) (ht : tyf c9 k9 = .boolean) (hk : fkd c9 k9 = 0) (hx : x = 0 ∨ x = 1) (hI : ((k9 : Nat) : Int) = kI) (k : EvB ω M d Q z (up h a kI x) (pc + 3) lv st) : EvB ω M d Q z h pc lv (iV x :: aV ω a :: st) := by
  subst hI
  exact ev_putZ hd hF hc hs (SH_obj (by omega)) hfin ht hk hx k
theorem evB_putL {idx c9 k9 : Nat} {kI a x : Int} (hd : decode M.2.1 pc = .ok (.putfield idx, 3)) (hF : FL M.1.cls idx c9 k9) (hs : (SH a).1 = c9) (hc : c9 < 100) (hfin : ∀ q, vwCl[c9]? = some q → (q.2.1 k9).2.2.2 = false) (ht : tyf c9 k9 = .long) (hk : fkd c9 k9 = 1) (hI : ((k9 : Nat) : Int) = kI) (k : EvB ω M d Q z (up h a kI x) (pc + 3) lv st) : EvB ω M d Q z h pc lv (lV x :: aV ω a :: st) := by
  subst hI
  exact ev_putL hd hF hc hs (SH_obj (by omega)) hfin ht hk k
theorem evB_putA {idx c9 k9 : Nat} {kI a x : Int} (hd : decode M.2.1 pc = .ok (.putfield idx, 3)) (hF : FL M.1.cls idx c9 k9) (hs : (SH a).1 = c9) (hc : c9 < 100) (hfin : ∀ q, vwCl[c9]? = some q → (q.2.1 k9).2.2.2 = false) (ht : (tyf c9 k9).isReference = true) (hk : fkd c9 k9 = 3) (hI : ((k9 : Nat) : Int) = kI) (k : EvB ω M d Q z (up h a kI x) (pc + 3) lv st) : EvB ω M d Q z h pc lv (aV ω x :: aV ω a :: st) := by
  subst hI
  exact ev_putA hd hF hc hs (SH_obj (by omega)) hfin ht hk k
theorem evB_tswIn {dflt lo hi : Int} {offs : Array Int} {len : Nat} {x y off : Int} {tgt : Nat} (hd : decode M.2.1 pc = .ok (.tableswitch dflt lo hi offs, len)) (hx : w32 x = y) (h1 : lo ≤ y) (h2 : y ≤ hi) (ho : offs[(y - lo).toNat]? = some off) (ht : (pc : Int) + off = (tgt : Int)) (k : EvB ω M d Q z h tgt lv st) : EvB ω M d Q z h pc lv (iV x :: st) := by
  intro p l e R s m args below meth c H locs ls Y
  have hz : (Int32.ofInt x).toInt = y := by rw [w32_toInt, hx]
  exact lv_tableIn Y.1.1 Y.1.2.1 hd (by rw [hz]; omega) (by rw [hz]; omega) (by rw [hz]; exact ho) ht (k p l e R s m args below meth c H locs ls Y)
theorem evB_tswOut {dflt lo hi : Int} {offs : Array Int} {len : Nat} {x : Int} {tgt : Nat} (hd : decode M.2.1 pc = .ok (.tableswitch dflt lo hi offs, len)) (hx : w32 x < lo ∨ hi < w32 x) (ht : (pc : Int) + dflt = (tgt : Int)) (k : EvB ω M d Q z h tgt lv st) : EvB ω M d Q z h pc lv (iV x :: st) := by
  intro p l e R s m args below meth c H locs ls Y
  exact lv_tableOut Y.1.1 Y.1.2.1 hd (by rw [w32_toInt]; exact hx) ht (k p l e R s m args below meth c H locs ls Y)
theorem evB_lsw {dflt : Int} {ps : Array (Int × Int)} {len : Nat} {x off : Int} {tgt : Nat} (hd : decode M.2.1 pc = .ok (.lookupswitch dflt ps, len)) (hp : (ps.toList.zip (ps.toList.drop 1)).all (fun (a, next) => a.1 < next.1) = true) (ho : Op.lookupswitch.offset ps.toList dflt (w32 x) = off) (ht : (pc : Int) + off = (tgt : Int)) (k : EvB ω M d Q z h tgt lv st) : EvB ω M d Q z h pc lv (iV x :: st) := by
  intro p l e R s m args below meth c H locs ls Y
  exact lv_lookup Y.1.1 Y.1.2.1 hd hp (by rw [w32_toInt]; exact ho) ht (k p l e R s m args below meth c H locs ls Y)
theorem sm_z : (([] : List Value).map fun v => v.category).sum ≤ 0 := Nat.le_refl _
theorem sm_1 {v : Value} {st : List Value} {n : Nat} (hv : v.category = 1) (h : (st.map fun v => v.category).sum ≤ n) : ((v :: st).map fun v => v.category).sum ≤ n + 1 := by
  simp only [List.map_cons, List.sum_cons, hv]; omega
theorem sm_2 {v : Value} {st : List Value} {n : Nat} (hv : v.category = 2) (h : (st.map fun v => v.category).sum ≤ n) : ((v :: st).map fun v => v.category).sum ≤ n + 2 := by
  simp only [List.map_cons, List.sum_cons, hv]; omega
theorem ev_bdI {ω : Wd} {M : Mt} {d mc ms cl sl : Nat} {PQ : PQt} {sh : Shp} {pt : Ptr} {z : Nat → Prop} {h : Hp} {pc : Nat} {lv : List (Option Value)} {st : List Value} {x : Int} {α : Type} {K : Int → Option α} {o : Option α} (hL : bd x K = o) (k : ∀ v : Int, K v = o → Ev ω M d PQ mc ms cl sl sh pt z h pc lv (iV v :: st)) : Ev ω M d PQ mc ms cl sl sh pt z h pc lv (iV x :: st) := k x hL
theorem ev_bdL {ω : Wd} {M : Mt} {d mc ms cl sl : Nat} {PQ : PQt} {sh : Shp} {pt : Ptr} {z : Nat → Prop} {h : Hp} {pc : Nat} {lv : List (Option Value)} {st : List Value} {x : Int} {α : Type} {K : Int → Option α} {o : Option α} (hL : bd x K = o) (k : ∀ v : Int, K v = o → Ev ω M d PQ mc ms cl sl sh pt z h pc lv (lV v :: st)) : Ev ω M d PQ mc ms cl sl sh pt z h pc lv (lV x :: st) := k x hL
theorem ev_puG {ω : Wd} {M : Mt} {d mc ms cl sl : Nat} {PQ : PQt} {sh : Shp} {pt : Ptr} {z : Nat → Prop} {h : Hp} {pc : Nat} {lv : List (Option Value)} {st : List Value} {α : Type} {K : Hp → Option α} {o : Option α} (hL : pu h K = o) (k : ∀ h' : Hp, K h' = o → Ev ω M d PQ mc ms cl sl sh pt z h' pc lv st) : Ev ω M d PQ mc ms cl sl sh pt z h pc lv st := k h hL
theorem sl_z : (lg_sl ([] : List Value)).length ≤ 0 := Nat.le_refl _
theorem sl_1 {v : Value} {vs : List Value} {n : Nat} (hv : v.category = 1) (h : (lg_sl vs).length ≤ n) : (lg_sl (v :: vs)).length ≤ n + 1 := by
  have : ¬ v.category = 2 := by omega
  simp [lg_sl, this] at h ⊢; omega
theorem sl_2 {v : Value} {vs : List Value} {n : Nat} (hv : v.category = 2) (h : (lg_sl vs).length ≤ n) : (lg_sl (v :: vs)).length ≤ n + 2 := by
  simp [lg_sl, hv] at h ⊢; omega
theorem la_1 {v : Value} {vs : List Value} {lv : List (Option Value)} {i : Nat} (hv : v.category = 1) (h : lvA (i + 1) lv = lv_args (i + 1) vs) : lvA i (some v :: lv) = lv_args i (v :: vs) := by
  have : ¬ v.category = 2 := by omega
  simp only [lvA, lv_args, if_neg this, h]
theorem la_2 {v : Value} {vs : List Value} {lv : List (Option Value)} {i : Nat} (hv : v.category = 2) (h : lvA (i + 2) lv = lv_args (i + 2) vs) : lvA i (some v :: none :: lv) = lv_args i (v :: vs) := by
  simp only [lvA, lv_args, if_pos hv]
  rw [← h]
theorem la_n {lv : List (Option Value)} {i : Nat} (h : lvA (i + 1) lv = lv_args (i + 1) []) : lvA i (none :: lv) = lv_args i [] := h
theorem la_z {i : Nat} : lvA i [] = lv_args i [] := rfl
end PhB
