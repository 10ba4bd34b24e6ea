section PureN
variable {h : Hp} {n : Nat} {f : Int → Int}
theorem cD_2 {α : Type} (A : Option α) : cD 2 A = A := if_neg (by decide)
def mxI (v : Nat → Int) (i : Nat) (x : Int) : Int := if x < v i then v i else x
theorem mxI_cm (v w : Nat → Int) (i j : Nat) (x : Int) : mxI v i (mxI w j x) = mxI w j (mxI v i x) := by
  unfold mxI
  generalize v i = a
  generalize w j = b
  by_cases c1 : x < b
  · rw [if_pos c1]
    by_cases c2 : x < a
    · rw [if_pos c2]
      by_cases c3 : b < a
      · rw [if_pos c3, if_neg (by omega)]
      · by_cases c4 : a < b
        · rw [if_neg c3, if_pos c4]
        · rw [if_neg c3, if_neg c4]; omega
    · rw [if_neg c2, if_neg (by omega), if_pos c1]
  · rw [if_neg c1]
    by_cases c2 : x < a
    · rw [if_pos c2, if_neg (by omega)]
    · rw [if_neg c2, if_neg c1]
theorem mx_fo (v w : Nat → Int) (k n : Nat) (x : Int) : fo (mxI v) n (fo (mxI w) k x) = fo (mxI w) k (fo (mxI v) n x) :=
  fo_thru (f := mxI v) (g := fo (mxI w) k) (fun i y _ => (fo_thru (f := mxI w) (g := mxI v i) (fun j z _ => mxI_cm w v j i z) y).symm) x
theorem mx_b {v : Nat → Int} {B : Int} {n : Nat} (hv : ∀ i, i < n → 0 ≤ v i ∧ v i ≤ B) {x : Int} (h0 : 0 ≤ x) (h1 : x ≤ B) : 0 ≤ fo (mxI v) n x ∧ fo (mxI v) n x ≤ B := by
  refine fo_inv (fun x => 0 ≤ x ∧ x ≤ B) (fun i y hi q => ?_) ⟨h0, h1⟩
  unfold mxI
  by_cases c : y < v i
  · rw [if_pos c]; exact hv i hi
  · rw [if_neg c]; exact q
theorem dWt_b (g : Gd n f) (z : Int) {a b : Nat} (a1 : a < 6) (b1 : b < 6) : 0 ≤ dWt f z a b ∧ dWt f z a b ≤ 99 := by
  unfold dWt
  by_cases c1 : w32 (iand (ishr z (a : Int)) 1) = 1
  · rw [if_pos c1]
    by_cases c2 : w32 (iand (ishr z (b : Int)) 1) = 1
    · rw [if_pos c2]; exact Gd_d g (by omega) (by omega) (by omega) (by omega)
    · rw [if_neg c2]; omega
  · rw [if_neg c1]; omega
theorem dW_b (g : Gd n f) (z : Int) : 0 ≤ dW n f z ∧ dW n f z ≤ 3564 := by
  have n6 := g.1
  have h1 : ∀ a : Nat, a < n → 0 ≤ sm (fun j => dWt f z a (a + 1 + j)) (n - (a + 1)) ∧ sm (fun j => dWt f z a (a + 1 + j)) (n - (a + 1)) ≤ 594 := by
    intro a ha
    have := sm_b (f := fun j => dWt f z a (a + 1 + j)) (m := 99) (n - (a + 1)) (fun j hj => dWt_b g z (by omega) (by omega))
    omega
  have := sm_b (f := fun a => sm (fun j => dWt f z a (a + 1 + j)) (n - (a + 1))) (m := 594) n h1
  unfold dW
  omega
def hfV (d : Int) : Int := (w32 (d + 1)).tdiv (w32 2)
theorem hfV_b {d : Int} (h0 : 0 ≤ d) (h1 : d ≤ 3564) : 0 ≤ hfV d ∧ hfV d ≤ 3564 := by
  have e2 : w32 2 = 2 := by decide
  unfold hfV
  rw [w32_n (x := d + 1) (by omega) (by omega), e2, Int.tdiv_eq_ediv_of_nonneg (by omega)]
  omega
def soG (n : Nat) (f : Int → Int) (m : Nat) : Int := if pcv (m : Int) = 3 then dW n f (m : Int) else if pcv (m : Int) = 5 then hfV (dW n f (m : Int)) else 0
theorem soG_b (g : Gd n f) (m : Nat) : 0 ≤ soG n f m ∧ soG n f m ≤ 3564 := by
  have D := dW_b g (m : Int)
  unfold soG
  by_cases c : pcv (m : Int) = 3
  · rw [if_pos c]; exact D
  · rw [if_neg c]
    by_cases c2 : pcv (m : Int) = 5
    · rw [if_pos c2]; exact hfV_b D.1 D.2
    · rw [if_neg c2]; omega
def soP (n : Nat) (f : Int → Int) (p : Nat) : Int := dbV n f (p : Int)
def sooV (n : Nat) (f : Int → Int) : Int := if n = 0 then -1 else fo (mxI (soG n f)) (2 ^ n) (fo (mxI (soP n f)) n 0)
theorem soP_b (g : Gd n f) {i : Nat} (hi : i < n) : 0 ≤ soP n f i ∧ soP n f i ≤ 3564 := by
  have n6 := g.1
  have := db_b g (p := (i : Int)) (by omega) (by omega)
  unfold soP
  omega
theorem c_so45 (A : StA h 110 n f) {x : Int} (x0 : 0 ≤ x) (x1 : x ≤ 3564) : Cc_sooner_b45 h 20 x 0 = some (fo (mxI (soG n f)) (2 ^ n) x, h) := by
  have g := A.2.2.2
  have n6 := g.1
  have s0 := (IsS_sh A.1).1
  have p64 := p2_le n6
  have pe := p2 n (by omega)
  generalize (2 : Nat) ^ n = P at p64 pe ⊢
  unfold Cc_sooner_b45
  refine itr_run (fun m : Nat => (h, 20, fo (mxI (soG n f)) m x, (m : Int))) (n := P) ?_ ?_ (FU_gt (by omega))
  · intro m hm k
    show Cc_sooner_b45_body k h 20 (fo (mxI (soG n f)) m x) (m : Int) = k (h, 20, mxI (soG n f) m (fo (mxI (soG n f)) m x), (m : Int) + 1)
    have XB := mx_b (n := m) (fun i _ => soG_b g i) x0 x1
    generalize fo (mxI (soG n f)) m x = y at XB
    have B := pcv_b m (by omega)
    have D := dW_b g (m : Int)
    have H := hfV_b D.1 D.2
    unfold Cc_sooner_b45_body mxI soG
    rw [cC_s SH20' rfl, cC_s s0 rfl, A.2.1, pe.1, w32_n (x := (m : Int)) (by omega) (by omega), if_pos (by omega), Ji_pc, cl_s, w32_n B.1 (by omega)]
    by_cases c : pcv (m : Int) = 3
    · rw [if_pos c, if_pos c, St_debtWithin_e A, cl_s, bd_s, w32_n XB.1 (by omega), w32_n D.1 (by omega)]
    · rw [if_neg c, if_neg c]
      by_cases c2 : pcv (m : Int) = 5
      · rw [if_pos c2, if_pos c2, St_debtWithin_e A, cl_s, cD_2, bd_s]
        show k (h, 20, (if w32 y < w32 (hfV (dW n f (m : Int))) then hfV (dW n f (m : Int)) else y), (m : Int) + 1) = _
        rw [w32_n XB.1 (by omega), w32_n H.1 (by omega)]
      · rw [if_neg c2, if_neg c2, if_neg (by omega)]
  · intro k
    show Cc_sooner_b45_body k h 20 (fo (mxI (soG n f)) P x) (P : Int) = _
    unfold Cc_sooner_b45_body
    rw [cC_s SH20' rfl, cC_s s0 rfl, A.2.1, pe.1, w32_n (x := (P : Int)) (by omega) (by omega), if_neg (Int.lt_irrefl _)]
theorem c_sooner (C : CoA h n) (A : StA h 110 n f) : Cc_sooner h 20 = some (sooV n f, h) := by
  have g := A.2.2.2
  have n6 := g.1
  have s0 := (IsS_sh A.1).1
  unfold Cc_sooner sooV
  rw [cC_s SH20' rfl]
  by_cases c : n = 0
  · rw [told0 C c, cl_s, if_pos (by decide), if_pos c]
  · rw [told1 C c, cl_s, if_neg (by decide), if_neg c]
    unfold Cc_sooner_b13
    refine itr_run (fun p : Nat => (h, 20, fo (mxI (soP n f)) p 0, (p : Int))) (n := n) ?_ ?_ (FU_gt (by omega))
    · intro p hp k
      show Cc_sooner_b13_body k h 20 (fo (mxI (soP n f)) p 0) (p : Int) = k (h, 20, mxI (soP n f) p (fo (mxI (soP n f)) p 0), (p : Int) + 1)
      have XB := mx_b (v := soP n f) (n := p) (fun i hi => soP_b g (by omega)) (x := 0) (B := 3564) (by decide) (by decide)
      generalize fo (mxI (soP n f)) p 0 = y at XB
      have D := soP_b g hp
      have e : St_debtOf h 110 (p : Int) = some (soP n f p, h) := St_debtOf_e A (by omega) (by omega)
      unfold Cc_sooner_b13_body mxI
      rw [cC_s SH20' rfl, cC_s s0 rfl, A.2.1, w32_n (x := (p : Int)) (by omega) (by omega), w32_n (x := (n : Int)) (by omega) (by omega), if_pos (by omega), e, cl_s, bd_s, w32_n XB.1 (by omega), w32_n D.1 (by omega)]
    · intro k
      show Cc_sooner_b13_body k h 20 (fo (mxI (soP n f)) n 0) (n : Int) = _
      have XB := mx_b (v := soP n f) (n := n) (fun i hi => soP_b g hi) (x := 0) (B := 3564) (by decide) (by decide)
      unfold Cc_sooner_b13_body
      rw [cC_s SH20' rfl, cC_s s0 rfl, A.2.1, if_neg (Int.lt_irrefl _), c_so45 A XB.1 XB.2]
/-- the reference -/
theorem m_grp (M : StM h 2032 n f) (k18 : Hp × Int × Int × Int → Option (Int × Hp)) (x : Int) (m : Nat) (pv : Int) : Md_sooner_b52 k18 h 2000 x (m : Int) pv 0 0 = if w32 pv = 3 then Md_sooner_b143 k18 h 2000 (m : Int) x (dW n f (m : Int)) else Md_sooner_b143 k18 h 2000 (m : Int) x (hfV (dW n f (m : Int))) := by
  have n6 := M.2.2.2.1
  generalize hg : (m : Int) = g
  unfold Md_sooner_b52
  refine itr_run (fun a : Nat => (h, 2000, x, g, pv, sm (fun a => sm (fun j => dWt f g a (a + 1 + j)) (n - (a + 1))) a, (a : Int))) (n := n) ?_ ?_ (FU_gt (by omega))
  · intro a ha k
    show Md_sooner_b52_body k18 k h 2000 x g pv (sm (fun a => sm (fun j => dWt f g a (a + 1 + j)) (n - (a + 1))) a) (a : Int) = k (h, 2000, x, g, pv, sm (fun a => sm (fun j => dWt f g a (a + 1 + j)) (n - (a + 1))) a + sm (fun j => dWt f g a (a + 1 + j)) (n - (a + 1)), (a : Int) + 1)
    generalize sm (fun a => sm (fun j => dWt f g a (a + 1 + j)) (n - (a + 1))) a = acc
    unfold Md_sooner_b52_body
    rw [cC_s SH2000' rfl, M.2.1, w32_n (x := (a : Int)) (by omega) (by omega), w32_n (x := (n : Int)) (by omega) (by omega), if_pos (by omega), bd_s]
    unfold Md_sooner_b67
    refine itr_runs (fun j : Nat => (h, 2000, x, g, pv, acc + sm (fun j => dWt f g a (a + 1 + j)) j, (a : Int), ((a + 1 + j : Nat) : Int))) (n := n - (a + 1)) ?_ ?_ ?_ (FU_gt (by omega))
    · show (h, 2000, x, g, pv, acc + 0, (a : Int), ((a + 1 + 0 : Nat) : Int)) = _
      rw [Int.add_zero]
      rfl
    · intro j hj k17
      show Md_sooner_b67_body k18 k k17 h 2000 x g pv (acc + sm (fun j => dWt f g a (a + 1 + j)) j) (a : Int) ((a + 1 + j : Nat) : Int) = k17 (h, 2000, x, g, pv, acc + (sm (fun j => dWt f g a (a + 1 + j)) j + dWt f g a (a + 1 + j)), (a : Int), ((a + 1 + j : Nat) : Int) + 1)
      unfold Md_sooner_b67_body dWt
      rw [cC_s SH2000' rfl, M.2.1, w32_n (x := ((a + 1 + j : Nat) : Int)) (by omega) (by omega), w32_n (x := (n : Int)) (by omega) (by omega), if_pos (by omega), Md_has_p, cl_s]
      by_cases c1 : w32 (iand (ishr g (a : Int)) 1) = 1
      · rw [if_pos c1, if_neg (by decide), Md_has_p, cl_s, if_pos c1]
        by_cases c2 : w32 (iand (ishr g ((a + 1 + j : Nat) : Int)) 1) = 1
        · rw [if_pos c2, if_neg (by decide), if_pos c2, Md_owes_e M (by omega) (by omega) (by omega) (by omega), cl_s, bd_s, Int.add_assoc]
        · rw [if_neg c2, if_pos (by decide), if_neg c2, bd_s, Int.add_zero, Int.add_zero]
      · rw [if_neg c1, if_pos (by decide), if_neg c1, bd_s, Int.add_zero, Int.add_zero]
    · intro k17
      show Md_sooner_b67_body k18 k k17 h 2000 x g pv (acc + sm (fun j => dWt f g a (a + 1 + j)) (n - (a + 1))) (a : Int) ((a + 1 + (n - (a + 1)) : Nat) : Int) = _
      have e2 : a + 1 + (n - (a + 1)) = n := by omega
      unfold Md_sooner_b67_body
      rw [cC_s SH2000' rfl, M.2.1, e2, if_neg (Int.lt_irrefl _)]
  · intro k
    show Md_sooner_b52_body k18 k h 2000 x g pv (dW n f g) (n : Int) = _
    unfold Md_sooner_b52_body
    rw [cC_s SH2000' rfl, M.2.1, if_neg (Int.lt_irrefl _), cD_2]
    rfl
theorem m_so155 (M : StM h 2032 n f) {x : Int} (x0 : 0 ≤ x) (x1 : x ≤ 3564) : Md_sooner_b155 h 2000 x 0 = some (fo (mxI (soP n f)) n x, h) := by
  have g := M.2.2.2
  have n6 := g.1
  unfold Md_sooner_b155
  refine itr_run (fun p : Nat => (h, 2000, fo (mxI (soP n f)) p x, (p : Int))) (n := n) ?_ ?_ (FU_gt (by omega))
  · intro p hp k
    show Md_sooner_b155_body k h 2000 (fo (mxI (soP n f)) p x) (p : Int) = k (h, 2000, mxI (soP n f) p (fo (mxI (soP n f)) p x), (p : Int) + 1)
    have XB := mx_b (v := soP n f) (n := p) (fun i hi => soP_b g (by omega)) x0 x1
    generalize fo (mxI (soP n f)) p x = y at XB
    have D := soP_b g hp
    have e : Md_owesInAll h 2000 (p : Int) = some (soP n f p, h) := Md_owesInAll_e M (by omega) (by omega)
    unfold Md_sooner_b155_body mxI
    rw [cC_s SH2000' rfl, M.2.1, w32_n (x := (p : Int)) (by omega) (by omega), w32_n (x := (n : Int)) (by omega) (by omega), if_pos (by omega), e, cl_s, bd_s, w32_n XB.1 (by omega), w32_n D.1 (by omega)]
  · intro k
    show Md_sooner_b155_body k h 2000 (fo (mxI (soP n f)) n x) (n : Int) = _
    unfold Md_sooner_b155_body
    rw [cC_s SH2000' rfl, M.2.1, if_neg (Int.lt_irrefl _)]
theorem soG_0 : fo (mxI (soG n f)) 1 0 = 0 := by
  show mxI (soG n f) 0 0 = 0
  unfold mxI soG
  rw [pcv_0, if_neg (show ¬ (0 : Int) = 3 by decide), if_neg (show ¬ (0 : Int) = 5 by decide), if_neg (Int.lt_irrefl _)]
theorem m_sooner (M : StM h 2032 n f) : Md_sooner h 2000 = some (sooV n f, up h 2000 0 0) := by
  have M0 := M.on t0_sc
  have g := M.2.2.2
  have n6 := g.1
  unfold Md_sooner sooV
  rw [cC_s SH2000' rfl, pu_s, M0.2.1, w32_n (x := (n : Int)) (by omega) (by omega)]
  generalize up h 2000 0 0 = h0 at M0
  by_cases c : n = 0
  · rw [if_pos (by omega), if_pos c]
  · rw [if_neg (by omega), if_neg c, mx_fo]
    have p64 := p2_le n6
    have pe := p2 n (by omega)
    have p0 := p2_0 n
    generalize (2 : Nat) ^ n = P at p64 pe p0 ⊢
    unfold Md_sooner_b18
    refine itr_runs (fun m : Nat => (h0, 2000, fo (mxI (soG n f)) (m + 1) 0, ((m + 1 : Nat) : Int))) (n := P - 1) ?_ ?_ ?_ (FU_gt (by omega))
    · show (h0, 2000, fo (mxI (soG n f)) 1 0, ((0 + 1 : Nat) : Int)) = _
      rw [soG_0]
      rfl
    · intro m hm k
      show Md_sooner_b18_body k h0 2000 (fo (mxI (soG n f)) (m + 1) 0) ((m + 1 : Nat) : Int) = k (h0, 2000, mxI (soG n f) (m + 1) (fo (mxI (soG n f)) (m + 1) 0), ((m + 1 : Nat) : Int) + 1)
      have XB := mx_b (n := m + 1) (fun i _ => soG_b g i) (x := 0) (B := 3564) (by decide) (by decide)
      generalize fo (mxI (soG n f)) (m + 1) 0 = y at XB
      obtain ⟨m', hm'⟩ : ∃ m' : Nat, m' = m + 1 := ⟨_, rfl⟩
      rw [← hm']
      have B := pcv_b m' (by omega)
      have D := dW_b g (m' : Int)
      have H := hfV_b D.1 D.2
      unfold Md_sooner_b18_body mxI soG
      rw [cC_s SH2000' rfl, M0.2.1, pe.1, w32_n (x := (m' : Int)) (by omega) (by omega), if_pos (by omega), Ji_pc, cl_s, w32_n B.1 (by omega), m_grp M0, w32_n B.1 (by omega)]
      by_cases c : pcv (m' : Int) = 3
      · rw [if_pos c, if_pos c, if_pos c]
        unfold Md_sooner_b143
        rw [bd_s, w32_n XB.1 (by omega), w32_n D.1 (by omega)]
      · rw [if_neg c, if_neg c, if_neg c]
        by_cases c2 : pcv (m' : Int) = 5
        · rw [if_pos c2, if_pos c2]
          unfold Md_sooner_b143
          rw [bd_s, w32_n XB.1 (by omega), w32_n H.1 (by omega)]
        · rw [if_neg c2, if_neg c2, if_neg (by omega)]
    · intro k
      show Md_sooner_b18_body k h0 2000 (fo (mxI (soG n f)) (P - 1 + 1) 0) ((P - 1 + 1 : Nat) : Int) = _
      have e : P - 1 + 1 = P := by omega
      rw [e]
      have XB := mx_b (n := P) (fun i _ => soG_b g i) (x := 0) (B := 3564) (by decide) (by decide)
      unfold Md_sooner_b18_body
      rw [cC_s SH2000' rfl, M0.2.1, pe.1, w32_n (x := (P : Int)) (by omega) (by omega), if_neg (Int.lt_irrefl _), m_so155 M0 XB.1 XB.2]
end PureN
