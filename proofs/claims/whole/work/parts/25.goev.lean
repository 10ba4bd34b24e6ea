section PureG
/-! the reference's evening -/
theorem ud_comm {f : Int → Int} {a b v x : Int} (h : a ≠ b) : ud (ud f a v) b x = ud (ud f b x) a v := by
  funext j
  unfold ud
  by_cases e1 : j = b
  · rw [if_pos e1, if_neg (by omega), if_pos e1]
  · rw [if_neg e1, if_neg e1]
theorem itr_runs {σ α : Type} {B : (σ → Option α) → σ → Option α} (S : Nat → σ) {s : σ} {E : Option α} {n N : Nat} (h0 : S 0 = s) (hs : ∀ i, i < n → ∀ k, B k (S i) = k (S (i + 1))) (he : ∀ k, B k (S n) = E) (hN : n < N) : itr B N s = E := by
  rw [← h0]
  exact itr_run S hs he hN
section R
variable {n : Nat} {f seat : Int → Int}
theorem lay_ud {a b m k v : Int} (a0 : 0 ≤ a) (a1 : a < 6) (b0 : 0 ≤ b) (b1 : b < 6) (hk : 36 ≤ k) : layR (ud f k v) a b m = ud (layR f a b m) k v := by
  unfold layR
  rw [ud_comm (a := k) (b := 6 * a + b) (by omega), ud_comm (a := k) (b := 6 * b + a) (by omega)]
theorem owe_ud {a b m k v : Int} (a0 : 0 ≤ a) (a1 : a < 6) (b0 : 0 ≤ b) (b1 : b < 6) (hk : 36 ≤ k) : oweR (ud f k v) a b m = ud (oweR f a b m) k v := by
  unfold oweR
  rw [lay_ud a0 a1 b0 b1 hk, ud_ne (by omega)]
theorem ad_ud {p k v : Int} (p0 : 0 ≤ p) (p1 : p < 6) (hk : 36 ≤ k) {q : Nat} (hq : q < 6) (x : Int → Int) : adS p q (ud x k v) = ud (adS p q x) k v := by
  unfold adS
  by_cases c : (q : Int) = p
  · rw [if_pos c, if_pos c]
  · rw [if_neg c, if_neg c, owe_ud p0 p1 (by omega) (by omega) hk]
theorem ad_all {p k v : Int} (p0 : 0 ≤ p) (p1 : p < 6) (hk : 36 ≤ k) (hn : n ≤ 6) (x : Int → Int) : fo (adS p) n (ud x k v) = ud (fo (adS p) n x) k v := fo_thru (f := adS p) (g := fun x => ud x k v) (fun i x hi => ad_ud p0 p1 hk (by omega) x) x
theorem ad_hi {p k : Int} (p0 : 0 ≤ p) (p1 : p < 6) (hk : 36 ≤ k) (hn : n ≤ 6) (x : Int → Int) : fo (adS p) n x k = x k := by
  refine fo_inv (fun y : Int → Int => y k = x k) (fun i y hi hy => ?_) rfl
  unfold adS
  by_cases c : (i : Int) = p
  · rw [if_pos c]; exact hy
  · rw [if_neg c, owe_hi p0 p1 (by omega) (by omega) hk]; exact hy
theorem sit_51 (K : SeatOK n seat) (hn : n ≤ 6) {v : Int} {p : Nat} (hp : p < n) (x : Int → Int) : sitS seat p (ud x 51 v) = ud (sitS seat p x) 51 v := by
  unfold sitS
  by_cases c : seat p = 9
  · rw [if_pos c, if_pos c]
  · rcases K (p : Int) (by omega) (by omega) with q | ⟨k1, k2, k3, k4⟩
    · exact absurd q c
    have e : ud (ud x 51 v) (36 + 2 * (p : Int)) (max 0 (ud x 51 v (36 + 2 * (p : Int)) - 1)) = ud (ud x (36 + 2 * (p : Int)) (max 0 (x (36 + 2 * (p : Int)) - 1))) 51 v := by
      rw [ud_ne (f := x) (by omega), ud_comm (by omega)]
    rw [if_neg c, if_neg c, e]
    by_cases c2 : (p : Int) < seat p
    · rw [if_pos c2, if_pos c2, owe_ud (by omega) (by omega) (by omega) (by omega) (by decide)]
    · rw [if_neg c2, if_neg c2]
theorem sit_h51 (K : SeatOK n seat) (hn : n ≤ 6) {p : Nat} (hp : p < n) (x : Int → Int) : sitS seat p x 51 = x 51 := by
  unfold sitS
  by_cases c : seat p = 9
  · rw [if_pos c]
  · rcases K (p : Int) (by omega) (by omega) with q | ⟨k1, k2, k3, k4⟩
    · exact absurd q c
    rw [if_neg c]
    by_cases c2 : (p : Int) < seat p
    · rw [if_pos c2, owe_hi (by omega) (by omega) (by omega) (by omega) (by decide), ud_ne (by omega)]
    · rw [if_neg c2, ud_ne (by omega)]
theorem br_51 (hn : n ≤ 6) {v : Int} {p : Nat} (hp : p < n) (x : (Int → Int) × Int) : brT n seat p (ud x.1 51 v, x.2) = (ud (brT n seat p x).1 51 v, (brT n seat p x).2) := by
  unfold brT
  by_cases c : seat p = 9
  · rw [if_pos c, if_pos c]
    unfold brS
    dsimp only
    have e1 : ud x.1 51 v (36 + 2 * (p : Int)) = x.1 (36 + 2 * (p : Int)) := ud_ne (by omega)
    have e2 : ud x.1 51 v 50 = x.1 50 := ud_ne (by omega)
    by_cases c2 : x.1 (36 + 2 * (p : Int)) < 9
    · rw [if_pos (by rw [e1]; exact c2), if_pos c2, e1, ud_comm (by omega)]
    · rw [if_neg (by rw [e1]; exact c2), if_neg c2, e2, ud_comm (f := x.1) (by omega), ud_comm (a := 51) (b := 50) (by omega), ad_all (by omega) (by omega) (by omega) hn]
  · rw [if_neg c, if_neg c]
theorem br_h51 (hn : n ≤ 6) {p : Nat} (hp : p < n) (x : (Int → Int) × Int) : (brT n seat p x).1 51 = x.1 51 := by
  unfold brT
  by_cases c : seat p = 9
  · rw [if_pos c]
    unfold brS
    by_cases c2 : x.1 (36 + 2 * (p : Int)) < 9
    · rw [if_pos c2]
      exact ud_ne (by omega)
    · rw [if_neg c2]
      show fo (adS (p : Int)) n _ 51 = _
      rw [ad_hi (by omega) (by omega) (by omega) hn, ud_ne (by omega), ud_ne (by omega)]
  · rw [if_neg c]
/-- the same evening, its number told last -/
def psM (n : Nat) (bed : Int) (f : Int → Int) : (Int → Int) × Int := fo (brT n (bkR n bed f)) n (fo (sitS (bkR n bed f)) n f, 0)
theorem psM_51 (hn : n ≤ 6) (bed : Int) : (psM n bed f).1 51 = f 51 := by
  have K := bkR_ok n bed f
  have e1 : fo (sitS (bkR n bed f)) n f 51 = f 51 := fo_inv (fun y : Int → Int => y 51 = f 51) (fun i y hi hy => (sit_h51 K hn hi y).trans hy) rfl
  exact fo_inv (fun y : (Int → Int) × Int => y.1 51 = f 51) (fun i y hi hy => (br_h51 hn hi y).trans hy) e1
theorem psM_ps (hn : n ≤ 6) (bed : Int) : psR n bed f = (ud (psM n bed f).1 51 ((psM n bed f).1 51 + 1), (psM n bed f).2) := by
  have K := bkR_ok n bed f
  unfold psR sitA
  rw [fo_thru (f := sitS (bkR n bed f)) (g := fun x => ud x 51 (f 51 + 1)) (fun i x hi => sit_51 K hn hi x) f]
  have e := fo_thru (f := brT n (bkR n bed f)) (g := fun x : (Int → Int) × Int => (ud x.1 51 (f 51 + 1), x.2)) (n := n) (fun i x hi => br_51 hn hi x) (fo (sitS (bkR n bed f)) n f, 0)
  have e2 := psM_51 (f := f) hn bed
  rw [e2]
  exact e
theorem SitOK_f (g : Gd n f) (bed : Int) : SitOK n (bkR n bed f) 0 f := by
  have n6 := g.1
  refine ⟨g, fun q q0 q1 q2 q3 => ?_⟩
  rcases bkR_ok n bed f q (by omega) (by omega) with c | ⟨l1, l2, l3, l4⟩
  · exact absurd c q2
  exact (bkR_P g bed q (by omega) (by omega) q2).2
/-- all that is owed -/
def allD (n : Nat) (f : Int → Int) : Int := sm (fun a => sm (fun j => f (6 * (a : Int) + ((a + 1 + j : Nat) : Int))) (n - (a + 1))) n
end R
section M
variable {h : Hp} {w : Int} {n : Nat} {f seat : Int → Int} {bed abed : Int}
theorem mR_hi {k v : Int} (hk : 52 ≤ k) : mR (up h w k v) w = mR h w := by
  funext j
  unfold mR
  rw [up_row]
  by_cases c : 0 ≤ j ∧ j < 52
  · rw [if_pos c, if_pos c, ud_ne (by omega)]
  · rw [if_neg c, if_neg c]
theorem Md_allOwed_e (M : StM h w n f) : Md_allOwed h 2000 w = some (allD n f, h) := by
  have n6 := M.2.2.2.1
  unfold Md_allOwed Md_allOwed_b4
  refine itr_run (fun a : Nat => (h, 2000, w, sm (fun a => sm (fun j => f (6 * (a : Int) + ((a + 1 + j : Nat) : Int))) (n - (a + 1))) a, (a : Int))) (n := n) ?_ ?_ (FU_gt (by omega))
  · intro a ha k
    show Md_allOwed_b4_body k h 2000 w (sm (fun a => sm (fun j => f (6 * (a : Int) + ((a + 1 + j : Nat) : Int))) (n - (a + 1))) a) (a : Int) = k (h, 2000, w, sm (fun a => sm (fun j => f (6 * (a : Int) + ((a + 1 + j : Nat) : Int))) (n - (a + 1))) a + sm (fun j => f (6 * (a : Int) + ((a + 1 + j : Nat) : Int))) (n - (a + 1)), (a : Int) + 1)
    generalize sm (fun a => sm (fun j => f (6 * (a : Int) + ((a + 1 + j : Nat) : Int))) (n - (a + 1))) a = acc
    unfold Md_allOwed_b4_body
    rw [cC_s SH2000' rfl, M.2.1, w32_n (x := (a : Int)) (by omega) (by omega), w32_n (x := (n : Int)) (by omega) (by omega), if_pos (by omega), bd_s]
    unfold Md_allOwed_b17
    refine itr_runs (fun j : Nat => (h, 2000, w, acc + sm (fun j => f (6 * (a : Int) + ((a + 1 + j : Nat) : Int))) j, (a : Int), ((a + 1 + j : Nat) : Int))) (n := n - (a + 1)) ?_ ?_ ?_ (FU_gt (by omega))
    · show (h, 2000, w, acc + 0, (a : Int), ((a + 1 + 0 : Nat) : Int)) = _
      rw [Int.add_zero]
      rfl
    · intro j hj k17
      show Md_allOwed_b17_body k k17 h 2000 w (acc + sm (fun j => f (6 * (a : Int) + ((a + 1 + j : Nat) : Int))) j) (a : Int) ((a + 1 + j : Nat) : Int) = k17 (h, 2000, w, acc + (sm (fun j => f (6 * (a : Int) + ((a + 1 + j : Nat) : Int))) j + f (6 * (a : Int) + ((a + 1 + j : Nat) : Int))), (a : Int), ((a + 1 + j : Nat) : Int) + 1)
      unfold Md_allOwed_b17_body
      rw [cC_s SH2000' rfl, M.2.1, w32_n (x := ((a + 1 + j : Nat) : Int)) (by omega) (by omega), w32_n (x := (n : Int)) (by omega) (by omega), if_pos (by omega), Md_owes_e M (by omega) (by omega) (by omega) (by omega), cl_s, bd_s, Int.add_assoc]
    · intro k17
      show Md_allOwed_b17_body k k17 h 2000 w (acc + sm (fun j => f (6 * (a : Int) + ((a + 1 + j : Nat) : Int))) (n - (a + 1))) (a : Int) ((a + 1 + (n - (a + 1)) : Nat) : Int) = _
      have e2 : a + 1 + (n - (a + 1)) = n := by omega
      unfold Md_allOwed_b17_body
      rw [cC_s SH2000' rfl, M.2.1, e2, if_neg (Int.lt_irrefl _)]
  · intro k
    show Md_allOwed_b4_body k h 2000 w (sm (fun a => sm (fun j => f (6 * (a : Int) + ((a + 1 + j : Nat) : Int))) (n - (a + 1))) n) (n : Int) = _
    unfold Md_allOwed_b4_body
    rw [cC_s SH2000' rfl, M.2.1, if_neg (Int.lt_irrefl _)]
    rfl
end M
end PureG
