section Full
/-! THE WORLD BEHIND THE CONSTRUCTORS -/
def zB (ω : Wd) : Nat → Prop := fun x => ω.2.2.2.1 + 331 ≤ x
def nfd (c : Nat) : Nat := [6, 5, 4, 2, 3, 4, 2, 11, 4, 20, 54].getD c 0
theorem nfd_ok (c : Nat) (q : vw_C) (hq : vwCl[c]? = some q) : q.2.2 = nfd c ∧ c < 11 := by
  have hc : c < 11 := (List.getElem?_eq_some_iff.mp hq).1
  refine ⟨?_, hc⟩
  match c, hc, hq with
  | 0, _, hq => cases hq; rfl
  | 1, _, hq => cases hq; rfl
  | 2, _, hq => cases hq; rfl
  | 3, _, hq => cases hq; rfl
  | 4, _, hq => cases hq; rfl
  | 5, _, hq => cases hq; rfl
  | 6, _, hq => cases hq; rfl
  | 7, _, hq => cases hq; rfl
  | 8, _, hq => cases hq; rfl
  | 9, _, hq => cases hq; rfl
  | 10, _, hq => cases hq; rfl
theorem pN_obj : ∀ a : Nat, a < 2060 → (SH (a : Int)).1 < 11 → ∀ k : Nat, k < nfd (SH (a : Int)).1 → fkd (SH (a : Int)).1 k = 2 → tmA a k < 328 ∧ asA (tmA a k) = ((a : Int), (k : Int)) := by decide +kernel
theorem pN_arr : ∀ a : Nat, a < 2060 → 110 ≤ (SH (a : Int)).1 → (SH (a : Int)).1 < 500 → ∀ k : Nat, k < (SH (a : Int)).2 → tmA a k < 328 ∧ asA (tmA a k) = ((a : Int), (k : Int)) := by decide +kernel
theorem fV_pt {ω : Wd} {pt pt' : Ptr} {h : Hp} {kd : Nat} {a k : Int} (hk : kd = 2 → pt a k = pt' a k) : fV ω pt h kd a k = fV ω pt' h kd a k := by
  match kd with
  | 0 => rfl
  | 1 => rfl
  | 2 => show aV _ _ = aV _ _; rw [hk rfl]
  | n + 3 => rfl
theorem HF_full {ω : Wd} {h : Hp} {U : State} {H : Heap} (k : HF ω (sN 331) (pN 328) (zz ω 331) h U H) : HF ω SH PT (zB ω) h U H := by
  have e : sN 331 = SH := funext sN_all
  rw [e] at k
  obtain ⟨k1, k2, k3, k4, k5, k6⟩ := k
  refine ⟨fun a ha => ?_, k2, k3, k4, Nat.le_of_eq k5.symm, k6⟩
  obtain ⟨cell, c1, c2, c3, c4, c5⟩ := k1 a ha
  obtain ⟨d0, d1⟩ := SH_dom ha
  have ea : ((a.toNat : Nat) : Int) = a := by omega
  refine ⟨cell, c1, c2, fun g => ?_, fun g => ?_, c5⟩
  · obtain ⟨g1, g2, q, g3, g4⟩ := c3 g
    refine ⟨g1, g2, q, g3, fun j hj => ?_⟩
    rw [g4 j hj]
    refine congrArg some (fV_pt fun e2 => ?_)
    obtain ⟨n1, n2⟩ := nfd_ok _ _ g3
    have := pN_obj a.toNat (by omega) (by rw [ea]; exact n2) j (by rw [ea, ← n1]; exact hj) (by rw [ea]; exact e2)
    rw [ea] at this
    exact pN_is a j this.1 this.2
  · obtain ⟨g1, g2, g3, g4⟩ := c4 g
    refine ⟨g1, g2, g3, fun j hj => ?_⟩
    rw [g4 j hj]
    refine congrArg some (fV_pt fun e2 => ?_)
    have h110 : 110 ≤ (SH a).1 := by
      unfold kEl at e2
      split at e2
      · cases e2
      · split at e2
        · assumption
        · cases e2
    have := pN_arr a.toNat (by omega) (by rw [ea]; exact h110) (by rw [ea]; exact ha) j (by rw [ea]; exact hj)
    rw [ea] at this
    exact pN_is a j this.1 this.2
theorem ev_full {ω : Wd} {M : Mt} {d mc ms cl sl : Nat} {PQ : PQt} {h : Hp} {pc : Nat} {lv : List (Option Value)} {st : List Value} (k : Ev ω M d PQ mc ms cl sl SH PT (zB ω) h pc lv st) : Ev ω M d PQ mc ms cl sl (sN 331) (pN 328) (zz ω 331) h pc lv st := fun p l e R s m args below meth c H locs ls Y => k p l e R s m args below meth c H locs ls ⟨Y.1, Y.2.1, Y.2.2.1, HF_full Y.2.2.2.1, Y.2.2.2.2⟩
end Full
