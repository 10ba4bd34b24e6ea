section PureE
/-! what an evening does to a row, and the class's State doing so -/
def fo {α : Type} (f : Nat → α → α) : Nat → α → α
  | 0, x => x
  | n + 1, x => f n (fo f n x)
theorem fo_inv {α : Type} {f : Nat → α → α} (P : α → Prop) {n : Nat} (hs : ∀ i x, i < n → P x → P (f i x)) {x : α} (h0 : P x) : P (fo f n x) := by
  have key : ∀ j, j ≤ n → P (fo f j x) := by
    intro j
    induction j with
    | zero => intro _; exact h0
    | succ j ih => intro hj; exact hs j _ (by omega) (ih (by omega))
  exact key n (Nat.le_refl n)
theorem fo_c {α : Type} {f g : Nat → α → α} {n : Nat} (P : α → Prop) (hs : ∀ i x, i < n → P x → f i x = g i x ∧ P (f i x)) {x : α} (h0 : P x) : fo f n x = fo g n x := by
  have key : ∀ j, j ≤ n → fo f j x = fo g j x ∧ P (fo f j x) := by
    intro j
    induction j with
    | zero => intro _; exact ⟨rfl, h0⟩
    | succ j ih =>
      intro hj
      obtain ⟨e, p⟩ := ih (by omega)
      obtain ⟨e1, p1⟩ := hs j _ (by omega) p
      refine ⟨?_, p1⟩
      show f j (fo f j x) = g j (fo g j x)
      rw [← e, e1]
  exact (key n (Nat.le_refl n)).1
/-- a step that goes through the fold -/
theorem fo_thru {α : Type} {f : Nat → α → α} {g : α → α} {n : Nat} (hs : ∀ i x, i < n → f i (g x) = g (f i x)) (x : α) : fo f n (g x) = g (fo f n x) := by
  have key : ∀ j, j ≤ n → fo f j (g x) = g (fo f j x) := by
    intro j
    induction j with
    | zero => intro _; rfl
    | succ j ih =>
      intro hj
      show f j (fo f j (g x)) = g (f j (fo f j x))
      rw [ih (by omega), hs j _ (by omega)]
  exact key n (Nat.le_refl n)
def layR (f : Int → Int) (a b v : Int) : Int → Int := ud (ud f (6 * a + b) v) (6 * b + a) v
def oweR (f : Int → Int) (a b m : Int) : Int → Int := layR f a b (min 99 (f (6 * a + b) + m))
def pkI (bed : Int) (f seat : Int → Int) (a j : Nat) (st : Int × Int × Int) : Int × Int × Int :=
  if st.1 < f (6 * (a : Int) + ((a + 1 + j : Nat) : Int)) ∧ (a : Int) ≠ bed ∧ seat a = 9 ∧ ((a + 1 + j : Nat) : Int) ≠ bed ∧ seat ((a + 1 + j : Nat) : Int) = 9 then (f (6 * (a : Int) + ((a + 1 + j : Nat) : Int)), (a : Int), ((a + 1 + j : Nat) : Int)) else st
def pkO (n : Nat) (bed : Int) (f seat : Int → Int) (a : Nat) (st : Int × Int × Int) : Int × Int × Int := fo (pkI bed f seat a) (n - (a + 1)) st
def pick (n : Nat) (bed : Int) (f seat : Int → Int) : Int × Int × Int := fo (pkO n bed f seat) n (0, 0, 0)
def seat2 (n : Nat) (bed : Int) (f seat : Int → Int) : Int → Int := if 0 < (pick n bed f seat).1 then ud (ud seat (pick n bed f seat).2.1 (pick n bed f seat).2.2) (pick n bed f seat).2.2 (pick n bed f seat).2.1 else seat
def bkR (n : Nat) (bed : Int) (f : Int → Int) : Int → Int := seat2 n bed f (seat2 n bed f (seat2 n bed f (fun _ => 9)))
/-- what a choice is: none, or two that are free, and what they owe -/
def PkOK (n : Nat) (bed : Int) (f seat : Int → Int) (st : Int × Int × Int) : Prop := (st = (0, 0, 0)) ∨ (∃ a b : Nat, a < b ∧ b < n ∧ st = (f (6 * (a : Int) + (b : Int)), (a : Int), (b : Int)) ∧ 0 < st.1 ∧ seat a = 9 ∧ seat b = 9 ∧ (a : Int) ≠ bed ∧ (b : Int) ≠ bed)
theorem pkI_ok {n : Nat} {bed : Int} {f seat : Int → Int} {a j : Nat} {st : Int × Int × Int} (ha : a < n) (hj : j < n - (a + 1)) (h : PkOK n bed f seat st) : PkOK n bed f seat (pkI bed f seat a j st) := by
  unfold pkI
  by_cases c : st.1 < f (6 * (a : Int) + ((a + 1 + j : Nat) : Int)) ∧ (a : Int) ≠ bed ∧ seat a = 9 ∧ ((a + 1 + j : Nat) : Int) ≠ bed ∧ seat ((a + 1 + j : Nat) : Int) = 9
  · rw [if_pos c]
    obtain ⟨c1, c2, c3, c4, c5⟩ := c
    refine Or.inr ⟨a, a + 1 + j, by omega, by omega, rfl, ?_, c3, c5, c2, c4⟩
    have h0 : 0 ≤ st.1 := by
      rcases h with rfl | ⟨_, _, _, _, _, h4, _⟩
      · exact Int.le_refl _
      · omega
    show 0 < f _
    omega
  · rw [if_neg c]; exact h
theorem pkO_ok {n : Nat} {bed : Int} {f seat : Int → Int} {a : Nat} {st : Int × Int × Int} (ha : a < n) (h : PkOK n bed f seat st) : PkOK n bed f seat (pkO n bed f seat a st) := fo_inv (PkOK n bed f seat) (fun j x hj hx => pkI_ok ha hj hx) h
theorem pick_ok (n : Nat) (bed : Int) (f seat : Int → Int) : PkOK n bed f seat (pick n bed f seat) := fo_inv (PkOK n bed f seat) (fun a x ha hx => pkO_ok ha hx) (Or.inl rfl)
theorem PkOK_b {n : Nat} {bed : Int} {f seat : Int → Int} {st : Int × Int × Int} (g : Gd n f) (h : PkOK n bed f seat st) : 0 ≤ st.1 ∧ st.1 ≤ 99 := by
  rcases h with rfl | ⟨a, b, h1, h2, rfl, h4, _⟩
  · exact ⟨Int.le_refl _, by decide⟩
  · have n6 := g.1
    exact Gd_d g (by omega) (by omega) (by omega) (by omega)
/-- seats as they may be: 9, or another person's number -/
def SeatOK (n : Nat) (seat : Int → Int) : Prop := ∀ p : Int, 0 ≤ p → p < 6 → seat p = 9 ∨ (0 ≤ seat p ∧ seat p < n ∧ seat p ≠ p ∧ p < n)
theorem seat2_ok {n : Nat} {bed : Int} {f seat : Int → Int} (h : SeatOK n seat) : SeatOK n (seat2 n bed f seat) := by
  unfold seat2
  by_cases c : 0 < (pick n bed f seat).1
  · rw [if_pos c]
    rcases pick_ok n bed f seat with e | ⟨a, b, h1, h2, e, h4, h5⟩
    · rw [e] at c; exact absurd c (by decide)
    · rw [e]
      intro p p0 p1
      show ud (ud seat (a : Int) (b : Int)) (b : Int) (a : Int) p = 9 ∨ _
      by_cases e1 : p = (b : Int)
      · subst e1
        rw [ud_at]
        exact Or.inr ⟨by omega, by omega, by omega, by omega⟩
      · rw [ud_ne e1]
        by_cases e2 : p = (a : Int)
        · subst e2
          rw [ud_at]
          exact Or.inr ⟨by omega, by omega, by omega, by omega⟩
        · rw [ud_ne e2]
          exact h p p0 p1
  · rw [if_neg c]; exact h
theorem bkR_ok (n : Nat) (bed : Int) (f : Int → Int) : SeatOK n (bkR n bed f) := seat2_ok (seat2_ok (seat2_ok (fun _ _ _ => Or.inl rfl)))
section M
variable {h : Hp} {s : Int} {n : Nat} {f seat : Int → Int}
def SeatAt (h : Hp) (s : Int) (seat : Int → Int) : Prop := ∀ k : Int, 0 ≤ k → k < 6 → h (s + 4) k = seat k
theorem St_isFree_e (A : StA h s n f) (T : SeatAt h s seat) (K : SeatOK n seat) {p bed : Int} (p0 : 0 ≤ p) (p1 : p < 6) (hb : ir bed) : St_isFree h s p bed = some (if p ≠ bed ∧ seat p = 9 then 1 else 0, h) := by
  obtain ⟨i, hn, e, g⟩ := A
  obtain ⟨s0, s1, s2, s3, s4⟩ := IsS_sh i
  have n6 := g.1
  have e9 : w32 (seat p) = seat p := by
    rcases K p p0 p1 with h9 | h9
    · rw [h9]; rfl
    · exact w32_n (by omega) (by omega)
  unfold St_isFree
  rw [w32_n p0 (by omega), ri hb]
  by_cases c : p = bed
  · rw [if_pos c, if_neg (fun q => q.1 c)]
  · rw [if_neg c, cC_s s0 rfl, at_eq s4 (by have := i.1; omega) p0 (by omega) (by decide), cl_s, T p p0 p1, e9]
    by_cases c2 : seat p = 9
    · rw [if_pos c2, if_pos ⟨c, c2⟩]
    · rw [if_neg c2, if_neg (fun q => c2 q.2)]
theorem seat_in (A : StA h s n f) (T : SeatAt h s seat) (K : SeatOK n seat) {bed : Int} (hb : ir bed) {a : Nat} (ha : a < n) (k10 : Hp × Int × Int × Int × Int × Int × Int → Option (Int × Hp)) {st : Int × Int × Int} (P : PkOK n bed f seat st) :
    St_seatTwo_b25 k10 h s bed st.1 st.2.1 st.2.2 (a : Int) ((a : Int) + 1) = k10 (h, s, bed, (pkO n bed f seat a st).1, (pkO n bed f seat a st).2.1, (pkO n bed f seat a st).2.2, (a : Int) + 1) := by
  have A' := A
  obtain ⟨i, hn, e, g⟩ := A
  obtain ⟨s0, s1, s2, s3, s4⟩ := IsS_sh i
  have n6 := g.1
  unfold St_seatTwo_b25
  refine itr_run (fun j : Nat => (h, s, bed, (fo (pkI bed f seat a) j st).1, (fo (pkI bed f seat a) j st).2.1, (fo (pkI bed f seat a) j st).2.2, (a : Int), ((a + 1 + j : Nat) : Int))) (n := n - (a + 1)) ?_ ?_ (FU_gt (by omega))
  · intro j hj k
    have Pj : PkOK n bed f seat (fo (pkI bed f seat a) j st) := fo_inv (PkOK n bed f seat) (fun i x hi hx => pkI_ok ha (by omega) hx) P
    have Pb := PkOK_b g Pj
    show St_seatTwo_b25_body k10 k h s bed (fo (pkI bed f seat a) j st).1 (fo (pkI bed f seat a) j st).2.1 (fo (pkI bed f seat a) j st).2.2 (a : Int) ((a + 1 + j : Nat) : Int) = k (h, s, bed, (pkI bed f seat a j (fo (pkI bed f seat a) j st)).1, (pkI bed f seat a j (fo (pkI bed f seat a) j st)).2.1, (pkI bed f seat a j (fo (pkI bed f seat a) j st)).2.2, (a : Int), ((a + 1 + j : Nat) : Int) + 1)
    generalize fo (pkI bed f seat a) j st = x at Pj Pb
    have Db := Gd_d g (a := (a : Int)) (b := ((a + 1 + j : Nat) : Int)) (by omega) (by omega) (by omega) (by omega)
    unfold St_seatTwo_b25_body pkI
    rw [cC_s s0 rfl, hn, w32_n (x := ((a + 1 + j : Nat) : Int)) (by omega) (by omega), w32_n (x := (n : Int)) (by omega) (by omega), if_pos (by omega), St_owes_e A' (by omega) (by omega) (by omega) (by omega), cl_s, w32_n Pb.1 (by omega), w32_n Db.1 (by omega)]
    by_cases c1 : x.1 < f (6 * (a : Int) + ((a + 1 + j : Nat) : Int))
    · rw [if_pos c1, St_isFree_e A' T K (by omega) (by omega) hb, cl_s]
      by_cases c2 : (a : Int) ≠ bed ∧ seat (a : Int) = 9
      · rw [if_pos c2, if_neg (by decide), St_isFree_e A' T K (by omega) (by omega) hb, cl_s]
        by_cases c3 : ((a + 1 + j : Nat) : Int) ≠ bed ∧ seat ((a + 1 + j : Nat) : Int) = 9
        · rw [if_pos c3, if_neg (by decide), St_owes_e A' (by omega) (by omega) (by omega) (by omega), cl_s, if_pos ⟨c1, c2.1, c2.2, c3.1, c3.2⟩]
        · rw [if_neg c3, if_pos (by decide), if_neg (fun q => c3 ⟨q.2.2.2.1, q.2.2.2.2⟩)]
      · rw [if_neg c2, if_pos (by decide), if_neg (fun q => c2 ⟨q.2.1, q.2.2.1⟩)]
    · rw [if_neg c1, if_neg (fun q => c1 q.1)]
  · intro k
    show St_seatTwo_b25_body k10 k h s bed (fo (pkI bed f seat a) (n - (a + 1)) st).1 (fo (pkI bed f seat a) (n - (a + 1)) st).2.1 (fo (pkI bed f seat a) (n - (a + 1)) st).2.2 (a : Int) ((a + 1 + (n - (a + 1)) : Nat) : Int) = _
    have e2 : a + 1 + (n - (a + 1)) = n := by omega
    unfold St_seatTwo_b25_body
    rw [cC_s s0 rfl, hn, e2, if_neg (by omega)]
    rfl
theorem St_seatTwo_e (A : StA h s n f) (T : SeatAt h s seat) (K : SeatOK n seat) {bed : Int} (hb : ir bed) :
    ∃ h', St_seatTwo h s bed = some (0, h') ∧ Fr (fun x => x = s + 4) h h' ∧ SeatAt h' s (seat2 n bed f seat) := by
  have A' := A
  obtain ⟨i, hn, e, g⟩ := A
  obtain ⟨s0, s1, s2, s3, s4⟩ := IsS_sh i
  have n6 := g.1
  have Pn := pick_ok n bed f seat
  have hi := i.1
  have key : ∀ E, (∀ k, St_seatTwo_b10_body k h s bed (pick n bed f seat).1 (pick n bed f seat).2.1 (pick n bed f seat).2.2 (n : Int) = E) → St_seatTwo h s bed = E := by
    intro E hE
    unfold St_seatTwo St_seatTwo_b10
    refine itr_run (fun a : Nat => (h, s, bed, (fo (pkO n bed f seat) a (0, 0, 0)).1, (fo (pkO n bed f seat) a (0, 0, 0)).2.1, (fo (pkO n bed f seat) a (0, 0, 0)).2.2, (a : Int))) (n := n) ?_ ?_ (FU_gt (by omega))
    · intro a ha k
      have Pa : PkOK n bed f seat (fo (pkO n bed f seat) a (0, 0, 0)) := fo_inv (PkOK n bed f seat) (fun i x hi hx => pkO_ok (by omega) hx) (Or.inl rfl)
      show St_seatTwo_b10_body k h s bed (fo (pkO n bed f seat) a (0, 0, 0)).1 (fo (pkO n bed f seat) a (0, 0, 0)).2.1 (fo (pkO n bed f seat) a (0, 0, 0)).2.2 (a : Int) = k (h, s, bed, (pkO n bed f seat a (fo (pkO n bed f seat) a (0, 0, 0))).1, (pkO n bed f seat a (fo (pkO n bed f seat) a (0, 0, 0))).2.1, (pkO n bed f seat a (fo (pkO n bed f seat) a (0, 0, 0))).2.2, (a : Int) + 1)
      generalize fo (pkO n bed f seat) a (0, 0, 0) = x at Pa
      unfold St_seatTwo_b10_body
      rw [cC_s s0 rfl, hn, w32_n (x := (a : Int)) (by omega) (by omega), w32_n (x := (n : Int)) (by omega) (by omega), if_pos (by omega), bd_s]
      exact seat_in A' T K hb ha k Pa
    · intro k
      exact hE k
  have Pb := PkOK_b g Pn
  by_cases c : 0 < (pick n bed f seat).1
  · rcases Pn with e9 | ⟨a, b, h1, h2, e9, h4, h5⟩
    · rw [e9] at c; exact absurd c (by decide)
    · refine ⟨up (up h (s + 4) (a : Int) (b : Int)) (s + 4) (b : Int) (a : Int), key _ (fun k => ?_), fun x hx => ?_, fun k k0 k1 => ?_⟩
      · unfold St_seatTwo_b10_body
        rw [cC_s s0 rfl, hn, if_neg (by omega), w32_n Pb.1 (by omega), if_pos c, e9]
        show cl (Cc_put h (s + 4) (a : Int) (b : Int)) _ = _
        rw [put_eq s4 (by omega) (by omega) (by omega) (by decide), cl_s]
        show cl (Cc_put _ (s + 4) (b : Int) (a : Int)) _ = _
        rw [put_eq s4 (by omega) (by omega) (by omega) (by decide), cl_s]
      · rw [up_off_row hx, up_off_row hx]
      · rw [up_row, up_row]
        unfold seat2
        rw [if_pos c, e9]
        unfold ud
        dsimp only
        by_cases q1 : k = (b : Int)
        · rw [if_pos q1, if_pos q1]
        · rw [if_neg q1, if_neg q1]
          by_cases q2 : k = (a : Int)
          · rw [if_pos q2, if_pos q2]
          · rw [if_neg q2, if_neg q2]
            exact T k k0 k1
  · refine ⟨h, key _ (fun k => ?_), Fr.rf, ?_⟩
    · unfold St_seatTwo_b10_body
      rw [cC_s s0 rfl, hn, if_neg (by omega), w32_n Pb.1 (by omega), if_neg c]
    · unfold seat2
      rw [if_neg c]
      exact T
theorem StA.fr {h' : Hp} {S : Int → Prop} (A : StA h s n f) (F : Fr S h h') (n0 : ¬ S s) (n1 : ¬ S (s + 1)) (n2 : ¬ S (s + 2)) (n3 : ¬ S (s + 3)) : StA h' s n f := ⟨A.1, by rw [F s n0]; exact A.2.1, by rw [cR_fr F n0 n1 n2 n3]; exact A.2.2.1, A.2.2.2⟩
end M
end PureE
