section PureP
/-! the class's State: owing, cheering, brooding, an evening -/
section R
variable {n : Nat} {f seat : Int → Int}
theorem lay_at (f : Int → Int) (a b v k : Int) : layR f a b v k = if k = 6 * b + a then v else if k = 6 * a + b then v else f k := rfl
theorem lay_hi {a b v k : Int} (a0 : 0 ≤ a) (a1 : a < 6) (b0 : 0 ≤ b) (b1 : b < 6) (hk : 36 ≤ k) : layR f a b v k = f k := by
  rw [lay_at, if_neg (by omega), if_neg (by omega)]
theorem owe_hi {a b m k : Int} (a0 : 0 ≤ a) (a1 : a < 6) (b0 : 0 ≤ b) (b1 : b < 6) (hk : 36 ≤ k) : oweR f a b m k = f k := lay_hi a0 a1 b0 b1 hk
theorem Gd_lay (g : Gd n f) {a b v : Int} (a0 : 0 ≤ a) (a1 : a < 6) (b0 : 0 ≤ b) (b1 : b < 6) (hab : a ≠ b) (v0 : 0 ≤ v) (v1 : v ≤ 99) : Gd n (layR f a b v) := by
  obtain ⟨g1, g2, g3, g4, g5, g6, g7⟩ := g
  refine ⟨g1, fun k k0 k1 => ?_, fun c d c0 c1 d0 d1 => ?_, fun c c0 c1 => ?_, fun p p0 p1 => ?_, ?_, ?_⟩
  · rw [lay_at]
    by_cases e1 : k = 6 * b + a
    · rw [if_pos e1]; exact ⟨v0, v1⟩
    · rw [if_neg e1]
      by_cases e2 : k = 6 * a + b
      · rw [if_pos e2]; exact ⟨v0, v1⟩
      · rw [if_neg e2]; exact g2 k k0 k1
  · rw [lay_at, lay_at]
    by_cases e1 : 6 * c + d = 6 * b + a
    · rw [if_pos e1, if_neg (by omega), if_pos (by omega)]
    · rw [if_neg e1]
      by_cases e2 : 6 * c + d = 6 * a + b
      · rw [if_pos e2, if_pos (by omega)]
      · rw [if_neg e2, if_neg (by omega), if_neg (by omega)]
        exact g3 c d c0 c1 d0 d1
  · rw [lay_at, if_neg (by omega), if_neg (by omega)]
    exact g4 c c0 c1
  · rw [lay_hi a0 a1 b0 b1 (by omega), lay_hi a0 a1 b0 b1 (by omega)]
    exact g5 p p0 p1
  · rw [lay_hi a0 a1 b0 b1 (by omega)]; exact g6
  · rw [lay_hi a0 a1 b0 b1 (by omega)]; exact g7
theorem Gd_owe (g : Gd n f) {a b m : Int} (a0 : 0 ≤ a) (a1 : a < 6) (b0 : 0 ≤ b) (b1 : b < 6) (hab : a ≠ b) (hm : 0 ≤ f (6 * a + b) + m) : Gd n (oweR f a b m) := Gd_lay g a0 a1 b0 b1 hab (by omega) (by omega)
theorem Gd_lon (g : Gd n f) {p v : Int} (p0 : 0 ≤ p) (p1 : p < 6) (v0 : 0 ≤ v) (v1 : v ≤ 9) : Gd n (ud f (36 + 2 * p) v) := by
  obtain ⟨g1, g2, g3, g4, g5, g6, g7⟩ := g
  refine ⟨g1, fun k k0 k1 => ?_, fun c d c0 c1 d0 d1 => ?_, fun c c0 c1 => ?_, fun q q0 q1 => ?_, ?_, ?_⟩
  · rw [ud_ne (by omega)]; exact g2 k k0 k1
  · rw [ud_ne (by omega), ud_ne (by omega)]; exact g3 c d c0 c1 d0 d1
  · rw [ud_ne (by omega)]; exact g4 c c0 c1
  · rw [ud_ne (j := 37 + 2 * q) (by omega)]
    have h5 := g5 q q0 q1
    by_cases e : q = p
    · subst e
      rw [ud_at]
      exact ⟨v0, v1, h5.2.2.1, h5.2.2.2⟩
    · rw [ud_ne (by omega)]; exact h5
  · rw [ud_ne (by omega)]; exact g6
  · rw [ud_ne (by omega)]; exact g7
theorem Gd_hi (g : Gd n f) {k v : Int} (hk : 50 ≤ k) : Gd n (ud f k v) := by
  obtain ⟨g1, g2, g3, g4, g5, g6, g7⟩ := g
  refine ⟨g1, fun k k0 k1 => ?_, fun c d c0 c1 d0 d1 => ?_, fun c c0 c1 => ?_, fun q q0 q1 => ?_, ?_, ?_⟩
  · rw [ud_ne (by omega)]; exact g2 k k0 k1
  · rw [ud_ne (by omega), ud_ne (by omega)]; exact g3 c d c0 c1 d0 d1
  · rw [ud_ne (by omega)]; exact g4 c c0 c1
  · rw [ud_ne (by omega), ud_ne (by omega)]; exact g5 q q0 q1
  · rw [ud_ne (by omega)]; exact g6
  · rw [ud_ne (by omega)]; exact g7
/-- seats are a matching of such as owe -/
def SeatP (f seat : Int → Int) : Prop := ∀ p : Int, 0 ≤ p → p < 6 → seat p ≠ 9 → seat (seat p) = p ∧ 0 < f (6 * p + seat p)
theorem seat2_P {bed : Int} (g : Gd n f) (K : SeatOK n seat) (h : SeatP f seat) : SeatP f (seat2 n bed f seat) := by
  unfold seat2
  by_cases c : 0 < (pick n bed f seat).1
  · rw [if_pos c]
    rcases pick_ok n bed f seat with e | ⟨a, b, h1, h2, e, h4, h5, h6, -⟩
    · rw [e] at c; exact absurd c (by decide)
    · rw [e] at h4 ⊢
      have n6 := g.1
      have h4' : 0 < f (6 * (a : Int) + (b : Int)) := h4
      have hs := g.2.2.1 (a : Int) (b : Int) (by omega) (by omega) (by omega) (by omega)
      show SeatP f (ud (ud seat (a : Int) (b : Int)) (b : Int) (a : Int))
      intro p p0 p1 hp
      by_cases e1 : p = (b : Int)
      · subst e1
        rw [ud_at, ud_ne (by omega), ud_at]
        exact ⟨rfl, by omega⟩
      · rw [ud_ne e1] at hp ⊢
        by_cases e2 : p = (a : Int)
        · subst e2
          rw [ud_at, ud_at]
          exact ⟨rfl, h4'⟩
        · rw [ud_ne e2] at hp ⊢
          obtain ⟨q1, q2⟩ := h p p0 p1 hp
          have q3 : seat p ≠ (b : Int) := fun q => by rw [q] at q1; omega
          have q4 : seat p ≠ (a : Int) := fun q => by rw [q] at q1; omega
          rw [ud_ne q3, ud_ne q4]
          exact ⟨q1, q2⟩
  · rw [if_neg c]; exact h
theorem bkR_P (g : Gd n f) (bed : Int) : SeatP f (bkR n bed f) := seat2_P g (seat2_ok (seat2_ok (fun _ _ _ => Or.inl rfl))) (seat2_P g (seat2_ok (fun _ _ _ => Or.inl rfl)) (seat2_P g (fun _ _ _ => Or.inl rfl) (fun _ _ _ hp => absurd rfl hp)))
/-- one who sits -/
def sitS (seat : Int → Int) (p : Nat) (f : Int → Int) : Int → Int := if seat p = 9 then f else if (p : Int) < seat p then oweR (ud f (36 + 2 * (p : Int)) (max 0 (f (36 + 2 * (p : Int)) - 1))) p (seat p) (-1) else ud f (36 + 2 * (p : Int)) (max 0 (f (36 + 2 * (p : Int)) - 1))
def cntS (seat : Int → Int) (p : Nat) (c : Int) : Int := if seat p = 9 then c else c + 1
def SitOK (n : Nat) (seat : Int → Int) (i : Nat) (f : Int → Int) : Prop := Gd n f ∧ ∀ q : Int, (i : Int) ≤ q → q < n → seat q ≠ 9 → q < seat q → 0 < f (6 * q + seat q)
theorem sit_ok (K : SeatOK n seat) {i : Nat} (hi : i < n) (h : SitOK n seat i f) : SitOK n seat (i + 1) (sitS seat i f) := by
  obtain ⟨g, h⟩ := h
  have n6 := g.1
  unfold sitS
  by_cases c : seat i = 9
  · rw [if_pos c]
    exact ⟨g, fun q q0 q1 q2 q3 => h q (by omega) q1 q2 q3⟩
  · rw [if_neg c]
    have hl := Gd_l g (p := (i : Int)) (by omega) (by omega)
    have g1 : Gd n (ud f (36 + 2 * (i : Int)) (max 0 (f (36 + 2 * (i : Int)) - 1))) := Gd_lon g (by omega) (by omega) (by omega) (by omega)
    rcases K (i : Int) (by omega) (by omega) with c' | ⟨k1, k2, k3, k4⟩
    · exact absurd c' c
    by_cases c2 : (i : Int) < seat i
    · rw [if_pos c2]
      have hp := h (i : Int) (Int.le_refl _) (by omega) c c2
      refine ⟨Gd_owe g1 (by omega) (by omega) (by omega) (by omega) (by omega) (by rw [ud_ne (by omega)]; omega), fun q q0 q1 q2 q3 => ?_⟩
      rcases K q (by omega) (by omega) with c'' | ⟨l1, l2, l3, l4⟩
      · exact absurd c'' q2
      unfold oweR
      rw [lay_at, if_neg (by omega), if_neg (by omega), ud_ne (by omega)]
      exact h q (by omega) q1 q2 q3
    · rw [if_neg c2]
      refine ⟨g1, fun q q0 q1 q2 q3 => ?_⟩
      rcases K q (by omega) (by omega) with c'' | ⟨l1, l2, l3, l4⟩
      · exact absurd c'' q2
      rw [ud_ne (by omega)]
      exact h q (by omega) q1 q2 q3
theorem sit_all (K : SeatOK n seat) (h : SitOK n seat 0 f) : ∀ i, i ≤ n → SitOK n seat i (fo (sitS seat) i f)
  | 0, _ => h
  | i + 1, hi => sit_ok K (by omega) (sit_all K h i (by omega))
/-- one who broods: all owe him one more when he breaks a window -/
def adS (p : Int) (q : Nat) (f : Int → Int) : Int → Int := if (q : Int) = p then f else oweR f p q 1
def brS (n : Nat) (p : Nat) (st : (Int → Int) × Int) : (Int → Int) × Int :=
  if st.1 (36 + 2 * (p : Int)) < 9 then (ud st.1 (36 + 2 * (p : Int)) (st.1 (36 + 2 * (p : Int)) + 1), st.2) else (fo (adS p) n (ud (ud st.1 (36 + 2 * (p : Int)) 5) 50 (st.1 50 + 1)), ior st.2 (ishl 1 (p : Int)))
def brT (n : Nat) (seat : Int → Int) (p : Nat) (st : (Int → Int) × Int) : (Int → Int) × Int := if seat p = 9 then brS n p st else st
theorem Gd_ad {p : Int} (p0 : 0 ≤ p) (p1 : p < 6) {q : Nat} (hq : q < n) (g : Gd n f) : Gd n (adS p q f) := by
  have n6 := g.1
  unfold adS
  by_cases c : (q : Int) = p
  · rw [if_pos c]; exact g
  · rw [if_neg c]
    have := Gd_d g (a := p) (b := (q : Int)) p0 p1 (by omega) (by omega)
    exact Gd_owe g p0 p1 (by omega) (by omega) (by omega) (by omega)
theorem Gd_br {p : Nat} (hp : p < n) {st : (Int → Int) × Int} (g : Gd n st.1) : Gd n (brS n p st).1 := by
  have n6 := g.1
  have hl := Gd_l g (p := (p : Int)) (by omega) (by omega)
  unfold brS
  by_cases c : st.1 (36 + 2 * (p : Int)) < 9
  · rw [if_pos c]
    exact Gd_lon g (by omega) (by omega) (by omega) (by omega)
  · rw [if_neg c]
    exact fo_inv (Gd n) (fun q x hq hx => Gd_ad (by omega) (by omega) hq hx) (Gd_hi (Gd_lon g (by omega) (by omega) (by omega) (by omega)) (by omega))
theorem Gd_bt {p : Nat} (hp : p < n) {st : (Int → Int) × Int} (g : Gd n st.1) : Gd n (brT n seat p st).1 := by
  unfold brT
  by_cases c : seat p = 9
  · rw [if_pos c]; exact Gd_br hp g
  · rw [if_neg c]; exact g
/-- an evening: the row and the bits of the windows -/
def sitA (n : Nat) (bed : Int) (f : Int → Int) : Int → Int := fo (sitS (bkR n bed f)) n (ud f 51 (f 51 + 1))
def psR (n : Nat) (bed : Int) (f : Int → Int) : (Int → Int) × Int := fo (brT n (bkR n bed f)) n (sitA n bed f, 0)
def psC (n : Nat) (bed : Int) (f : Int → Int) : Int := fo (cntS (bkR n bed f)) n 0
theorem SitOK_0 (g : Gd n f) (bed : Int) : SitOK n (bkR n bed f) 0 (ud f 51 (f 51 + 1)) := by
  have n6 := g.1
  refine ⟨Gd_hi g (by decide), fun q q0 q1 q2 q3 => ?_⟩
  rcases bkR_ok n bed f q (by omega) (by omega) with c | ⟨l1, l2, l3, l4⟩
  · exact absurd c q2
  rw [ud_ne (by omega)]
  exact (bkR_P g bed q (by omega) (by omega) q2).2
theorem Gd_sitA (g : Gd n f) (bed : Int) : Gd n (sitA n bed f) := (sit_all (bkR_ok n bed f) (SitOK_0 g bed) n (Nat.le_refl n)).1
theorem Gd_ps (g : Gd n f) (bed : Int) : Gd n (psR n bed f).1 := fo_inv (fun st : (Int → Int) × Int => Gd n st.1) (fun p x hp hx => Gd_bt hp hx) (Gd_sitA g bed)
end R
section M
variable {h : Hp} {s : Int} {n : Nat} {f seat : Int → Int}
theorem St_owe_e (A : StA h s n f) {a b m : Int} (a0 : 0 ≤ a) (a1 : a < 6) (b0 : 0 ≤ b) (b1 : b < 6) (m0 : -99 ≤ m) (m1 : m ≤ 10000000) : ∃ h', St_owe h s a b m = some (0, h') ∧ Fr (fun x => x = s + 1) h h' ∧ cR h' s = oweR f a b m := by
  have A' := A
  obtain ⟨i, hn, e, g⟩ := A
  obtain ⟨s0, s1, s2, s3, s4⟩ := IsS_sh i
  have hi := i.1
  have Db := Gd_d g a0 a1 b0 b1
  refine ⟨up (up h (s + 1) (6 * a + b) (min 99 (f (6 * a + b) + m))) (s + 1) (6 * b + a) (min 99 (f (6 * a + b) + m)), ?_, fun x hx => by rw [up_off_row hx, up_off_row hx], ?_⟩
  · unfold St_owe
    rw [cC_s s0 rfl, St_owes_e A' a0 a1 b0 b1, cl_s, bd_s, w32_id (x := f (6 * a + b) + m) (by omega) (by omega)]
    have ev : (if f (6 * a + b) + m < 99 then f (6 * a + b) + m else 99) = min 99 (f (6 * a + b) + m) := by
      by_cases c : f (6 * a + b) + m < 99
      · rw [if_pos c]; omega
      · rw [if_neg c]; omega
    rw [ev, Int.mul_comm a 6, Int.mul_comm b 6, put_eq s1 (by omega) (by omega) (by omega) (by decide), cl_s, put_eq s1 (by omega) (by omega) (by omega) (by decide), cl_s]
  · rw [cR_ud (by omega) (by omega), cR_ud (by omega) (by omega), e]
    rfl
theorem St_cheer_e (A : StA h s n f) {p m : Int} (p0 : 0 ≤ p) (p1 : p < n) (m0 : 0 ≤ m) (m1 : m ≤ 9) : ∃ h', St_cheer h s p m = some (0, h') ∧ Fr (fun x => x = s + 2) h h' ∧ cR h' s = ud f (36 + 2 * p) (max 0 (f (36 + 2 * p) - m)) := by
  have A' := A
  obtain ⟨i, hn, e, g⟩ := A
  obtain ⟨s0, s1, s2, s3, s4⟩ := IsS_sh i
  have hi := i.1
  have n6 := g.1
  have Lb := Gd_l g p0 (by omega)
  refine ⟨up h (s + 2) p (max 0 (f (36 + 2 * p) - m)), ?_, Fr.up rfl, ?_⟩
  · unfold St_cheer
    rw [cC_s s0 rfl, St_lonelyOf_e A' p0 p1, cl_s, w32_id (x := f (36 + 2 * p) - m) (by omega) (by omega)]
    have ev : (if 0 < f (36 + 2 * p) - m then f (36 + 2 * p) - m else 0) = max 0 (f (36 + 2 * p) - m) := by
      by_cases c : 0 < f (36 + 2 * p) - m
      · rw [if_pos c]; omega
      · rw [if_neg c]; omega
    rw [ev, put_eq s2 (by omega) p0 (by omega) (by decide), cl_s]
  · rw [cR_ul p0 (by omega) (by omega), e]
theorem StA.of {h' : Hp} {f' : Int → Int} (A : StA h s n f) (h4 : h' s 4 = h s 4) (e : cR h' s = f') (g : Gd n f') : StA h' s n f' := ⟨A.1, by rw [h4]; exact A.2.1, e, g⟩
theorem St_brood_e (A : StA h s n f) {p : Nat} (hp : p < n) : ∃ h', St_brood h s p = some (0, h') ∧ Fr (fun x => x = s ∨ x = s + 1 ∨ x = s + 2) h h' ∧ StA h' s n (brS n p (f, h s 10)).1 ∧ h' s 10 = (brS n p (f, h s 10)).2 ∧ h' s 9 = h s 9 ∧ h' s 4 = h s 4 := by
  have A' := A
  obtain ⟨i, hn, e, g⟩ := A
  obtain ⟨s0, s1, s2, s3, s4⟩ := IsS_sh i
  have hi := i.1
  have n6 := g.1
  have Lb := Gd_l g (p := (p : Int)) (by omega) (by omega)
  have Gb := Gd_br hp (st := (f, h s 10)) g
  unfold St_brood
  rw [cC_s s0 rfl, St_lonelyOf_e A' (by omega) (by omega), cl_s, w32_n Lb.1 (by omega)]
  unfold brS at Gb ⊢
  by_cases c : f (36 + 2 * (p : Int)) < 9
  · have c' : (f, h s 10).1 (36 + 2 * (p : Int)) < 9 := c
    rw [if_pos c'] at Gb ⊢
    rw [if_pos c, St_lonelyOf_e A' (by omega) (by omega), cl_s, put_eq s2 (by omega) (by omega) (by omega) (by decide), cl_s]
    refine ⟨_, rfl, fun x hx => up_off_row (fun q => hx (Or.inr (Or.inr q))), A'.of (up_ne (by omega) _) ?_ Gb, up_ne (by omega) _, up_ne (by omega) _, up_ne (by omega) _⟩
    rw [cR_ul (by omega) (by omega) (by omega), e]
  · have c' : ¬ (f, h s 10).1 (36 + 2 * (p : Int)) < 9 := c
    rw [if_neg c'] at Gb ⊢
    rw [if_neg c, put_eq s2 (by omega) (by omega) (by omega) (by decide), cl_s, pu_s, pu_s]
    generalize hh : up (up (up h (s + 2) (p : Int) 5) s 7 (up h (s + 2) (p : Int) 5 s 7 + 1)) s 10 (ior (up (up h (s + 2) (p : Int) 5) s 7 (up h (s + 2) (p : Int) 5 s 7 + 1) s 10) (ishl 1 (p : Int))) = h1
    have r7 : up h (s + 2) (p : Int) 5 s 7 = f 50 := by rw [up_ne (by omega), ← e]; rfl
    have r10 : up (up h (s + 2) (p : Int) 5) s 7 (up h (s + 2) (p : Int) 5 s 7 + 1) s 10 = h s 10 := by rw [up_off (by decide), up_ne (by omega)]
    rw [r10, r7] at hh
    have F1 : Fr (fun x => x = s ∨ x = s + 1 ∨ x = s + 2) h h1 := fun x hx => by
      rw [← hh, up_off_row (fun q => hx (Or.inl q)), up_off_row (fun q => hx (Or.inl q)), up_off_row (fun q => hx (Or.inr (Or.inr q)))]
    have f4 : h1 s 4 = h s 4 := by rw [← hh, up_off (by decide), up_off (by decide), up_ne (by omega)]
    have f9 : h1 s 9 = h s 9 := by rw [← hh, up_off (by decide), up_off (by decide), up_ne (by omega)]
    have f10 : h1 s 10 = ior (h s 10) (ishl 1 (p : Int)) := by rw [← hh, up_at]
    have g1 : Gd n (ud (ud f (36 + 2 * (p : Int)) 5) 50 (f 50 + 1)) := Gd_hi (Gd_lon g (by omega) (by omega) (by omega) (by omega)) (by omega)
    have A1 : StA h1 s n (ud (ud f (36 + 2 * (p : Int)) 5) 50 (f 50 + 1)) := A'.of f4 (by
      rw [← hh, cR_ux (Or.inr rfl), cR_uf (Or.inr (Or.inr (Or.inl rfl))), cR_ul (by omega) (by omega) (by omega), e]
      rfl) g1
    have W : wp (St_brood_b59 h1 s (p : Int) 0) (fun r h' => r = 0 ∧ Fr (fun x => x = s + 1) h1 h' ∧ StA h' s n (fo (adS (p : Int)) n (ud (ud f (36 + 2 * (p : Int)) 5) 50 (f 50 + 1)))) := by
      unfold St_brood_b59
      refine itr_wp (fun q σ => ∃ h2, σ = (h2, s, (p : Int), (q : Int)) ∧ Fr (fun x => x = s + 1) h1 h2 ∧ StA h2 s n (fo (adS (p : Int)) q (ud (ud f (36 + 2 * (p : Int)) 5) 50 (f 50 + 1)))) n ?_ ?_ (FU_gt (by omega)) ⟨h1, rfl, Fr.rf, A1⟩
      · rintro q σ k hq ⟨h2, rfl, F2, A2⟩ K
        show wp (St_brood_b59_body k h2 s (p : Int) (q : Int)) _
        unfold St_brood_b59_body
        rw [cC_s s0 rfl, A2.2.1, w32_n (x := (q : Int)) (by omega) (by omega), w32_n (x := (n : Int)) (by omega) (by omega), if_pos (by omega), w32_n (x := (p : Int)) (by omega) (by omega)]
        by_cases c2 : (q : Int) = (p : Int)
        · rw [if_pos c2]
          refine K _ ⟨h2, rfl, F2, ?_⟩
          show StA h2 s n (adS (p : Int) q _)
          unfold adS
          rw [if_pos c2]
          exact A2
        · rw [if_neg c2]
          obtain ⟨h3, e3, F3, c3⟩ := St_owe_e A2 (a := (p : Int)) (b := (q : Int)) (m := 1) (by omega) (by omega) (by omega) (by omega) (by decide) (by decide)
          rw [e3, cl_s]
          refine K _ ⟨h3, rfl, F2.tr F3, A2.of (by rw [F3 s (by omega)]) ?_ ?_⟩
          · show _ = adS (p : Int) q _
            unfold adS
            rw [if_neg c2]
            exact c3
          · show Gd n (adS (p : Int) q _)
            exact Gd_ad (by omega) (by omega) hq A2.2.2.2
      · rintro σ k ⟨h2, rfl, F2, A2⟩
        show wp (St_brood_b59_body k h2 s (p : Int) (n : Int)) _
        unfold St_brood_b59_body
        rw [cC_s s0 rfl, A2.2.1, if_neg (Int.lt_irrefl _)]
        exact wp_i ⟨rfl, F2, A2⟩
    obtain ⟨r, h2, e2, rfl, F2, A2⟩ := W
    have e0 := F2 s (by omega)
    exact ⟨h2, e2, F1.tr (F2.w (fun x hx => Or.inr (Or.inl hx))), A2, by rw [e0, f10], by rw [e0, f9], by rw [e0, f4]⟩
theorem St_book_e (A : StA h s n f) {bed : Int} (hb : ir bed) :
    ∃ h', St_book h s bed = some (0, h') ∧ Fr (fun x => x = s + 4) h h' ∧ SeatAt h' s (bkR n bed f) := by
  obtain ⟨s0, s1, s2, s3, s4⟩ := IsS_sh A.1
  have hi := A.1.1
  have W : wp (St_book h s bed) (fun r h' => r = 0 ∧ Fr (fun x => x = s + 4) h h' ∧ SeatAt h' s (bkR n bed f)) := by
    unfold St_book St_book_b2
    refine itr_wp (fun i σ => ∃ h2, σ = (h2, s, bed, (i : Int)) ∧ Fr (fun x => x = s + 4) h h2 ∧ ∀ k : Int, 0 ≤ k → k < i → h2 (s + 4) k = 9) 6 ?_ ?_ (FU_gt (by decide)) ⟨h, rfl, Fr.rf, fun k k0 k1 => absurd k1 (by omega)⟩
    · rintro i σ k hi6 ⟨h2, rfl, F2, T2⟩ K
      show wp (St_book_b2_body k h2 s bed (i : Int)) _
      unfold St_book_b2_body
      rw [w32_n (x := (i : Int)) (by omega) (by omega), if_pos (by omega), cC_s s0 rfl, put_eq s4 (by omega) (by omega) (by omega) (by decide), cl_s]
      refine K _ ⟨_, rfl, F2.tr (Fr.up rfl), fun k k0 k1 => ?_⟩
      rw [up_row]
      by_cases c : k = (i : Int)
      · rw [c, ud_at]
      · rw [ud_ne c]; exact T2 k k0 (by omega)
    · rintro σ k ⟨h2, rfl, F2, T2⟩
      show wp (St_book_b2_body k h2 s bed ((6 : Nat) : Int)) _
      unfold St_book_b2_body
      rw [if_neg (by decide)]
      unfold St_book_b26
      refine itr_wp (fun i σ => ∃ h3, σ = (h3, s, bed, (i : Int)) ∧ Fr (fun x => x = s + 4) h h3 ∧ SeatAt h3 s (fo (fun _ t => seat2 n bed f t) i (fun _ => 9)) ∧ SeatOK n (fo (fun _ t => seat2 n bed f t) i (fun _ => 9))) 3 ?_ ?_ (FU_gt (by decide)) ⟨h2, rfl, F2, fun k k0 k1 => T2 k k0 (by omega), fun _ _ _ => Or.inl rfl⟩
      · rintro i σ k hi3 ⟨h3, rfl, F3, T3, K3⟩ K
        show wp (St_book_b26_body k h3 s bed (i : Int)) _
        unfold St_book_b26_body
        obtain ⟨h4, e4, F4, T4⟩ := St_seatTwo_e (A.fr F3 (by omega) (by omega) (by omega) (by omega)) T3 K3 hb
        rw [w32_n (x := (i : Int)) (by omega) (by omega), if_pos (by omega), cC_s s0 rfl, e4, cl_s]
        exact K _ ⟨h4, rfl, F3.tr F4, T4, seat2_ok K3⟩
      · rintro σ k ⟨h3, rfl, F3, T3, K3⟩
        show wp (St_book_b26_body k h3 s bed ((3 : Nat) : Int)) _
        unfold St_book_b26_body
        rw [if_neg (by decide)]
        exact wp_i ⟨rfl, F3, T3⟩
  obtain ⟨r, h', e, rfl, F, T⟩ := W
  exact ⟨h', e, F, T⟩
def InS (s x : Int) : Prop := x = s ∨ x = s + 1 ∨ x = s + 2 ∨ x = s + 3 ∨ x = s + 4
theorem St_pass_e (A : StA h s n f) {bed : Int} (hb : ir bed) :
    ∃ h', St_pass h s bed = some (0, h') ∧ Fr (InS s) h h' ∧ StA h' s n (psR n bed f).1 ∧ SeatAt h' s (bkR n bed f) ∧ h' s 9 = psC n bed f ∧ h' s 10 = (psR n bed f).2 := by
  obtain ⟨s0, s1, s2, s3, s4⟩ := IsS_sh A.1
  have hi := A.1.1
  have n6 := A.2.2.2.1
  have KS := bkR_ok n bed f
  obtain ⟨h1, e1, F1, T1⟩ := St_book_e A hb
  have A1 := A.fr F1 (by omega) (by omega) (by omega) (by omega)
  have W : wp (St_pass h s bed) (fun r h' => r = 0 ∧ Fr (InS s) h h' ∧ StA h' s n (psR n bed f).1 ∧ SeatAt h' s (bkR n bed f) ∧ h' s 9 = psC n bed f ∧ h' s 10 = (psR n bed f).2) := by
    unfold St_pass
    rw [cC_s s0 rfl, e1, cl_s, pu_s, pu_s, pu_s]
    generalize hh : up (up (up h1 s 8 (h1 s 8 + 1)) s 9 0) s 10 0 = h2
    have F2 : Fr (InS s) h h2 := (F1.w (fun x hx => Or.inr (Or.inr (Or.inr (Or.inr hx))))).tr (fun x hx => by
      rw [← hh, up_off_row (fun q => hx (Or.inl q)), up_off_row (fun q => hx (Or.inl q)), up_off_row (fun q => hx (Or.inl q))])
    have A2 : StA h2 s n (ud f 51 (f 51 + 1)) := A1.of (by rw [← hh, up_off (by decide), up_off (by decide), up_off (by decide)]) (by
      rw [← hh, cR_ux (Or.inr rfl), cR_ux (Or.inl rfl), cR_uf (Or.inr (Or.inr (Or.inr rfl))), A1.2.2.1]
      have : h1 s 8 = f 51 := by rw [← A1.2.2.1]; rfl
      rw [this]
      rfl) (Gd_hi A.2.2.2 (by decide))
    have T2 : SeatAt h2 s (bkR n bed f) := fun k k0 k1 => by
      rw [← hh, up_ne (by omega), up_ne (by omega), up_ne (by omega)]
      exact T1 k k0 k1
    have z9 : h2 s 9 = 0 := by rw [← hh, up_off (by decide), up_at]
    have z10 : h2 s 10 = 0 := by rw [← hh, up_at]
    have KA := sit_all KS (SitOK_0 A.2.2.2 bed)
    unfold St_pass_b27
    refine itr_wp (fun i σ => ∃ h3, σ = (h3, s, (i : Int)) ∧ Fr (InS s) h h3 ∧ StA h3 s n (fo (sitS (bkR n bed f)) i (ud f 51 (f 51 + 1))) ∧ SeatAt h3 s (bkR n bed f) ∧ h3 s 9 = fo (cntS (bkR n bed f)) i 0 ∧ h3 s 10 = 0) n ?_ ?_ (FU_gt (by omega)) ⟨h2, rfl, F2, A2, T2, z9, z10⟩
    · rintro i σ k hin ⟨h3, rfl, F3, A3, T3, c3, b3⟩ K
      have Gn := (KA (i + 1) (by omega)).1
      have Hi := (KA i (by omega)).2
      show wp (St_pass_b27_body k h3 s (i : Int)) _
      unfold St_pass_b27_body
      rw [cC_s s0 rfl, A3.2.1, w32_n (x := (i : Int)) (by omega) (by omega), w32_n (x := (n : Int)) (by omega) (by omega), if_pos (by omega), at_eq s4 (by omega) (by omega) (by omega) (by decide), cl_s, T3 (i : Int) (by omega) (by omega)]
      have Ks := KS (i : Int) (by omega) (by omega)
      have ws : w32 (bkR n bed f (i : Int)) = bkR n bed f (i : Int) := by
        rcases Ks with q | q
        · rw [q]; rfl
        · exact w32_n (by omega) (by omega)
      rw [ws]
      by_cases c : bkR n bed f (i : Int) = 9
      · rw [if_pos c]
        refine K _ ⟨h3, rfl, F3, ?_, T3, ?_, b3⟩
        · show StA h3 s n (sitS (bkR n bed f) i _)
          unfold sitS
          rw [if_pos c]
          exact A3
        · show _ = cntS (bkR n bed f) i _
          unfold cntS
          rw [if_pos c]
          exact c3
      · rw [if_neg c, pu_s]
        have Ks' := Ks.resolve_left c
        generalize hh4 : up h3 s 9 (h3 s 9 + 1) = h4
        have A4 : StA h4 s n (fo (sitS (bkR n bed f)) i (ud f 51 (f 51 + 1))) := A3.of (by rw [← hh4, up_off (by decide)]) (by rw [← hh4, cR_ux (Or.inl rfl)]; exact A3.2.2.1) A3.2.2.2
        have F4 : Fr (InS s) h h4 := F3.tr (by rw [← hh4]; exact Fr.up (Or.inl rfl))
        obtain ⟨h5, e5, F5, c5⟩ := St_cheer_e A4 (p := (i : Int)) (m := 1) (by omega) (by omega) (by decide) (by decide)
        have Lb := Gd_l A3.2.2.2 (p := (i : Int)) (by omega) (by omega)
        have A5 : StA h5 s n (ud (fo (sitS (bkR n bed f)) i (ud f 51 (f 51 + 1))) (36 + 2 * (i : Int)) (max 0 (fo (sitS (bkR n bed f)) i (ud f 51 (f 51 + 1)) (36 + 2 * (i : Int)) - 1))) := A4.of (by rw [F5 s (by omega)]) c5 (Gd_lon A3.2.2.2 (by omega) (by omega) (by omega) (by omega))
        have F5' : Fr (InS s) h h5 := F4.tr (F5.w (fun x hx => Or.inr (Or.inr (Or.inl hx))))
        have T5 : SeatAt h5 s (bkR n bed f) := fun k k0 k1 => by
          rw [F5 (s + 4) (by omega), ← hh4, up_ne (by omega)]
          exact T3 k k0 k1
        have n5 : h5 s 9 = fo (cntS (bkR n bed f)) (i + 1) 0 := by
          rw [F5 s (by omega), ← hh4, up_at, c3]
          show _ = cntS (bkR n bed f) i _
          unfold cntS
          rw [if_neg c]
        have m5 : h5 s 10 = 0 := by rw [F5 s (by omega), ← hh4, up_off (by decide), b3]
        rw [e5, cl_s]
        by_cases c2 : (i : Int) < bkR n bed f (i : Int)
        · rw [if_pos c2]
          obtain ⟨h6, e6, F6, c6⟩ := St_owe_e A5 (a := (i : Int)) (b := bkR n bed f (i : Int)) (m := -1) (by omega) (by omega) (by omega) (by omega) (by decide) (by decide)
          rw [e6, cl_s]
          have es : sitS (bkR n bed f) i (fo (sitS (bkR n bed f)) i (ud f 51 (f 51 + 1))) = oweR (ud (fo (sitS (bkR n bed f)) i (ud f 51 (f 51 + 1))) (36 + 2 * (i : Int)) (max 0 (fo (sitS (bkR n bed f)) i (ud f 51 (f 51 + 1)) (36 + 2 * (i : Int)) - 1))) (i : Int) (bkR n bed f (i : Int)) (-1) := by
            unfold sitS
            rw [if_neg c, if_pos c2]
          refine K _ ⟨h6, rfl, F5'.tr (F6.w (fun x hx => Or.inr (Or.inl hx))), A5.of (by rw [F6 s (by omega)]) (by rw [c6]; exact es.symm) Gn, fun k k0 k1 => by rw [F6 (s + 4) (by omega)]; exact T5 k k0 k1, by rw [F6 s (by omega)]; exact n5, by rw [F6 s (by omega)]; exact m5⟩
        · rw [if_neg c2]
          have es : sitS (bkR n bed f) i (fo (sitS (bkR n bed f)) i (ud f 51 (f 51 + 1))) = ud (fo (sitS (bkR n bed f)) i (ud f 51 (f 51 + 1))) (36 + 2 * (i : Int)) (max 0 (fo (sitS (bkR n bed f)) i (ud f 51 (f 51 + 1)) (36 + 2 * (i : Int)) - 1)) := by
            unfold sitS
            rw [if_neg c, if_neg c2]
          refine K _ ⟨h5, rfl, F5', ?_, T5, n5, m5⟩
          show StA h5 s n (sitS (bkR n bed f) i _)
          rw [es]
          exact A5
    · rintro σ k ⟨h3, rfl, F3, A3, T3, c3, b3⟩
      show wp (St_pass_b27_body k h3 s (n : Int)) _
      unfold St_pass_b27_body
      rw [cC_s s0 rfl, A3.2.1, if_neg (Int.lt_irrefl _)]
      unfold St_pass_b86
      refine itr_wp (fun i σ => ∃ h4, σ = (h4, s, (i : Int)) ∧ Fr (InS s) h h4 ∧ StA h4 s n (fo (brT n (bkR n bed f)) i (sitA n bed f, 0)).1 ∧ SeatAt h4 s (bkR n bed f) ∧ h4 s 9 = psC n bed f ∧ h4 s 10 = (fo (brT n (bkR n bed f)) i (sitA n bed f, 0)).2) n ?_ ?_ (FU_gt (by omega)) ⟨h3, rfl, F3, A3, T3, c3, b3⟩
      · rintro i σ k hin ⟨h4, rfl, F4, A4, T4, c4, b4⟩ K
        show wp (St_pass_b86_body k h4 s (i : Int)) _
        unfold St_pass_b86_body
        rw [cC_s s0 rfl, A4.2.1, w32_n (x := (i : Int)) (by omega) (by omega), w32_n (x := (n : Int)) (by omega) (by omega), if_pos (by omega), at_eq s4 (by omega) (by omega) (by omega) (by decide), cl_s, T4 (i : Int) (by omega) (by omega)]
        have ws : w32 (bkR n bed f (i : Int)) = bkR n bed f (i : Int) := by
          rcases KS (i : Int) (by omega) (by omega) with q | q
          · rw [q]; rfl
          · exact w32_n (by omega) (by omega)
        rw [ws]
        by_cases c : bkR n bed f (i : Int) = 9
        · rw [if_pos c]
          obtain ⟨h5, e5, F5, A5, b5, c5, d5⟩ := St_brood_e A4 hin
          rw [e5, cl_s]
          have eb : brT n (bkR n bed f) i (fo (brT n (bkR n bed f)) i (sitA n bed f, 0)) = brS n i (fo (brT n (bkR n bed f)) i (sitA n bed f, 0)) := if_pos c
          rw [b4] at A5 b5
          refine K _ ⟨h5, rfl, F4.tr (F5.w (fun x hx => ?_)), ?_, fun k k0 k1 => by rw [F5 (s + 4) (by omega)]; exact T4 k k0 k1, by rw [c5]; exact c4, ?_⟩
          · rcases hx with q | q | q
            · exact Or.inl q
            · exact Or.inr (Or.inl q)
            · exact Or.inr (Or.inr (Or.inl q))
          · show StA h5 s n (brT n (bkR n bed f) i _).1
            rw [eb]
            exact A5
          · show h5 s 10 = (brT n (bkR n bed f) i _).2
            rw [eb]
            exact b5
        · rw [if_neg c]
          have eb : brT n (bkR n bed f) i (fo (brT n (bkR n bed f)) i (sitA n bed f, 0)) = fo (brT n (bkR n bed f)) i (sitA n bed f, 0) := if_neg c
          refine K _ ⟨h4, rfl, F4, ?_, T4, c4, ?_⟩
          · show StA h4 s n (brT n (bkR n bed f) i _).1
            rw [eb]
            exact A4
          · show h4 s 10 = (brT n (bkR n bed f) i _).2
            rw [eb]
            exact b4
      · rintro σ k ⟨h4, rfl, F4, A4, T4, c4, b4⟩
        show wp (St_pass_b86_body k h4 s (n : Int)) _
        unfold St_pass_b86_body
        rw [cC_s s0 rfl, A4.2.1, if_neg (Int.lt_irrefl _)]
        exact wp_i ⟨rfl, F4, A4, T4, c4, b4⟩
  obtain ⟨r, h', e, rfl, q⟩ := W
  exact ⟨h', e, q⟩
end M
end PureP
