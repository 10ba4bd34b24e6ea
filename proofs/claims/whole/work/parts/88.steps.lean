section PureSteps
/-! A SESSION'S STEPS: what one may be, what it makes of a row; the class's side -/
def okS (n W : Nat) (f : Int → Int) (t a b : Int) : Prop := (t = 0 ∧ isWr W a ∧ ¬ w32 (iand (ishr (f 48) a) 1) = 1) ∨ (t = 1 ∧ f 51 < 999) ∨ (t = 2 ∧ isT n a b ∧ 2 ≤ f (6 * a + b) ∧ 2 ≤ f 49) ∨ (t = 3 ∧ isT n a b ∧ 1 ≤ f (6 * a + b) ∧ 4 ≤ f 49)
def stS (n W : Nat) (ru pd wd f : Int → Int) (ly : Nat → Pw) (k t a b : Int) : Int → Int := if t = 0 then seR W ru pd wd f ly k a else if t = 1 then (psR n (-1) f).1 else if t = 2 then layR (ud f 49 (f 49 - 2)) a b (f (6 * a + b) - f (6 * a + b) / 2) else layR (ud f 49 (f 49 - 4)) a b 0
/-- what a step of either side rests on -/
def Cx (h : Hp) (n W lc sc : Nat) (ru pd wd : Int → Int) (ly : Nat → Pw) (k : Int) : Prop := CtI h n W ru pd wd ∧ LwI h lc ly ∧ LhI h lc k ∧ SsI h sc
section Q
variable {h h' : Hp} {n W lc sc : Nat} {f ru pd wd : Int → Int} {ly : Nat → Pw} {k sn : Int}
theorem Cx.on (X : Cx h n W lc sc ru pd wd ly k) (F : On (fun a k => Tac a k ∨ SC2 a k ∨ Tsl a k) h h') : Cx h' n W lc sc ru pd wd ly k := by
  obtain ⟨Ct, Lw, Lh, Ss⟩ := X
  refine ⟨Ct.e (F.e (fun a k t c => ?_)), Lw.e (F.e (fun a k t c => ?_)), Lh.e (F.e (fun a k t c => ?_)), Ss.e (F.e (fun a k t c => ?_))⟩
  · have z := Ct.1.1.1
    rcases t with t | t | t
    · unfold Tac at t; unfold CtC at c; omega
    · exact sd_Ct z a k t c
    · unfold Tsl at t; unfold CtC at c; omega
  · have z := Lw.2.2.1
    rcases t with t | t | t
    · unfold Tac at t; unfold LwC at c; omega
    · exact sd_Lw z a k t c
    · unfold Tsl at t; unfold LwC at c; omega
  · rcases t with t | t | t
    · unfold Tac at t; unfold LhC at c; omega
    · exact sd_Lh a k t c
    · unfold Tsl at t; unfold LhC at c; omega
  · have z := Ss.2.2.1
    rcases t with t | t | t
    · unfold Tac at t; unfold SsC at c; omega
    · exact sd_Ss z a k t c
    · unfold Tsl at t; unfold SsC at c; omega
theorem stS_k (Ct : CtI h n W ru pd wd) (g : Gd n f) (fb : FB W f) {t a b : Int} (q : okS n W f t a b) : FB W (stS n W ru pd wd f ly k t a b) ∧ (t = 1 → stS n W ru pd wd f ly k t a b 51 = f 51 + 1) ∧ (¬ t = 1 → stS n W ru pd wd f ly k t a b 51 = f 51) := by
  have n6 := Ct.1.1.2.2
  have W8 := Ct.1.2.2.1
  have fb' := fb
  obtain ⟨b1, b2, b3⟩ := fb'
  unfold stS
  rcases q with ⟨q0, q1, q2⟩ | ⟨q0, q1⟩ | ⟨q0, q1, q2, q3⟩ | ⟨q0, q1, q2, q3⟩
  · have q' := q1
    obtain ⟨z0, z1⟩ := q'
    obtain ⟨w1, w2, w3, w4⟩ := Ct.2.2.1.2.2.1 a z0 z1
    rw [if_pos q0]
    have hi : ∀ j : Int, 36 ≤ j → j ≠ 48 → seR W ru pd wd f ly k a j = f j := fun j hk h8 => by
      unfold seR
      rw [ud_ne h8]
      exact owe_hi w1.1 (by omega) w2.1 (by omega) hk
    obtain ⟨x, hx⟩ : ∃ x : Nat, f 48 = (x : Int) := ⟨(f 48).toNat, by omega⟩
    have sb := sen_b (x := x) W8 (by omega) q1
    rw [← hx] at sb
    have g48 : seR W ru pd wd f ly k a 48 = ior (f 48) (ishl 1 a) := ud_at
    refine ⟨⟨by rw [g48]; exact sb, by rw [hi 49 (by decide) (by decide)]; exact b2, by rw [hi 51 (by decide) (by decide)]; exact b3⟩, fun e => absurd e (by omega), fun _ => hi 51 (by decide) (by decide)⟩
  · have pk := psR_k (f := f) n6 (-1)
    rw [if_neg (by omega), if_pos q0]
    exact ⟨⟨by rw [pk.1]; exact b1, by rw [pk.2.1]; exact b2, by rw [pk.2.2]; omega⟩, fun _ => pk.2.2, fun e => absurd q0 e⟩
  · have q' := q1
    obtain ⟨⟨p0, p1⟩, ⟨r0, r1⟩, hab⟩ := q'
    rw [if_neg (by omega), if_neg (by omega), if_pos q0]
    have hh : ∀ j : Int, 36 ≤ j → layR (ud f 49 (f 49 - 2)) a b (f (6 * a + b) - f (6 * a + b) / 2) j = ud f 49 (f 49 - 2) j := fun j hk => lay_hi p0 (by omega) r0 (by omega) hk
    have u48 : ud f 49 (f 49 - 2) 48 = f 48 := ud_ne (by decide)
    have u49 : ud f 49 (f 49 - 2) 49 = f 49 - 2 := ud_at
    have u51 : ud f 49 (f 49 - 2) 51 = f 51 := ud_ne (by decide)
    exact ⟨⟨by rw [hh 48 (by decide), u48]; exact b1, by rw [hh 49 (by decide), u49]; omega, by rw [hh 51 (by decide), u51]; exact b3⟩, fun e => absurd e (by omega), fun _ => (hh 51 (by decide)).trans u51⟩
  · have q' := q1
    obtain ⟨⟨p0, p1⟩, ⟨r0, r1⟩, hab⟩ := q'
    rw [if_neg (by omega), if_neg (by omega), if_neg (by omega)]
    have hh : ∀ j : Int, 36 ≤ j → layR (ud f 49 (f 49 - 4)) a b 0 j = ud f 49 (f 49 - 4) j := fun j hk => lay_hi p0 (by omega) r0 (by omega) hk
    have u48 : ud f 49 (f 49 - 4) 48 = f 48 := ud_ne (by decide)
    have u49 : ud f 49 (f 49 - 4) 49 = f 49 - 4 := ud_at
    have u51 : ud f 49 (f 49 - 4) 51 = f 51 := ud_ne (by decide)
    exact ⟨⟨by rw [hh 48 (by decide), u48]; exact b1, by rw [hh 49 (by decide), u49]; omega, by rw [hh 51 (by decide), u51]; exact b3⟩, fun e => absurd e (by omega), fun _ => (hh 51 (by decide)).trans u51⟩
end Q
section C
variable {h h' : Hp} {n W lc sc : Nat} {f ru pd wd : Int → Int} {ly : Nat → Pw} {k sn s : Int}
theorem sta_49s (A : StA h s n f) {v : Int} (v0 : 0 ≤ v) (v1 : v ≤ 999) : StA (up h s 6 v) s n (ud f 49 v) := ⟨A.1, by rw [up_off (by decide)]; exact A.2.1, by rw [cR_uf (i := 6) (Or.inr (Or.inl rfl)), A.2.2.1]; rfl, Gd_49 A.2.2.2 v0 v1⟩
theorem cse (Ct : CtI h n W ru pd wd) (Lw : LwI h lc ly) (Lh : LhI h lc k) (A : StA h s n f) (fb : FB W f) {a : Int} (ha : ir a) (q : isWr W a) (nb : ¬ w32 (iand (ishr (f 48) a) 1) = 1) : ∃ h', Cc_sentenceIn h 20 s a = some (1, h') ∧ On (fun x y => InS s x ∨ WC x y) h h' ∧ StA h' s n (seR W ru pd wd f ly k a) := by
  have W8 := Ct.1.2.2.1
  have n6 := Ct.1.1.2.2
  have iS := A.1
  unfold IsS at iS
  have q' := q
  obtain ⟨q0, q1⟩ := q'
  obtain ⟨w1, w2, w3, w4⟩ := Ct.2.2.1.2.2.1 a q0 q1
  have cw := c_who Ct.1 q
  have rb := (Ct.2.2.1.1 (n_pos Ct.2.2.1 q)).2.1
  have s7 := (IsS_sh A.1).1
  have e5 : h s 5 = f 48 := by rw [← A.2.2.1]; exact cR_48.symm
  obtain ⟨h1, e1, F1⟩ := c_worth Ct.1 A Lw Lh rb fb.1 w1.1 w1.2 w2.1 w2.2 (kok_now Ct.2.2.1 A.2.2.2 fb W8 w1.1 w1.2 w2.1 w2.2 (g := wd (3 * a + 2)) (by omega) (by omega))
  have e1' : Cc_worthBy h 20 s (wd (3 * a)) (wd (3 * a + 1)) (wd (3 * a + 2)) = some (wkV W ru pd wd f ly k (wd (3 * a)) (wd (3 * a + 1)) (wd (3 * a + 2)), h1) := e1
  have wb := wk_b (W := W) (pd := pd) (wd := wd) (f := f) (ly := ly) (k := k) (who := wd (3 * a)) (whom := wd (3 * a + 1)) (g := wd (3 * a + 2)) rb
  have A1 : StA h1 s n f := A.c (fun j _ _ => F1 s j (by unfold WC; omega)) (fun j j0 j1 => F1.row (fun m => by unfold WC; omega))
  have db := Gd_d A.2.2.2 w1.1 (show wd (3 * a) < 6 by omega) w2.1 (show wd (3 * a + 1) < 6 by omega)
  obtain ⟨h2, e2, F2, c2⟩ := St_owe_e A1 (a := wd (3 * a)) (b := wd (3 * a + 1)) (m := wkV W ru pd wd f ly k (wd (3 * a)) (wd (3 * a + 1)) (wd (3 * a + 2))) w1.1 (by omega) w2.1 (by omega) (by omega) (by omega)
  have S2 : StA h2 s n (oweR f (wd (3 * a)) (wd (3 * a + 1)) (wkV W ru pd wd f ly k (wd (3 * a)) (wd (3 * a + 1)) (wd (3 * a + 2)))) := ⟨A.1, by rw [F2 s (by omega)]; exact A1.2.1, c2, Gd_owe A.2.2.2 w1.1 (by omega) w2.1 (by omega) w3 (by omega)⟩
  have e25 : h2 s 5 = f 48 := by rw [F2 s (by omega), ← A1.2.2.1]; exact cR_48.symm
  obtain ⟨x, hx⟩ : ∃ x : Nat, f 48 = (x : Int) := ⟨(f 48).toNat, by have := fb.1; omega⟩
  have p8 : 2 ^ W ≤ 2 ^ 8 := Nat.pow_le_pow_right (by decide) W8
  have sb := sen_b (x := x) W8 (by have := fb.1; omega) q
  rw [← hx] at sb
  have S3 := sta_48 S2 (v := ior (f 48) (ishl 1 a)) sb.1 (by omega)
  have z0 : w32 ((0 : Int) % 2) = 0 := by decide
  refine ⟨up h2 s 5 (ior (f 48) (ishl 1 a)), ?_, ((F1.w (fun x y t => Or.inr t)).tr (F2.on (fun x t y => Or.inl (Or.inr (Or.inl t))))).tr (On.up (Or.inl (Or.inl rfl))), S3⟩
  unfold Cc_sentenceIn St_isSentenced
  have cs := Ct.1.shc.1
  rw [cC_s SH20' rfl, (isW_1 Ct ha q).1, cl_s, if_neg wn1, cC_s s7 rfl, cC_s s7 rfl, e5, Cc_holds_e, cl_s, cl_s, if_neg nb, if_pos z0, cC_s cs rfl, cw.1, cl_s, cC_s cs rfl, cw.2.1, cl_s, cC_s cs rfl, cw.2.2, cl_s, e1', cl_s, e2, cl_s, e25, pu_s]
theorem part_e {a : Int} {st : Sst} (iN : IsN a) (sa : SsA h a st) (s16 : st.1 ≤ 16) {i : Nat} (hi : i < st.1) {j : Int} (j0 : 0 ≤ j) (j1 : j < 3) : Ss_part h a (i : Int) j = some (st.2 (3 * (i : Int) + j), h) := by
  have iN' := iN
  unfold IsN at iN'
  unfold Ss_part
  rw [cC_s (IsN_sh iN).1 rfl, at_eq (IsN_sh iN).2 (by omega) (by omega) (by omega) (by decide), cl_s, sa.2 _ (by omega) (by omega)]
/-- a step of the class that can be -/
theorem c_step1 (X : Cx h n W lc sc ru pd wd ly k) (n0 : 0 < n) (A : StA h s n f) (fb : FB W f) {a : Int} {st : Sst} (iN : IsN a) (sa : SsA h a st) (sb : SsB st) {i : Nat} (hi : i < st.1) (q : okS n W f (st.2 (3 * (i : Int) + 0)) (st.2 (3 * (i : Int) + 1)) (st.2 (3 * (i : Int) + 2))) : ∃ h', Cc_stepIn h 20 s a (i : Int) = some (1, h') ∧ On (fun x y => InS s x ∨ WC x y) h h' ∧ StA h' s n (stS n W ru pd wd f ly k (st.2 (3 * (i : Int) + 0)) (st.2 (3 * (i : Int) + 1)) (st.2 (3 * (i : Int) + 2))) ∧ (st.2 (3 * (i : Int) + 0) = 1 → h' s 9 = psC n (-1) f ∧ h' s 10 = (psR n (-1) f).2) := by
  obtain ⟨Ct, Lw, Lh, Ss⟩ := X
  have s16 := sb.1
  have t0 : (0 ≤ st.2 (3 * (i : Int) + 0) ∧ st.2 (3 * (i : Int) + 0) ≤ 3) ∧ (-1 ≤ st.2 (3 * (i : Int) + 1) ∧ st.2 (3 * (i : Int) + 1) ≤ 9) ∧ (-1 ≤ st.2 (3 * (i : Int) + 2) ∧ st.2 (3 * (i : Int) + 2) ≤ 9) := sb.2 i hi
  have p1 := part_e iN sa s16 hi (j := 1) (by decide) (by decide)
  have p2 := part_e iN sa s16 hi (j := 2) (by decide) (by decide)
  have p0 := part_e iN sa s16 hi (j := 0) (by decide) (by decide)
  generalize st.2 (3 * (i : Int) + 0) = t at t0 p0 q
  generalize st.2 (3 * (i : Int) + 1) = x at t0 p1 q
  generalize st.2 (3 * (i : Int) + 2) = y at t0 p2 q
  have ix : ir x := ⟨by omega, by omega⟩
  have iy : ir y := ⟨by omega, by omega⟩
  have s7 := (IsS_sh A.1).1
  have iS := A.1
  unfold IsS at iS
  have n6 := A.2.2.2.1
  have e8 : h s 8 = f 51 := sta_e A
  have e6 : h s 6 = f 49 := by rw [← A.2.2.1]; exact cR_49.symm
  have o1 : (1 : Int) % 2 = 1 := by decide
  have b3 := fb.2.2
  have b2 := fb.2.1
  unfold Cc_stepIn
  rw [cC_s (IsN_sh iN).1 rfl, p1, cl_s, p2, cl_s, p0, cl_s, w32_n (x := t) (by omega) (by omega)]
  unfold stS
  rcases q with ⟨q0, q1, q2⟩ | ⟨q0, q1⟩ | ⟨q0, q1, q2, q3⟩ | ⟨q0, q1, q2, q3⟩
  · obtain ⟨h', e, F, S⟩ := cse Ct Lw Lh A fb ix q1 q2
    rw [if_pos q0, if_pos q0, cC_s SH20' rfl, e, cl_s, o1]
    exact ⟨h', rfl, F, S, fun z => absurd z (by omega)⟩
  · obtain ⟨h', e, F, S, -, x9, x10⟩ := St_pass_e A (bed := -1) ir_m1
    unfold Cc_eveningIn
    rw [if_neg (show ¬ t = 0 by omega), if_neg (show ¬ t = 0 by omega), if_pos q0, if_pos q0, cC_s SH20' rfl, cC_s SH20' rfl, told1 Ct.1.1 (by omega), cl_s, if_neg wn1, cC_s s7 rfl, e8, w32_n (x := f 51) (by omega) (by omega), if_pos q1, e, cl_s, cl_s, o1]
    exact ⟨h', rfl, F.on (fun x u y => Or.inl u), S, fun _ => ⟨x9, x10⟩⟩
  · have q' := q1
    obtain ⟨⟨p0', p1'⟩, ⟨r0, r1⟩, hab⟩ := q'
    have db := Gd_d A.2.2.2 p0' (show x < 6 by omega) r0 (show y < 6 by omega)
    have tD : (f (6 * x + y)).tdiv 2 = f (6 * x + y) / 2 := Int.tdiv_eq_ediv_of_nonneg (by omega)
    have w2 : w32 2 = 2 := by decide
    have d2 : ∀ A : Option (Int × Hp), cD 2 A = A := fun A => cD_2 A
    have S2 := sta_49s A (v := f 49 - 2) (by omega) (by omega)
    have uD : ud f 49 (f 49 - 2) (6 * x + y) = f (6 * x + y) := ud_ne (by omega)
    generalize hf2 : ud f 49 (f 49 - 2) = f2 at S2 uD
    obtain ⟨h3, e3, F3, c3⟩ := St_owe_e S2 (a := x) (b := y) (m := -(f (6 * x + y) / 2)) p0' (by omega) r0 (by omega) (by omega) (by omega)
    have eo : oweR f2 x y (-(f (6 * x + y) / 2)) = layR f2 x y (f (6 * x + y) - f (6 * x + y) / 2) := by
      unfold oweR
      rw [uD, show min 99 (f (6 * x + y) + -(f (6 * x + y) / 2)) = f (6 * x + y) - f (6 * x + y) / 2 by omega]
    have S3 : StA h3 s n (layR f2 x y (f (6 * x + y) - f (6 * x + y) / 2)) := ⟨S2.1, by rw [F3 s (by omega)]; exact S2.2.1, c3.trans eo, Gd_lay S2.2.2.2 p0' (by omega) r0 (by omega) hab (by omega) (by omega)⟩
    unfold Cc_appealIn
    rw [if_neg (show ¬ t = 0 by omega), if_neg (show ¬ t = 0 by omega), if_neg (show ¬ t = 1 by omega), if_neg (show ¬ t = 1 by omega), if_pos q0, if_pos q0, cC_s SH20' rfl, cC_s SH20' rfl, c_T1 Ct.1.1 ix iy q1, cl_s, if_neg wn1, cC_s s7 rfl, St_owes_e A p0' (by omega) r0 (by omega), cl_s, w32_n (x := f (6 * x + y)) (by omega) (by omega), if_neg (by omega), e6, w32_n (x := f 49) (by omega) (by omega), if_neg (by omega), pu_s, St_owes_e S2 p0' (by omega) r0 (by omega), cl_s, uD, w32_n (x := f (6 * x + y)) (by omega) (by omega), w2, tD, d2, e3, cl_s, cl_s, o1]
    exact ⟨h3, rfl, (On.up (Or.inl (Or.inl rfl))).tr (F3.on (fun x u y => Or.inl (Or.inr (Or.inl u)))), S3, fun z => absurd z (by omega)⟩
  · have q' := q1
    obtain ⟨⟨p0', p1'⟩, ⟨r0, r1⟩, hab⟩ := q'
    have db := Gd_d A.2.2.2 p0' (show x < 6 by omega) r0 (show y < 6 by omega)
    have S2 := sta_49s A (v := f 49 - 4) (by omega) (by omega)
    have uD : ud f 49 (f 49 - 4) (6 * x + y) = f (6 * x + y) := ud_ne (by omega)
    generalize hf2 : ud f 49 (f 49 - 4) = f2 at S2 uD
    obtain ⟨h3, e3, F3, c3⟩ := St_owe_e S2 (a := x) (b := y) (m := -f (6 * x + y)) p0' (by omega) r0 (by omega) (by omega) (by omega)
    have eo : oweR f2 x y (-f (6 * x + y)) = layR f2 x y 0 := by
      unfold oweR
      rw [uD, show min 99 (f (6 * x + y) + -f (6 * x + y)) = 0 by omega]
    have S3 : StA h3 s n (layR f2 x y 0) := ⟨S2.1, by rw [F3 s (by omega)]; exact S2.2.1, c3.trans eo, Gd_lay S2.2.2.2 p0' (by omega) r0 (by omega) hab (by decide) (by decide)⟩
    unfold Cc_pardonIn
    rw [if_neg (show ¬ t = 0 by omega), if_neg (show ¬ t = 0 by omega), if_neg (show ¬ t = 1 by omega), if_neg (show ¬ t = 1 by omega), if_neg (show ¬ t = 2 by omega), if_neg (show ¬ t = 2 by omega), if_pos q0, cC_s SH20' rfl, cC_s SH20' rfl, c_T1 Ct.1.1 ix iy q1, cl_s, if_neg wn1, cC_s s7 rfl, St_owes_e A p0' (by omega) r0 (by omega), cl_s, w32_n (x := f (6 * x + y)) (by omega) (by omega), if_neg (by omega), e6, w32_n (x := f 49) (by omega) (by omega), if_neg (by omega), pu_s, St_owes_e S2 p0' (by omega) r0 (by omega), cl_s, uD, e3, cl_s, cl_s, o1]
    exact ⟨h3, rfl, (On.up (Or.inl (Or.inl rfl))).tr (F3.on (fun x u y => Or.inl (Or.inr (Or.inl u)))), S3, fun z => absurd z (by omega)⟩
/-- a step of the class that can't be -/
theorem c_step0 (X : Cx h n W lc sc ru pd wd ly k) (n0 : 0 < n) (A : StA h s n f) (fb : FB W f) {a : Int} {st : Sst} (iN : IsN a) (sa : SsA h a st) (sb : SsB st) {i : Nat} (hi : i < st.1) (q : ¬ okS n W f (st.2 (3 * (i : Int) + 0)) (st.2 (3 * (i : Int) + 1)) (st.2 (3 * (i : Int) + 2))) : Cc_stepIn h 20 s a (i : Int) = some (0, h) := by
  obtain ⟨Ct, Lw, Lh, Ss⟩ := X
  have s16 := sb.1
  have t0 : (0 ≤ st.2 (3 * (i : Int) + 0) ∧ st.2 (3 * (i : Int) + 0) ≤ 3) ∧ (-1 ≤ st.2 (3 * (i : Int) + 1) ∧ st.2 (3 * (i : Int) + 1) ≤ 9) ∧ (-1 ≤ st.2 (3 * (i : Int) + 2) ∧ st.2 (3 * (i : Int) + 2) ≤ 9) := sb.2 i hi
  have p1 := part_e iN sa s16 hi (j := 1) (by decide) (by decide)
  have p2 := part_e iN sa s16 hi (j := 2) (by decide) (by decide)
  have p0 := part_e iN sa s16 hi (j := 0) (by decide) (by decide)
  generalize st.2 (3 * (i : Int) + 0) = t at t0 p0 q
  generalize st.2 (3 * (i : Int) + 1) = x at t0 p1 q
  generalize st.2 (3 * (i : Int) + 2) = y at t0 p2 q
  have ix : ir x := ⟨by omega, by omega⟩
  have iy : ir y := ⟨by omega, by omega⟩
  have s7 := (IsS_sh A.1).1
  have n6 := A.2.2.2.1
  have e8 : h s 8 = f 51 := sta_e A
  have e6 : h s 6 = f 49 := by rw [← A.2.2.1]; exact cR_49.symm
  have e5 : h s 5 = f 48 := by rw [← A.2.2.1]; exact cR_48.symm
  have o0 : (0 : Int) % 2 = 0 := by decide
  have b3 := fb.2.2
  have b2 := fb.2.1
  unfold Cc_stepIn
  rw [cC_s (IsN_sh iN).1 rfl, p1, cl_s, p2, cl_s, p0, cl_s, w32_n (x := t) (by omega) (by omega)]
  unfold okS at q
  by_cases t0' : t = 0
  · rw [if_pos t0', cC_s SH20' rfl]
    unfold Cc_sentenceIn St_isSentenced
    by_cases w : isWr W x
    · have nb : w32 (iand (ishr (f 48) x) 1) = 1 := by
        by_cases z : w32 (iand (ishr (f 48) x) 1) = 1
        · exact z
        · exact absurd (Or.inl ⟨t0', w, z⟩) q
      rw [cC_s SH20' rfl, (isW_1 Ct ix w).1, cl_s, if_neg wn1, cC_s s7 rfl, cC_s s7 rfl, e5, Cc_holds_e, cl_s, cl_s, if_pos nb, if_neg (by decide), cl_s, o0]
    · rw [cC_s SH20' rfl, (isW_0 Ct ix w).1, cl_s, if_pos wz0, cl_s, o0]
  · rw [if_neg t0']
    by_cases t1 : t = 1
    · have c : ¬ f 51 < 999 := fun c => q (Or.inr (Or.inl ⟨t1, c⟩))
      unfold Cc_eveningIn
      rw [if_pos t1, cC_s SH20' rfl, cC_s SH20' rfl, told1 Ct.1.1 (by omega), cl_s, if_neg wn1, cC_s s7 rfl, e8, w32_n (x := f 51) (by omega) (by omega), if_neg c, cl_s, o0]
    · rw [if_neg t1]
      by_cases w : isT n x y
      · have w' := w
        obtain ⟨⟨p0', p1'⟩, ⟨r0, r1⟩, hab⟩ := w'
        have db := Gd_d A.2.2.2 p0' (show x < 6 by omega) r0 (show y < 6 by omega)
        by_cases t2 : t = 2
        · unfold Cc_appealIn
          rw [if_pos t2, cC_s SH20' rfl, cC_s SH20' rfl, c_T1 Ct.1.1 ix iy w, cl_s, if_neg wn1, cC_s s7 rfl, St_owes_e A p0' (by omega) r0 (by omega), cl_s, w32_n (x := f (6 * x + y)) (by omega) (by omega)]
          by_cases c : f (6 * x + y) < 2
          · rw [if_pos c, cl_s, o0]
          · rw [if_neg c, e6, w32_n (x := f 49) (by omega) (by omega), if_pos (by
              by_cases d : f 49 < 2
              · exact d
              · exact absurd (Or.inr (Or.inr (Or.inl ⟨t2, w, by omega, by omega⟩))) q), cl_s, o0]
        · have t3 : t = 3 := by omega
          unfold Cc_pardonIn
          rw [if_neg t2, if_pos t3, cC_s SH20' rfl, cC_s SH20' rfl, c_T1 Ct.1.1 ix iy w, cl_s, if_neg wn1, cC_s s7 rfl, St_owes_e A p0' (by omega) r0 (by omega), cl_s, w32_n (x := f (6 * x + y)) (by omega) (by omega)]
          by_cases c : f (6 * x + y) < 1
          · rw [if_pos c, cl_s, o0]
          · rw [if_neg c, e6, w32_n (x := f 49) (by omega) (by omega), if_pos (by
              by_cases d : f 49 < 4
              · exact d
              · exact absurd (Or.inr (Or.inr (Or.inr ⟨t3, w, by omega, by omega⟩))) q), cl_s, o0]
      · by_cases t2 : t = 2
        · unfold Cc_appealIn
          rw [if_pos t2, cC_s SH20' rfl, cC_s SH20' rfl, c_T0 Ct.1.1 ix iy w, cl_s, if_pos wz0, cl_s, o0]
        · have t3 : t = 3 := by omega
          unfold Cc_pardonIn
          rw [if_neg t2, if_pos t3, cC_s SH20' rfl, cC_s SH20' rfl, c_T0 Ct.1.1 ix iy w, cl_s, if_pos wz0, cl_s, o0]
end C
end PureSteps
