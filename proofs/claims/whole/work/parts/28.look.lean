section PureJ
/-! cells that are worked on and then forgotten; calls that go on apart -/
def SCA (a k : Int) : Prop := (130 ≤ a ∧ a < 200) ∨ a = 69 ∨ a = 72 ∨ a = 75 ∨ a = 80 ∨ (a = 21 ∧ (k = 2 ∨ k = 3)) ∨ (a = 20 ∧ k = 19) ∨ (100 ≤ a ∧ a < 610 ∧ (a % 10 = 4 ∨ (a % 10 = 0 ∧ 9 ≤ k))) ∨ (1000 ≤ a ∧ a < 1050 ∧ (a % 10 = 2 ∨ (a % 10 = 0 ∧ k = 3))) ∨ (a = 2000 ∧ (k = 0 ∨ k = 5 ∨ (8 ≤ k ∧ k < 15) ∨ k = 17 ∨ k = 28 ∨ k = 29 ∨ k = 31 ∨ (39 ≤ k ∧ k < 42) ∨ (43 ≤ k ∧ k < 49))) ∨ a = 2004 ∨ a = 2019 ∨ a = 2021 ∨ a = 2023 ∨ a = 2033 ∨ a = 2038 ∨ a = 2051
def On (T : Int → Int → Prop) (h h' : Hp) : Prop := ∀ a k : Int, ¬ T a k → h' a k = h a k
theorem On.rf {T : Int → Int → Prop} {h : Hp} : On T h h := fun _ _ _ => rfl
theorem On.tr {T : Int → Int → Prop} {h h1 h2 : Hp} (a : On T h h1) (b : On T h1 h2) : On T h h2 := fun x k q => (b x k q).trans (a x k q)
theorem On.w {T U : Int → Int → Prop} {h h1 : Hp} (a : On T h h1) (hTU : ∀ x k, T x k → U x k) : On U h h1 := fun x k q => a x k (fun t => q (hTU x k t))
theorem On.up {T : Int → Int → Prop} {h : Hp} {a i v : Int} (t : T a i) : On T h (up h a i v) := fun x k q => by
  by_cases e : x = a
  · subst e
    exact up_off (fun e2 => q (e2 ▸ t))
  · exact up_ne e k
theorem Fr.on {S : Int → Prop} {T : Int → Int → Prop} {h h' : Hp} (F : Fr S h h') (hT : ∀ a, S a → ∀ k, T a k) : On T h h' := fun a k q => by rw [F a (fun s => q (hT a s k))]
theorem On.row {T : Int → Int → Prop} {h h' : Hp} (F : On T h h') {a : Int} (hn : ∀ k, ¬ T a k) : h' a = h a := funext fun k => F a k (hn k)
theorem sc_s {i : Int} (i0 : 0 ≤ i) (i1 : i < 7) : ∀ a : Int, InS (130 + 10 * i) a → ∀ k : Int, SCA a k := fun a q k => Or.inl (by unfold InS at q; omega)
section M
variable {h h' : Hp} {s w : Int} {n : Nat} {f seat : Int → Int}
theorem FrG.sc (F : FrG 2033 h h') : On SCA h h' := fun a k q => by
  by_cases e1 : a = 2033
  · exact absurd (by unfold SCA; omega) q
  · by_cases e2 : a = 2038
    · exact absurd (by unfold SCA; omega) q
    · by_cases e3 : a = 2000
      · subst e3
        exact F.2 k (fun e => q (by unfold SCA; omega)) (fun e => q (by unfold SCA; omega))
      · rw [F.1 a e1 e2 e3]
theorem StM.on (M : StM h 2032 n f) (F : On SCA h h') : StM h' 2032 n f := ⟨M.1, by rw [F 2000 26 (by unfold SCA; omega)]; exact M.2.1, by rw [mR_c (F.row (fun k q => by unfold SCA at q; omega))]; exact M.2.2.1, M.2.2.2⟩
theorem StA.on (i : s = 100 ∨ s = 110 ∨ s = 120) (A : StA h s n f) (F : On SCA h h') : StA h' s n f := by
  have e : ∀ k : Int, 4 ≤ k → k < 9 → h' s k = h s k := fun k k0 k1 => F s k (fun q => by unfold SCA at q; omega)
  have r : ∀ j : Int, 1 ≤ j → j < 4 → h' (s + j) = h (s + j) := fun j j0 j1 => F.row (fun k q => by unfold SCA at q; omega)
  exact ⟨A.1, by rw [e 4 (by decide) (by decide)]; exact A.2.1, by
    rw [cR_c (e 4 (by decide) (by decide)) (e 5 (by decide) (by decide)) (e 6 (by decide) (by decide)) (e 7 (by decide) (by decide)) (e 8 (by decide) (by decide)) (r 1 (by decide) (by decide)) (r 2 (by decide) (by decide)) (r 3 (by decide) (by decide))]
    exact A.2.2.1, A.2.2.2⟩
theorem CoA.on (C : CoA h n) (F : On SCA h h') : CoA h' n := by
  obtain ⟨c1, c2, c3⟩ := C
  have e1 : h' 20 1 = h 20 1 := F 20 1 (by unfold SCA; omega)
  refine ⟨by rw [e1]; exact c1, ?_, c3⟩
  rw [e1, F _ 4 (by unfold SCA; rcases c1 with q | q <;> omega)]
  exact c2
theorem told0 (C : CoA h n) (c : n = 0) : Cc_isTold h 20 = some (0, h) := by rw [Cc_isTold_e C, if_neg (by omega)]
theorem told1 (C : CoA h n) (c : ¬ n = 0) : Cc_isTold h 20 = some (1, h) := by rw [Cc_isTold_e C, if_pos (by omega)]
theorem t0_sc : On SCA h (up h 2000 0 0) := On.up (by unfold SCA; omega)
/-- TONIGHT -/
def tonV (n : Nat) (f : Int → Int) : Int := if n = 0 then -1 else rowN n (bkR n (-1) f)
theorem ir_m1 : ir (-1) := ⟨by decide, by decide⟩
theorem c_tonight (C : CoA h n) (A : StA h 110 n f) : ∃ h', Cc_tonight h 20 = some (tonV n f, h') ∧ On SCA h h' := by
  unfold Cc_tonight tonV
  rw [cC_s SH20' rfl]
  by_cases c : n = 0
  · rw [told0 C c, cl_s, if_pos (by decide), if_pos c]
    exact ⟨h, rfl, On.rf⟩
  · obtain ⟨h1, e1, F1, A1⟩ := Cc_copyApart_e A
    obtain ⟨h2, e2, F2, T2⟩ := St_book_e A1 ir_m1
    rw [told1 C c, cl_s, if_neg (by decide), if_neg c, e1, cl_s, cC_s (IsS_sh A1.1).1 rfl, e2, cl_s]
    have e4 : h2 130 4 = (n : Int) := by rw [F2 130 (by decide)]; exact A1.2.1
    rw [e4, Cc_rowOf_e A1.1 A.2.2.2.1 T2, cl_s]
    exact ⟨h2, rfl, (F1.on (fun a q k => Or.inl (by omega))).tr (F2.on (fun a q k => Or.inl (by omega)))⟩
theorem m_tonight (M : StM h 2032 n f) : ∃ h', Md_tonight h 2000 = some (tonV n f, h') ∧ On SCA h h' := by
  have M0 := M.on t0_sc
  unfold Md_tonight tonV
  rw [cC_s SH2000' rfl, pu_s, M0.2.1, w32_n (by omega) (by have := M.2.2.2.1; omega)]
  by_cases c : n = 0
  · rw [if_pos (by omega), if_pos c]
    exact ⟨_, rfl, t0_sc⟩
  · obtain ⟨h2, e2, F2, T2⟩ := Md_books_e M0 Abed0
    rw [if_neg (by omega), if_neg c, e2, cl_s, Md_rowOf_e M.2.2.2.1 (by rw [F2 2000 (by decide)]; exact M0.2.1) (bkR_ok _ _ _) T2, cl_s]
    exact ⟨h2, rfl, t0_sc.tr (F2.on (fun a q k => by unfold SCA; omega))⟩
/-- SERVED -/
def svR (n : Nat) : Nat → Int → (Int → Int) → Int
  | 0, _, _ => -1
  | d + 1, i, f => if allD n f = 0 then i else svR n d (i + 1) (psR n (-1) f).1
def srvV (n : Nat) (f : Int → Int) : Int := if n = 0 then -1 else svR n 100 0 f
theorem c_served (C : CoA h n) (A : StA h 110 n f) : ∃ h', Cc_served h 20 = some (srvV n f, h') ∧ On SCA h h' := by
  unfold Cc_served srvV
  rw [cC_s SH20' rfl]
  by_cases c : n = 0
  · rw [told0 C c, cl_s, if_pos (by decide), if_pos c]
    exact ⟨h, rfl, On.rf⟩
  · obtain ⟨h1, e1, F1, A1⟩ := Cc_copyApart_e A
    rw [told1 C c, cl_s, if_neg (by decide), if_neg c, e1, cl_s]
    have W : wp (Cc_served_b16 h1 130 0) (fun r h' => r = svR n 100 0 f ∧ On SCA h h') := by
      unfold Cc_served_b16
      refine itr_wpx (fun d σ => ∃ (h2 : Hp) (g : Int → Int) (i : Int), σ = (h2, 130, i) ∧ (d : Int) = 100 - i ∧ 0 ≤ i ∧ On SCA h h2 ∧ StA h2 130 n g ∧ svR n d i g = svR n 100 0 f) ?_ (n := 100) (FU_gt (by decide)) ⟨h1, f, 0, rfl, rfl, Int.le_refl _, F1.on (fun a q k => Or.inl (by omega)), A1, rfl⟩
      rintro d σ k ⟨h2, g, i, rfl, hd, i0, F2, A2, v⟩ K
      show wp (Cc_served_b16_body k h2 130 i) _
      unfold Cc_served_b16_body
      rw [w32_n i0 (by omega)]
      cases d with
      | zero =>
        rw [if_pos (by omega)]
        exact wp_i ⟨v, F2⟩
      | succ d =>
        have Db := allD_b A2.2.2.2
        rw [if_neg (by omega), cC_s (IsS_sh A2.1).1 rfl, St_allDebt_e A2, cl_s, w32_n Db.1 (by omega)]
        have v' : (if allD n g = 0 then i else svR n d (i + 1) (psR n (-1) g).1) = svR n 100 0 f := v
        by_cases c2 : allD n g = 0
        · rw [if_pos c2] at v' ⊢
          exact wp_i ⟨v', F2⟩
        · rw [if_neg c2] at v' ⊢
          obtain ⟨h3, e3, F3, A3, -⟩ := St_pass_e A2 ir_m1
          rw [e3, cl_s]
          exact K d _ (by omega) ⟨h3, _, i + 1, rfl, by omega, by omega, F2.tr (F3.on (sc_s (i := 0) (by decide) (by decide))), A3, v'⟩
    obtain ⟨r, h', e, rfl, q⟩ := W
    exact ⟨h', e, q⟩
theorem m_served (M : StM h 2032 n f) : ∃ h', Md_served h 2000 = some (srvV n f, h') ∧ On SCA h h' := by
  have M0 := M.on t0_sc
  have n6 := M.2.2.2.1
  unfold Md_served srvV
  rw [cC_s SH2000' rfl, pu_s, M0.2.1, w32_n (by omega) (by omega)]
  by_cases c : n = 0
  · rw [if_pos (by omega), if_pos c]
    exact ⟨_, rfl, t0_sc⟩
  · obtain ⟨h1, e1, F1, M1, z1⟩ := Md_copy_e M0
    rw [if_neg (by omega), if_neg c, e1, cl_s]
    have O1 : On SCA h h1 := t0_sc.tr (fun a k q => by rw [F1 a (fun e => q (by unfold SCA; omega))])
    have W : wp (Md_served_b27 h1 2000 0) (fun r h' => r = svR n 100 0 f ∧ On SCA h h') := by
      unfold Md_served_b27
      refine itr_wpx (fun d σ => ∃ (h2 : Hp) (g : Int → Int) (i : Int), σ = (h2, 2000, i) ∧ (d : Int) = 100 - i ∧ 0 ≤ i ∧ On SCA h h2 ∧ StM h2 2033 n g ∧ (0 ≤ h2 2033 52 ∧ h2 2033 52 ≤ 60) ∧ svR n d i g = svR n 100 0 f) ?_ (n := 100) (FU_gt (by decide)) ⟨h1, f, 0, rfl, rfl, Int.le_refl _, O1, M1, by rw [z1]; exact ⟨by decide, by decide⟩, rfl⟩
      rintro d σ k ⟨h2, g, i, rfl, hd, i0, F2, M2, L2, v⟩ K
      show wp (Md_served_b27_body k h2 2000 i) _
      unfold Md_served_b27_body
      rw [w32_n i0 (by omega)]
      cases d with
      | zero =>
        rw [if_pos (by omega)]
        exact wp_i ⟨v, F2⟩
      | succ d =>
        have Db := allD_b M2.2.2.2
        rw [if_neg (by omega), cC_s SH2000' rfl, Md_allOwed_e M2, cl_s, w32_n Db.1 (by omega)]
        have v' : (if allD n g = 0 then i else svR n d (i + 1) (psR n (-1) g).1) = svR n 100 0 f := v
        by_cases c2 : allD n g = 0
        · rw [if_pos c2] at v' ⊢
          exact wp_i ⟨v', F2⟩
        · rw [if_neg c2] at v' ⊢
          obtain ⟨h3, e3, F3, M3, -, -, -, L3, -⟩ := Md_goEvening_e M2 Abed0 L2
          rw [e3, cl_s]
          exact K d _ (by omega) ⟨h3, _, i + 1, rfl, by omega, by omega, F2.tr F3.sc, M3, by rw [L3]; omega, v'⟩
    obtain ⟨r, h', e, rfl, q⟩ := W
    exact ⟨h', e, q⟩
/-- NEVER: the bits of those who sit in none of the next twenty evenings -/
def nvI (seat : Int → Int) (p : Nat) (b : Int) : Int := if seat p = 9 then b else iand b (ixor (ishl 1 (p : Int)) (-1))
def nvS (n : Nat) (_ : Nat) (st : (Int → Int) × Int) : (Int → Int) × Int := ((psR n (-1) st.1).1, fo (nvI (bkR n (-1) st.1)) n st.2)
def nevV (n : Nat) (f : Int → Int) : Int := (fo (nvS n) 20 (f, ishl 1 (n : Int) - 1)).2
theorem c_never (A : StA h 110 n f) : ∃ h', Cc_neverSitting h 20 = some (nevV n f, h') ∧ On SCA h h' := by
  have n6 := A.2.2.2.1
  obtain ⟨h1, e1, F1, A1⟩ := Cc_copyApart_e A
  unfold Cc_neverSitting
  rw [cC_s SH20' rfl, e1, cl_s, cC_s (IsS_sh A1.1).1 rfl, bd_s, A1.2.1]
  have W : wp (Cc_neverSitting_b16 h1 130 (ishl 1 (n : Int) - 1) 0) (fun r h' => r = nevV n f ∧ On SCA h h') := by
    unfold Cc_neverSitting_b16
    refine itr_wp (fun i σ => ∃ (h2 : Hp), σ = (h2, 130, (fo (nvS n) i (f, ishl 1 (n : Int) - 1)).2, (i : Int)) ∧ On SCA h h2 ∧ StA h2 130 n (fo (nvS n) i (f, ishl 1 (n : Int) - 1)).1) 20 ?_ ?_ (FU_gt (by decide)) ⟨h1, rfl, F1.on (fun a q k => Or.inl (by omega)), A1⟩
    · rintro i σ k hi ⟨h2, rfl, F2, A2⟩ K
      obtain ⟨h3, e3, F3, A3, T3, -⟩ := St_pass_e A2 ir_m1
      obtain ⟨s0, s1, s2, s3, s4⟩ := IsS_sh A3.1
      show wp (Cc_neverSitting_b16_body k h2 130 (fo (nvS n) i (f, ishl 1 (n : Int) - 1)).2 (i : Int)) _
      unfold Cc_neverSitting_b16_body
      rw [w32_n (x := (i : Int)) (by omega) (by omega), if_pos (by omega), cC_s s0 rfl, e3, cl_s]
      have KS := bkR_ok n (-1) (fo (nvS n) i (f, ishl 1 (n : Int) - 1)).1
      have e5 : Cc_neverSitting_b30 k h3 130 (fo (nvS n) i (f, ishl 1 (n : Int) - 1)).2 (i : Int) 0 = k (h3, 130, (fo (nvS n) (i + 1) (f, ishl 1 (n : Int) - 1)).2, (i : Int) + 1) := by
        unfold Cc_neverSitting_b30
        refine itr_run (fun p : Nat => (h3, 130, fo (nvI (bkR n (-1) (fo (nvS n) i (f, ishl 1 (n : Int) - 1)).1)) p (fo (nvS n) i (f, ishl 1 (n : Int) - 1)).2, (i : Int), (p : Int))) (n := n) ?_ ?_ (FU_gt (by omega))
        · intro p hp k30
          show Cc_neverSitting_b30_body k k30 h3 130 (fo (nvI (bkR n (-1) (fo (nvS n) i (f, ishl 1 (n : Int) - 1)).1)) p (fo (nvS n) i (f, ishl 1 (n : Int) - 1)).2) (i : Int) (p : Int) = k30 (h3, 130, nvI (bkR n (-1) (fo (nvS n) i (f, ishl 1 (n : Int) - 1)).1) p (fo (nvI (bkR n (-1) (fo (nvS n) i (f, ishl 1 (n : Int) - 1)).1)) p (fo (nvS n) i (f, ishl 1 (n : Int) - 1)).2), (i : Int), (p : Int) + 1)
          generalize fo (nvI (bkR n (-1) (fo (nvS n) i (f, ishl 1 (n : Int) - 1)).1)) p (fo (nvS n) i (f, ishl 1 (n : Int) - 1)).2 = b
          have T4 := T3 (p : Int) (by omega) (by omega)
          have K4 := KS (p : Int) (by omega) (by omega)
          generalize bkR n (-1) (fo (nvS n) i (f, ishl 1 (n : Int) - 1)).1 = seat at T4 K4
          have ws : w32 (seat (p : Int)) = seat (p : Int) := by
            rcases K4 with q | q
            · rw [q]; rfl
            · exact w32_n (by omega) (by omega)
          unfold Cc_neverSitting_b30_body nvI
          rw [cC_s s0 rfl, A3.2.1, w32_n (x := (p : Int)) (by omega) (by omega), w32_n (x := (n : Int)) (by omega) (by omega), if_pos (by omega), at_eq s4 (by decide) (by omega) (by omega) (by decide), cl_s, T4, ws]
          by_cases c : seat (p : Int) = 9
          · rw [if_pos c, if_pos c]
          · rw [if_neg c, if_neg c, bd_s]
        · intro k30
          show Cc_neverSitting_b30_body k k30 h3 130 (fo (nvI (bkR n (-1) (fo (nvS n) i (f, ishl 1 (n : Int) - 1)).1)) n (fo (nvS n) i (f, ishl 1 (n : Int) - 1)).2) (i : Int) (n : Int) = _
          unfold Cc_neverSitting_b30_body
          rw [cC_s s0 rfl, A3.2.1, if_neg (Int.lt_irrefl _)]
          rfl
      rw [e5]
      exact K _ ⟨h3, rfl, F2.tr (F3.on (sc_s (i := 0) (by decide) (by decide))), A3⟩
    · rintro σ k ⟨h2, rfl, F2, A2⟩
      show wp (Cc_neverSitting_b16_body k h2 130 (nevV n f) ((20 : Nat) : Int)) _
      unfold Cc_neverSitting_b16_body
      rw [if_neg (by decide)]
      exact wp_i ⟨rfl, F2⟩
  obtain ⟨r, h', e, rfl, q⟩ := W
  exact ⟨h', e, q⟩
theorem m_never (M : StM h 2032 n f) : ∃ h', Md_never h 2000 = some (nevV n f, h') ∧ On SCA h h' := by
  have n6 := M.2.2.2.1
  obtain ⟨h1, e1, F1, M1, z1⟩ := Md_copy_e M
  have O1 : On SCA h h1 := fun a k q => by rw [F1 a (fun e => q (by unfold SCA; omega))]
  unfold Md_never
  rw [cC_s SH2000' rfl, e1, cl_s, bd_s, M1.2.1]
  have W : wp (Md_never_b22 h1 2000 (ishl 1 (n : Int) - 1) 0) (fun r h' => r = nevV n f ∧ On SCA h h') := by
    unfold Md_never_b22
    refine itr_wp (fun i σ => ∃ (h2 : Hp), σ = (h2, 2000, (fo (nvS n) i (f, ishl 1 (n : Int) - 1)).2, (i : Int)) ∧ On SCA h h2 ∧ StM h2 2033 n (fo (nvS n) i (f, ishl 1 (n : Int) - 1)).1 ∧ (0 ≤ h2 2033 52 ∧ h2 2033 52 ≤ 60)) 20 ?_ ?_ (FU_gt (by decide)) ⟨h1, rfl, O1, M1, by rw [z1]; exact ⟨by decide, by decide⟩⟩
    · rintro i σ k hi ⟨h2, rfl, F2, M2, L2⟩ K
      obtain ⟨h3, e3, F3, M3, T3, -, -, L3, -⟩ := Md_goEvening_e M2 Abed0 L2
      show wp (Md_never_b22_body k h2 2000 (fo (nvS n) i (f, ishl 1 (n : Int) - 1)).2 (i : Int)) _
      unfold Md_never_b22_body
      rw [w32_n (x := (i : Int)) (by omega) (by omega), if_pos (by omega), cC_s SH2000' rfl, e3, cl_s]
      have KS := bkR_ok n (-1) (fo (nvS n) i (f, ishl 1 (n : Int) - 1)).1
      have e5 : Md_never_b41 k h3 2000 (fo (nvS n) i (f, ishl 1 (n : Int) - 1)).2 (i : Int) 0 = k (h3, 2000, (fo (nvS n) (i + 1) (f, ishl 1 (n : Int) - 1)).2, (i : Int) + 1) := by
        unfold Md_never_b41
        refine itr_run (fun p : Nat => (h3, 2000, fo (nvI (bkR n (-1) (fo (nvS n) i (f, ishl 1 (n : Int) - 1)).1)) p (fo (nvS n) i (f, ishl 1 (n : Int) - 1)).2, (i : Int), (p : Int))) (n := n) ?_ ?_ (FU_gt (by omega))
        · intro p hp k30
          show Md_never_b41_body k k30 h3 2000 (fo (nvI (bkR n (-1) (fo (nvS n) i (f, ishl 1 (n : Int) - 1)).1)) p (fo (nvS n) i (f, ishl 1 (n : Int) - 1)).2) (i : Int) (p : Int) = k30 (h3, 2000, nvI (bkR n (-1) (fo (nvS n) i (f, ishl 1 (n : Int) - 1)).1) p (fo (nvI (bkR n (-1) (fo (nvS n) i (f, ishl 1 (n : Int) - 1)).1)) p (fo (nvS n) i (f, ishl 1 (n : Int) - 1)).2), (i : Int), (p : Int) + 1)
          generalize fo (nvI (bkR n (-1) (fo (nvS n) i (f, ishl 1 (n : Int) - 1)).1)) p (fo (nvS n) i (f, ishl 1 (n : Int) - 1)).2 = b
          have Ww := with_w T3 KS n6 (k := (p : Int)) (by omega) (by omega)
          generalize bkR n (-1) (fo (nvS n) i (f, ishl 1 (n : Int) - 1)).1 = seat at Ww
          unfold Md_never_b41_body nvI
          rw [cC_s SH2000' rfl, M3.2.1, w32_n (x := (p : Int)) (by omega) (by omega), w32_n (x := (n : Int)) (by omega) (by omega), if_pos (by omega), cX_s SH2038 (by omega) (by omega) (by decide), rd_ge (by decide)]
          by_cases c : seat (p : Int) = 9
          · rw [if_pos (Ww.mpr c), if_pos c]
          · rw [if_neg (fun q => c (Ww.mp q)), if_neg c, bd_s]
        · intro k30
          show Md_never_b41_body k k30 h3 2000 (fo (nvI (bkR n (-1) (fo (nvS n) i (f, ishl 1 (n : Int) - 1)).1)) n (fo (nvS n) i (f, ishl 1 (n : Int) - 1)).2) (i : Int) (n : Int) = _
          unfold Md_never_b41_body
          rw [cC_s SH2000' rfl, M3.2.1, if_neg (Int.lt_irrefl _)]
          rfl
      rw [e5]
      exact K _ ⟨h3, rfl, F2.tr F3.sc, M3, by rw [L3]; omega⟩
    · rintro σ k ⟨h2, rfl, F2, -⟩
      show wp (Md_never_b22_body k h2 2000 (nevV n f) ((20 : Nat) : Int)) _
      unfold Md_never_b22_body
      rw [if_neg (by decide)]
      exact wp_i ⟨rfl, F2⟩
  obtain ⟨r, h', e, rfl, q⟩ := W
  exact ⟨h', e, q⟩
end M
end PureJ
