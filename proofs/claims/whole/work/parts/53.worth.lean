section PureWorth
/-! how many evenings a wrong is worth: the class and the reference by one function -/
def evL (g hd lo bo ma ev : Int) : Int → Int := fun i => if i = 0 then g else if i = 1 then hd else if i = 2 then lo else if i = 3 then bo else if i = 4 then ma else ev
def dnV (y : Pw) (g hd lo bo ma ev : Int) : Int := (y.2 (evL g hd lo bo ma ev)).getD 0
def LwI (h : Hp) (lc : Nat) (ly : Nat → Pw) : Prop := h 20 5 = (lc : Int) ∧ h 2000 7 = (lc : Int) ∧ lc ≤ 4 ∧ ∀ i : Nat, i < lc → ∃ (B : Nat → Int) (L q : Nat), BOK B L ∧ laP B L = (q, some (ly i)) ∧ h 2003 (i : Int) = (L : Int) ∧ (∀ k : Nat, k < L → h 2002 (240 * (i : Int) + (k : Int)) = w8 (B k)) ∧ LCo h (1000 + 10 * (i : Int)) (ly i).1 ∧ (ly i).1.length ≤ 240
def LhI (h : Hp) (lc : Nat) (k : Int) : Prop := h 20 6 = k ∧ h 2000 34 = k ∧ -1 ≤ k ∧ k < (lc : Int)
def KOk (g hd lo bo ma ev : Int) : Prop := (0 ≤ g ∧ g ≤ 9) ∧ (0 ≤ hd ∧ hd ≤ 9) ∧ (0 ≤ lo ∧ lo ≤ 9) ∧ (0 ≤ bo ∧ bo ≤ 9) ∧ (0 ≤ ma ∧ ma ≤ 8) ∧ (0 ≤ ev ∧ ev ≤ 999)
def keyV (k g hd lo bo ma ev : Int) : Int := 2000 * (10 * (10 * (10 * (10 * (10 * (1 + k) + g) + hd) + lo) + bo) + ma) + ev
def MmI (h : Hp) (lc : Nat) (ly : Nat → Pw) : Prop := ∀ s : Int, 0 ≤ s → s < 8191 → h 2036 s = 0 ∨ ∃ (i : Nat) (g hd lo bo ma ev : Int), i < lc ∧ KOk g hd lo bo ma ev ∧ h 2036 s = keyV (i : Int) g hd lo bo ma ev ∧ h 2037 s = dnV (ly i) g hd lo bo ma ev
def woV (ly : Nat → Pw) (k g hd lo bo ma ev : Int) : Int := if k = -1 then 2 * g + hd - lo.tdiv 2 else dnV (ly k.toNat) g hd lo bo ma ev
def mwV (mo x : Int) : Int := if x < mo then (if 1 < x then x else 1) else mo
theorem mwV_b {mo x : Int} (h : 1 ≤ mo) : 1 ≤ mwV mo x ∧ mwV mo x ≤ mo := by
  unfold mwV
  by_cases c : x < mo
  · rw [if_pos c]
    by_cases d : 1 < x
    · rw [if_pos d]; omega
    · rw [if_neg d]; omega
  · rw [if_neg c]; omega
theorem ev_EB {g hd lo bo ma ev : Int} (K : KOk g hd lo bo ma ev) : EBv (evL g hd lo bo ma ev) := by
  obtain ⟨⟨a1, a2⟩, ⟨b1, b2⟩, ⟨c1, c2⟩, ⟨d1, d2⟩, ⟨e1, e2⟩, f1, f2⟩ := K
  intro i _ _
  unfold evL
  by_cases z0 : i = 0
  · rw [if_pos z0]; omega
  · rw [if_neg z0]
    by_cases z1 : i = 1
    · rw [if_pos z1]; omega
    · rw [if_neg z1]
      by_cases z2 : i = 2
      · rw [if_pos z2]; omega
      · rw [if_neg z2]
        by_cases z3 : i = 3
        · rw [if_pos z3]; omega
        · rw [if_neg z3]
          by_cases z4 : i = 4
          · rw [if_pos z4]; omega
          · rw [if_neg z4]; omega
section M
variable {h h' : Hp} {n W lc : Nat} {f ru pd wd : Int → Int} {ly : Nat → Pw} {k s : Int}
theorem woV_b (I : LwI h lc ly) (k0 : -1 ≤ k) (k1 : k < (lc : Int)) {g hd lo bo ma ev : Int} (K : KOk g hd lo bo ma ev) : V1 (woV ly k g hd lo bo ma ev) := by
  unfold woV
  by_cases c : k = -1
  · obtain ⟨⟨a1, a2⟩, ⟨b1, b2⟩, ⟨c1, c2⟩, -⟩ := K
    have e : lo.tdiv 2 = lo / 2 := Int.tdiv_eq_ediv_of_nonneg c1
    rw [if_pos c, e]
    unfold V1
    omega
  · rw [if_neg c]
    obtain ⟨B, L, q, b, e, -, -, -, l⟩ := I.2.2.2 k.toNat (by omega)
    exact worth_V b e l (ev_EB K)
/-- what the class spoils when it weighs -/
def WC (x k : Int) : Prop := x = 75 ∨ (1000 ≤ x ∧ x < 1050 ∧ (x % 10 = 2 ∨ (x % 10 = 0 ∧ k = 3)))
theorem wc_sc (F : On WC h h') : On SCA h h' := F.w (fun x k q => by
  rcases q with q | q
  · exact Or.inr (Or.inr (Or.inr (Or.inl q)))
  · exact Or.inr (Or.inr (Or.inr (Or.inr (Or.inr (Or.inr (Or.inr (Or.inr (Or.inl q)))))))))
theorem StA.wc (A : StA h s n f) (F : On WC h h') : StA h' s n f := by
  obtain ⟨i1, i2, i3⟩ := A.1
  have e : ∀ k : Int, h' s k = h s k := fun k => F s k (fun q => by unfold WC at q; omega)
  have r : ∀ j : Int, 1 ≤ j → j < 4 → h' (s + j) = h (s + j) := fun j j0 j1 => F.row (fun k q => by unfold WC at q; omega)
  exact ⟨A.1, by rw [e 4]; exact A.2.1, by
    rw [cR_c (e 4) (e 5) (e 6) (e 7) (e 8) (r 1 (by decide) (by decide)) (r 2 (by decide) (by decide)) (r 3 (by decide) (by decide))]
    exact A.2.2.1, A.2.2.2⟩
theorem lawAt_e (h : Hp) {i : Int} (i0 : 0 ≤ i) (i1 : i < 5) : Cc_lawAt h 20 i = some (1000 + 10 * i, h) := by
  have SH50 : SH 50 = (110, 5) := by decide +kernel
  unfold Cc_lawAt Cc_lawAt_b23
  have e5 : w32 ((5 : Nat) : Int) = 5 := by decide
  rw [w32_n i0 (by omega), if_neg (by omega), cC_s SH20' rfl, cN_s SH50 (by decide) (by decide), SH50, e5, if_pos i1, cX_s SH50 i0 i1 (by decide)]
  have e : PT 50 i = 1000 + 10 * i := by
    unfold PT
    rw [if_neg (by decide), if_pos rfl]
  rw [e, if_neg (by omega)]
theorem c_most (C : CtA h n W ru pd wd) : Cy_mostWorth h (h 20 1) = some (ru 0, h) := by
  obtain ⟨s0, s1, s2, s3, s4⟩ := C.shc
  unfold Cy_mostWorth
  rw [cC_s s0 rfl, at_eq s1 (by omega) (by omega) (by omega) (by omega), cl_s, C.2.2.2.1 0 (by decide) (by decide)]
theorem c_hard (C : CtA h n W ru pd wd) {p : Int} (p0 : 0 ≤ p) (p1 : p < n) : Cy_hardOf h (h 20 1) p = some (pd (3 * p + 2), h) := by
  obtain ⟨s0, s1, s2, s3, s4⟩ := C.shc
  have n6 := C.1.2.2
  unfold Cy_hardOf
  rw [cC_s s0 rfl, at_eq s2 (by omega) (by omega) (by omega) (by omega), cl_s, C.2.2.2.2.1 _ (by omega) (by omega)]
theorem b139_e (C : CtA h n W ru pd wd) (r1 : 1 ≤ ru 0 ∧ ru 0 ≤ 30) {x : Int} (hx : V1 x) : Cc_worthBy_b139 h 20 x = some (mwV (ru 0) x, h) := by
  unfold Cc_worthBy_b139 mwV
  rw [cC_s SH20' rfl, cC_s C.shc.1 rfl, c_most C, cl_s, w32_V hx, w32_n (x := ru 0) (by omega) (by omega)]
  by_cases c : x < ru 0
  · rw [if_neg (show ¬ ru 0 < x by omega), if_pos c, w32_V hx]
  · rw [if_neg c]
    by_cases d : ru 0 < x
    · rw [if_pos d, w32_n (x := ru 0) (by omega) (by omega)]
      by_cases e : 1 < ru 0
      · rw [if_pos e]
      · rw [if_neg e, show ru 0 = 1 by omega]
    · have e : x = ru 0 := by omega
      rw [if_neg d, e, w32_n (x := ru 0) (by omega) (by omega)]
      by_cases e : 1 < ru 0
      · rw [if_pos e]
      · rw [if_neg e, show ru 0 = 1 by omega]
theorem c_worth (C : CtA h n W ru pd wd) (A : StA h s n f) (I : LwI h lc ly) (H : LhI h lc k) (r1 : 1 ≤ ru 0 ∧ ru 0 ≤ 30) (f48 : 0 ≤ f 48 ∧ f 48 < ((2 ^ W : Nat) : Int)) {who whom g : Int} (p0 : 0 ≤ who) (p1 : who < n) (q0 : 0 ≤ whom) (q1 : whom < n) (K : KOk g (pd (3 * who + 2)) (f (36 + 2 * whom)) (f (37 + 2 * whom)) (scV W wd (f 48) who) (f 51)) : ∃ h', Cc_worthBy h 20 s who whom g = some (mwV (ru 0) (woV ly k g (pd (3 * who + 2)) (f (36 + 2 * whom)) (f (37 + 2 * whom)) (scV W wd (f 48) who) (f 51)), h') ∧ On WC h h' := by
  obtain ⟨H1, H2, H3, H4⟩ := H
  have wb := woV_b I H3 H4 K
  have n6 := C.1.2.2
  have W8 := C.2.2.1
  unfold Cc_worthBy
  rw [cC_s SH20' rfl, H1, w32_id (x := k) (by omega) (by have := I.2.2.1; omega)]
  by_cases c : k = -1
  · have e2 : woV ly k g (pd (3 * who + 2)) (f (36 + 2 * whom)) (f (37 + 2 * whom)) (scV W wd (f 48) who) (f 51) = 2 * g + pd (3 * who + 2) - (f (36 + 2 * whom)).tdiv 2 := if_pos c
    have l9 := K.2.2.1
    rw [if_pos c, cC_s C.shc.1 rfl, c_hard C p0 p1, cl_s, cC_s (IsS_sh A.1).1 rfl, St_lonelyOf_e A q0 q1, cl_s, cD_2, w32_n (x := f (36 + 2 * whom)) (by omega) (by omega), show w32 2 = 2 by decide, bd_s, ← e2, b139_e C r1 wb]
    exact ⟨h, rfl, On.rf⟩
  · have e2 : woV ly k g (pd (3 * who + 2)) (f (36 + 2 * whom)) (f (37 + 2 * whom)) (scV W wd (f 48) who) (f 51) = dnV (ly k.toNat) g (pd (3 * who + 2)) (f (36 + 2 * whom)) (f (37 + 2 * whom)) (scV W wd (f 48) who) (f 51) := if_neg c
    have step : ∀ (h1 : Hp) (j v : Int), On WC h h1 → 0 ≤ j → (∀ l : Int, 0 ≤ l → l < j → h1 75 l = evL g (pd (3 * who + 2)) (f (36 + 2 * whom)) (f (37 + 2 * whom)) (scV W wd (f 48) who) (f 51) l) → v = evL g (pd (3 * who + 2)) (f (36 + 2 * whom)) (f (37 + 2 * whom)) (scV W wd (f 48) who) (f 51) j → On WC h (up h1 75 j v) ∧ ∀ l : Int, 0 ≤ l → l < j + 1 → up h1 75 j v 75 l = evL g (pd (3 * who + 2)) (f (36 + 2 * whom)) (f (37 + 2 * whom)) (scV W wd (f 48) who) (f 51) l := by
      intro h1 j v F1 j0 T e
      refine ⟨F1.tr (On.up (Or.inl rfl)), fun l l0 l1 => ?_⟩
      by_cases z : l = j
      · rw [z, up_at, e]
      · rw [up_off z]; exact T l l0 (by omega)
    have at20 : ∀ h1 : Hp, On WC h h1 → h1 20 1 = h 20 1 ∧ h1 20 6 = k := fun h1 F1 => ⟨F1 20 1 (fun q => by unfold WC at q; omega), by rw [F1 20 6 (fun q => by unfold WC at q; omega)]; exact H1⟩
    rw [if_neg c, put_eq SH75 (by omega) (by omega) (by omega) (by omega), cl_s]
    obtain ⟨F1, T1⟩ := step h 0 g On.rf (by omega) (fun l l0 l1 => absurd l1 (by omega)) rfl
    generalize up h 75 0 g = h1 at *
    have C1 := C.on (wc_sc F1)
    rw [cC_s C1.shc.1 rfl, c_hard C1 p0 p1, cl_s, put_eq SH75 (by omega) (by omega) (by omega) (by omega), cl_s]
    obtain ⟨F2, T2⟩ := step h1 1 (pd (3 * who + 2)) F1 (by omega) T1 rfl
    generalize up h1 75 1 (pd (3 * who + 2)) = h2 at *
    rw [cC_s (IsS_sh A.1).1 rfl, St_lonelyOf_e (A.wc F2) q0 q1, cl_s, put_eq SH75 (by omega) (by omega) (by omega) (by omega), cl_s]
    obtain ⟨F3, T3⟩ := step h2 2 (f (36 + 2 * whom)) F2 (by omega) T2 rfl
    generalize up h2 75 2 (f (36 + 2 * whom)) = h3 at *
    rw [St_boreOf_e (A.wc F3) q0 q1, cl_s, put_eq SH75 (by omega) (by omega) (by omega) (by omega), cl_s]
    obtain ⟨F4, T4⟩ := step h3 3 (f (37 + 2 * whom)) F3 (by omega) T3 rfl
    generalize up h3 75 3 (f (37 + 2 * whom)) = h4 at *
    have C4 := C.on (wc_sc F4)
    have A4 := A.wc F4
    have e48 : h4 s 5 = f 48 := by rw [← A4.2.2.1]; exact cR_48.symm
    rw [cC_s C4.shc.1 rfl, c_by C4, cl_s, Ji_pc, cl_s, e48, sc_pc W8 f48.1 f48.2, put_eq SH75 (by omega) (by omega) (by omega) (by omega), cl_s]
    obtain ⟨F5, T5⟩ := step h4 4 (scV W wd (f 48) who) F4 (by omega) T4 rfl
    generalize up h4 75 4 (scV W wd (f 48) who) = h5 at *
    have A5 := A.wc F5
    have e51 : h5 s 8 = f 51 := by rw [← A5.2.2.1]; exact cR_51.symm
    rw [e51, put_eq SH75 (by omega) (by omega) (by omega) (by omega), cl_s]
    obtain ⟨F6, T6⟩ := step h5 5 (f 51) F5 (by omega) T5 rfl
    generalize up h5 75 5 (f 51) = h6 at *
    have lc4 := I.2.2.1
    obtain ⟨B, L, q, b, e, -, -, co, cl⟩ := I.2.2.2 k.toNat (by omega)
    have ek : (k.toNat : Int) = k := by omega
    rw [ek] at co
    have ia : IsL (1000 + 10 * k) := ⟨by omega, by omega, by omega⟩
    have w6 : WSt h6 (1000 + 10 * k) (ly k.toNat).1 (evL g (pd (3 * who + 2)) (f (36 + 2 * whom)) (f (37 + 2 * whom)) (scV W wd (f 48) who) (f 51)) := by
      refine ⟨⟨?_, fun i x e => ?_⟩, cl, T6, ev_EB K⟩
      · rw [F6 _ 2 (fun q => by unfold WC at q; omega)]; exact co.1
      · rw [F6 _ _ (fun q => by unfold WC at q; omega)]; exact co.2 i x e
    obtain ⟨h7, e7, F7, v7⟩ := Lw_worth_e b ia e w6
    have F67 : On WC h6 h7 := F7.w (fun x k2 q => by unfold WTa at q; exact Or.inr (by omega))
    have e8 : Lw_worth h6 (1000 + 10 * k) 75 = some (dnV (ly k.toNat) g (pd (3 * who + 2)) (f (36 + 2 * whom)) (f (37 + 2 * whom)) (scV W wd (f 48) who) (f 51), h7) := e7
    rw [(at20 h6 F6).2, lawAt_e h6 (by omega) (by omega), cl_s, cC_s (IsL_sh ia).1 rfl, e8, cl_s, ← e2, b139_e (C.on (wc_sc (F6.tr F67))) r1 wb]
    exact ⟨h7, rfl, F6.tr F67⟩
/-! the reference -/
def MW (x k : Int) : Prop := (x = 2000 ∧ (k = 5 ∨ (8 ≤ k ∧ k < 15) ∨ k = 17)) ∨ x = 2004 ∨ x = 2036 ∨ x = 2037
theorem SH2003 : SH 2003 = (100, 4) := by decide +kernel
theorem SH2018 : SH 2018 = (100, 2) := by decide +kernel
theorem SH2036 : SH 2036 = (102, 8191) := by decide +kernel
theorem SH2037 : SH 2037 = (100, 8191) := by decide +kernel
theorem lcm_q (x y : Int) : w32 (lcm x y) = 0 ↔ w64 x = w64 y := by
  unfold lcm
  by_cases c : w64 y < w64 x
  · rw [if_pos c]; exact ⟨fun e => absurd e (by decide), fun e => by omega⟩
  · rw [if_neg c]
    by_cases d : w64 x = w64 y
    · rw [if_pos d]; exact ⟨fun _ => d, fun _ => by decide⟩
    · rw [if_neg d]; exact ⟨fun e => absurd e (by decide), fun e => absurd e d⟩
theorem key_b {i g hd lo bo ma ev : Int} (i0 : 0 ≤ i) (i1 : i < 4) (K : KOk g hd lo bo ma ev) : 0 < keyV i g hd lo bo ma ev ∧ keyV i g hd lo bo ma ev < 100000000000 := by
  unfold KOk at K
  unfold keyV
  omega
theorem key_i {i g hd lo bo ma ev i' g' hd' lo' bo' ma' ev' : Int} (K : KOk g hd lo bo ma ev) (K' : KOk g' hd' lo' bo' ma' ev') (e : keyV i g hd lo bo ma ev = keyV i' g' hd' lo' bo' ma' ev') : i = i' ∧ g = g' ∧ hd = hd' ∧ lo = lo' ∧ bo = bo' ∧ ma = ma' ∧ ev = ev' := by
  obtain ⟨a1, b1, c1, d1, e1, f1⟩ := K
  obtain ⟨a2, b2, c2, d2, e2, f2⟩ := K'
  unfold keyV at e
  have z1 : ev = ev' ∧ 10 * (10 * (10 * (10 * (10 * (1 + i) + g) + hd) + lo) + bo) + ma = 10 * (10 * (10 * (10 * (10 * (1 + i') + g') + hd') + lo') + bo') + ma' := by omega
  obtain ⟨z1, e3⟩ := z1
  have z2 : ma = ma' ∧ 10 * (10 * (10 * (10 * (1 + i) + g) + hd) + lo) + bo = 10 * (10 * (10 * (10 * (1 + i') + g') + hd') + lo') + bo' := by omega
  obtain ⟨z2, e4⟩ := z2
  have z3 : bo = bo' ∧ 10 * (10 * (10 * (1 + i) + g) + hd) + lo = 10 * (10 * (10 * (1 + i') + g') + hd') + lo' := by omega
  obtain ⟨z3, e5⟩ := z3
  have z4 : lo = lo' ∧ 10 * (10 * (1 + i) + g) + hd = 10 * (10 * (1 + i') + g') + hd' := by omega
  obtain ⟨z4, e6⟩ := z4
  refine ⟨by omega, by omega, by omega, z4, z3, z2, z1⟩
theorem env_ev {g hd lo bo ma ev : Int} (e0 : h 2004 103 = g) (e1 : h 2004 104 = hd) (e2 : h 2004 108 = lo) (e3 : h 2004 98 = bo) (e4 : h 2004 110 = ma) (e5 : h 2004 100 = ev) : envM h = evL g hd lo bo ma ev := by
  funext i
  unfold envM evL lcI
  by_cases z0 : i = 0
  · rw [if_pos z0, if_pos z0]; exact e0
  · rw [if_neg z0, if_neg z0]
    by_cases z1 : i = 1
    · rw [if_pos z1, if_pos z1]; exact e1
    · rw [if_neg z1, if_neg z1]
      by_cases z2 : i = 2
      · rw [if_pos z2, if_pos z2]; exact e2
      · rw [if_neg z2, if_neg z2]
        by_cases z3 : i = 3
        · rw [if_pos z3, if_pos z3]; exact e3
        · rw [if_neg z3, if_neg z3]
          by_cases z4 : i = 4
          · rw [if_pos z4, if_pos z4]; exact e4
          · rw [if_neg z4, if_neg z4]; exact e5
end M
end PureWorth
