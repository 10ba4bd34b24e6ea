section PureCty4
/-! the reference reads a county's items and clauses -/
theorem sp_it : ∀ kd : Nat, kd < 3 → ∀ c : Nat, c < 256 → spF (13 + (kd : Int)) (mcV (c : Int)) (sln (13 + (kd : Int))).toNat 0 = itI (kd : Int) (c : Int) ∧ w32 (mcV (c : Int)) = mcV (c : Int) := by decide +kernel
theorem spot_c (h : Hp) {kd : Nat} (hk : kd < 3) {c : Int} (b : 0 ≤ c ∧ c ≤ 255) : Md_spotOf h (13 + (kd : Int)) (mcV c) = some (itI (kd : Int) c, h) := by
  obtain ⟨n, rfl⟩ : ∃ n : Nat, c = (n : Int) := ⟨c.toNat, by omega⟩
  obtain ⟨e1, e2⟩ := sp_it kd hk n (by omega)
  have key := Md_spotOf_e (a := 3 + kd) (by omega) e2 h
  have ea : 10 + ((3 + kd : Nat) : Int) = 13 + (kd : Int) := by omega
  rw [ea, e1] at key
  exact key
def kdC (kd : Int) : Int := if kd = 0 then 115 else if kd = 1 then 112 else 119
def lnI (kd : Int) : Int := if kd = 0 then 2 else 3
theorem tab_m : ∀ kd : Nat, kd < 3 → ∀ j : Nat, j < 3 → ∀ h : Hp, Md_usual h (kdC (kd : Int)) (j : Int) = some (if kd = 0 ∧ j = 2 then 20 else usI (kd : Int) (j : Int), h) ∧ Md_leastOf h (kdC (kd : Int)) (j : Int) = some (leI (kd : Int) (j : Int), h) ∧ Md_mostOf h (kdC (kd : Int)) (j : Int) = some (moI (kd : Int) (j : Int), h) := by
  intro kd hk j hj h
  have k3 : kd = 0 ∨ kd = 1 ∨ kd = 2 := by omega
  have j3 : j = 0 ∨ j = 1 ∨ j = 2 := by omega
  rcases k3 with e | e | e <;> subst e <;> rcases j3 with e | e | e <;> subst e <;> exact ⟨rfl, rfl, rfl⟩
theorem ln_w : ∀ kd : Nat, kd < 3 → w32 (sln (13 + (kd : Int))) = lnI (kd : Int) ∧ (10 ≤ 13 + (kd : Int) ∧ 13 + (kd : Int) < 17) ∧ 2 ≤ lnI (kd : Int) ∧ lnI (kd : Int) ≤ 3 ∧ (lnI (kd : Int)).toNat < 4 := by decide +kernel
def MTi (R fr0 ln x k : Int) : Prop := (x = 2000 ∧ (k = 10 ∨ k = 11 ∨ k = 12)) ∨ (x = R ∧ fr0 ≤ k ∧ k < fr0 + ln)
def RwM (R fr0 ln : Int) (sz : Nat) : Prop := SH R = (100, sz) ∧ 2010 ≤ R ∧ 0 ≤ fr0 ∧ fr0 + ln ≤ (sz : Int) ∧ sz ≤ 100 ∧ ln ≤ 3
def ItM (h : Hp) (R fr0 ln : Int) (r : Int → Int) : Prop := ∀ j : Int, 0 ≤ j → j < ln → h R (fr0 + j) = r j
section M
variable {B : Nat → Int} {L p q : Nat} {h h1 : Hp} {R fr0 ln dp : Int} {sz : Nat} {r : Int → Int}
abbrev PMt (h : Hp) (B : Nat → Int) (L p : Nat) (dp : Int) : Prop := PM h 2001 0 B L p dp
theorem ro1 : ROk 2001 0 := Or.inl ⟨rfl, rfl⟩
theorem PM.on (P : PMt h B L p dp) (e : ∀ k : Int, (k = 5 ∨ k = 8 ∨ k = 9 ∨ k = 10 ∨ k = 11 ∨ k = 12) → h1 2000 k = h 2000 k) (e1 : h1 2001 = h 2001) : PMt h1 B L p dp := by
  obtain ⟨p1, p2, p3, p4, p5, p6, p7, p8⟩ := P
  exact ⟨by rw [e 5 (by omega)]; exact p1, by rw [e 8 (by omega)]; exact p2, by rw [e 9 (by omega)]; exact p3, by rw [e 10 (by omega)]; exact p4, p5, by rw [e 11 (by omega)]; exact p6, by rw [e 12 (by omega)]; exact p7, fun k hk => by rw [e1]; exact p8 k hk⟩
theorem b67_m (b : BOK B L) (P : PMt h B L q dp) {lo hi v : Int} (l0 : ir lo) (h0 : ir hi) (v0 : ir v) (q1 : 1 ≤ q) : (isD (chP B L q) → ∃ z, Md_number_b67 h 2000 lo hi v = some (z, up h 2000 11 (q : Int))) ∧ (¬ isD (chP B L q) → (v < lo ∨ hi < v) → ∃ z, Md_number_b67 h 2000 lo hi v = some (z, up (up h 2000 10 ((q - 1 : Nat) : Int)) 2000 11 ((q - 1 : Nat) : Int))) ∧ (¬ isD (chP B L q) → ¬ (v < lo ∨ hi < v) → Md_number_b67 h 2000 lo hi v = some (v, h)) := by
  unfold Md_number_b67
  rw [cC_s SH2000' rfl, Md_isD ro1 b P, cl_s, ri l0, ri h0, ri v0]
  refine ⟨fun c => ?_, fun c d => ?_, fun c d => ?_⟩
  · rw [ifD_1 c, if_neg (show ¬ w32 1 = 0 by decide), Md_fails_1 P, cl_s]
    exact ⟨0, rfl⟩
  · have e1 : (q : Int) - 1 = ((q - 1 : Nat) : Int) := by omega
    have P2 : PMt (up h 2000 10 ((q - 1 : Nat) : Int)) B L (q - 1) dp := P.mv ro1 (by have := P.2.2.2.2.1; omega)
    rw [ifD_0 c, if_pos (show w32 0 = 0 by decide), isIn0 v0 l0 h0 (by omega), cl_s, if_pos (show w32 0 = 0 by decide), P.2.2.2.1, e1, pu_s, Md_fails_1 P2, cl_s]
    exact ⟨v, rfl⟩
  · rw [ifD_0 c, if_pos (show w32 0 = 0 by decide), isIn1 v0 l0 h0 (by omega), cl_s, if_neg (show ¬ w32 1 = 0 by decide)]
theorem num_m (b : BOK B L) (P : PMt h B L p dp) {lo hi : Int} (l0 : ir lo) (h0 : ir hi) : (∃ (w : Nat) (z : Int) (h' : Hp), nuG B L 2 lo hi (nxP B L p) = (w, none) ∧ w ≤ L ∧ Md_number h 2000 lo hi = some (z, h') ∧ On MTm h h' ∧ h' 2000 11 = (w : Int)) ∨ (∃ (q : Nat) (v : Int), nuG B L 2 lo hi (nxP B L p) = (q, some v) ∧ p < q ∧ q ≤ L ∧ Md_number h 2000 lo hi = some (v, up h 2000 10 (q : Int))) := by
  obtain ⟨n1, n2, n3⟩ := nxP_r (B := B) P.2.2.2.2.1
  have cb := chP_b (p := nxP B L p) b
  have P1 := P.mv ro1 n2
  unfold Md_number nuG
  rw [cC_s SH2000' rfl, Md_look_e ro1 b P, cl_s, Md_isD ro1 b P1, cl_s]
  by_cases c : isD (chP B L (nxP B L p))
  · have hl := chP_lt (B := B) (L := L) (p := nxP B L p) (fun e => by rw [e] at c; have := c.1; omega)
    obtain ⟨cd0, cd1⟩ := id c
    have em : mcV (chP B L (nxP B L p)) = chP B L (nxP B L p) := if_neg (by omega)
    have P2 : PMt (up h 2000 10 ((nxP B L p : Int) + 1)) B L (nxP B L p + 1) dp := P.mv ro1 (q := nxP B L p + 1) (by omega)
    have cb2 := chP_b (p := nxP B L p + 1) b
    rw [ifD_1 c, ifD_1 c, if_neg (show ¬ w32 1 = 0 by decide), bd_s, pu_s, up_at, up_up, em, Md_isD ro1 b P2, cl_s]
    have ed : dgP B L 2 (nxP B L p) 0 = ifD (chP B L (nxP B L p + 1)) (nxP B L p + 2, 10 * (10 * 0 + chP B L (nxP B L p) - 48) + chP B L (nxP B L p + 1) - 48) (nxP B L p + 1, 10 * 0 + chP B L (nxP B L p) - 48) := by
      show ifD (chP B L (nxP B L p)) (ifD (chP B L (nxP B L p + 1)) (nxP B L p + 1 + 1, 10 * (10 * 0 + chP B L (nxP B L p) - 48) + chP B L (nxP B L p + 1) - 48) (nxP B L p + 1, 10 * 0 + chP B L (nxP B L p) - 48)) (nxP B L p, 0) = _
      rw [ifD_1 c]
    rw [ed]
    by_cases c2 : isD (chP B L (nxP B L p + 1))
    · obtain ⟨ce0, ce1⟩ := id c2
      have hl2 := chP_lt (B := B) (L := L) (p := nxP B L p + 1) (fun e => by rw [e] at c2; have := c2.1; omega)
      have em2 : mcV (chP B L (nxP B L p + 1)) = chP B L (nxP B L p + 1) := if_neg (by omega)
      have hh : Md_here (up h 2000 10 ((nxP B L p : Int) + 1)) 2000 = some (mcV (chP B L (nxP B L p + 1)), up h 2000 10 ((nxP B L p : Int) + 1)) := look43 ro1 b P2
      have P3 : PMt (up h 2000 10 ((nxP B L p : Int) + 2)) B L (nxP B L p + 2) dp := P.mv ro1 (q := nxP B L p + 2) (by omega)
      have e2 : (nxP B L p : Int) + 1 + 1 = (nxP B L p : Int) + 2 := by omega
      have e3 : 10 * (chP B L (nxP B L p) - 48) + chP B L (nxP B L p + 1) - 48 = 10 * (10 * 0 + chP B L (nxP B L p) - 48) + chP B L (nxP B L p + 1) - 48 := by omega
      rw [ifD_1 c2, ifD_1 c2, if_neg (show ¬ w32 1 = 0 by decide), hh, cl_s, em2, bd_s, pu_s, up_at, up_up, e2, e3]
      obtain ⟨k1, k2, k3⟩ := b67_m b P3 (v := 10 * (10 * 0 + chP B L (nxP B L p) - 48) + chP B L (nxP B L p + 1) - 48) l0 h0 ⟨by omega, by omega⟩ (by omega)
      dsimp only
      by_cases c3 : isD (chP B L (nxP B L p + 2))
      · obtain ⟨z, e4⟩ := k1 c3
        exact Or.inl ⟨_, z, _, by rw [ifD_1 c3], P3.2.2.2.2.1, e4, mt_a.tr mt_f, up_at⟩
      · rw [ifD_0 c3]
        by_cases c4 : 10 * (10 * 0 + chP B L (nxP B L p) - 48) + chP B L (nxP B L p + 1) - 48 < lo ∨ hi < 10 * (10 * 0 + chP B L (nxP B L p) - 48) + chP B L (nxP B L p + 1) - 48
        · obtain ⟨z, e4⟩ := k2 c3 c4
          rw [up_up] at e4
          exact Or.inl ⟨_, z, _, by rw [if_pos c4], by omega, e4, mt_a.tr mt_f, up_at⟩
        · exact Or.inr ⟨nxP B L p + 2, _, by rw [if_neg c4], by omega, by omega, k3 c3 c4⟩
    · rw [ifD_0 (α := Int) (x := 1) (y := 0) c2, ifD_0 c2, if_pos (show w32 0 = 0 by decide)]
      have e3 : chP B L (nxP B L p) - 48 = 10 * 0 + chP B L (nxP B L p) - 48 := by omega
      rw [e3]
      obtain ⟨k1, k2, k3⟩ := b67_m b P2 (v := 10 * 0 + chP B L (nxP B L p) - 48) l0 h0 ⟨by omega, by omega⟩ (by omega)
      dsimp only
      rw [ifD_0 c2]
      by_cases c4 : 10 * 0 + chP B L (nxP B L p) - 48 < lo ∨ hi < 10 * 0 + chP B L (nxP B L p) - 48
      · obtain ⟨z, e4⟩ := k2 c2 c4
        rw [up_up] at e4
        exact Or.inl ⟨_, z, _, by rw [if_pos c4], by omega, e4, mt_a.tr mt_f, up_at⟩
      · exact Or.inr ⟨nxP B L p + 1, _, by rw [if_neg c4], by omega, by omega, k3 c2 c4⟩
  · rw [ifD_0 c, ifD_0 c, if_pos (show w32 0 = 0 by decide), Md_fails_1 P1, cl_s]
    exact Or.inl ⟨_, 0, _, rfl, n2, rfl, mt_a.tr mt_f, up_at⟩
def MIs (R fr0 ln : Int) (B : Nat → Int) (L : Nat) (dp : Int) (p : Nat) (t : Nat × Option (Int → Int)) (h : Hp) (h' : Hp) : Prop := On (MTi R fr0 ln) h h' ∧ ((∃ w : Nat, t = (w, none) ∧ w ≤ L ∧ h' 2000 11 = (w : Int)) ∨ ∃ (q : Nat) (y : Int → Int), t = (q, some y) ∧ p ≤ q ∧ nxP B L q = q ∧ PMt h' B L q dp ∧ ItM h' R fr0 ln y)
theorem mi_a {v : Int} {h : Hp} : On (MTi R fr0 ln) h (up h 2000 10 v) := On.up (Or.inl ⟨rfl, Or.inl rfl⟩)
theorem mi_f {v : Int} {h : Hp} : On (MTi R fr0 ln) h (up h 2000 11 v) := On.up (Or.inl ⟨rfl, Or.inr (Or.inl rfl)⟩)
/-- items, behind a first look -/
theorem itm_it (b : BOK B L) {kd : Nat} (hk : kd < 3) (O : RwM R fr0 (lnI (kd : Int)) sz) {h0 : Hp} {p0 : Nat} : ∀ (d M p m : Nat) (h : Hp) (r : Int → Int), d + pc3 m = 4 → m < 8 → d < M → p0 ≤ p → p ≤ L → PMt h B L (nxP B L p) dp → ItM h R fr0 (lnI (kd : Int)) r → On (MTi R fr0 (lnI (kd : Int))) h0 h → wp (itr (fun k s => Md_readItems_b45_body k s.1 s.2.1 s.2.2.1 s.2.2.2.1 s.2.2.2.2.1 s.2.2.2.2.2.1 s.2.2.2.2.2.2.1 s.2.2.2.2.2.2.2) M (h, 2000, kdC (kd : Int), R, fr0, 13 + (kd : Int), (m : Int), itI (kd : Int) (chP B L (nxP B L p)))) (fun _ h' => MIs R fr0 (lnI (kd : Int)) B L dp p0 (itL B L (kd : Int) d p (m : Int) r) h0 h') := by
  obtain ⟨s0, r0, f0, f1, s1, l3⟩ := id O
  intro d
  induction d with
  | zero =>
    intro M p m h r h1 h2 h3 h4 hL P A F
    have := pc3_b m h2
    omega
  | succ d ih =>
    intro M p m h r h1 h2 h3 h4 hL P A F
    obtain ⟨M, rfl⟩ : ∃ M', M = M' + 1 := ⟨M - 1, by omega⟩
    obtain ⟨n1, n2, n3⟩ := nxP_r (B := B) hL
    have nn := nxP_nx (B := B) hL
    have cb := chP_b (p := nxP B L p) b
    have el : itL B L (kd : Int) (d + 1) p (m : Int) r = if itI (kd : Int) (chP B L (nxP B L p)) < 0 then (nxP B L p, some r) else ifH (m : Int) (itI (kd : Int) (chP B L (nxP B L p))) (nxP B L p, none) (bnP (nuG B L 2 (leI (kd : Int) (itI (kd : Int) (chP B L (nxP B L p)))) (moI (kd : Int) (itI (kd : Int) (chP B L (nxP B L p)))) (nxP B L (nxP B L p + 1))) (fun p' v => itL B L (kd : Int) d p' (ior (m : Int) (ishl 1 (itI (kd : Int) (chP B L (nxP B L p))))) (ud r (itI (kd : Int) (chP B L (nxP B L p))) v))) := rfl
    rw [el, itr_s]
    show wp (Md_readItems_b45_body _ h 2000 (kdC (kd : Int)) R fr0 (13 + (kd : Int)) (m : Int) (itI (kd : Int) (chP B L (nxP B L p)))) _
    unfold Md_readItems_b45_body
    have ib := itI_b (kd : Int) (chP B L (nxP B L p))
    have i0 := (itI_0 (kd : Int)).1
    have cl0 : 0 ≤ itI (kd : Int) (chP B L (nxP B L p)) → nxP B L p < L := fun z => chP_lt (fun e => by rw [e, i0] at z; omega)
    generalize hj : itI (kd : Int) (chP B L (nxP B L p)) = j at *
    rw [w32_id (x := j) (by omega) (by omega)]
    by_cases cj : j < 0
    · rw [if_pos (by omega), if_pos cj]
      exact wp_i ⟨F, Or.inr ⟨_, r, rfl, by omega, nn, P, A⟩⟩
    · have hl := cl0 (by omega)
      rw [if_neg (by omega), if_neg cj, cC_s SH2000' rfl, if_pos (fl_1 P), Md_has_p, cl_s]
      obtain ⟨jn, rfl⟩ : ∃ jn : Nat, j = (jn : Int) := ⟨j.toNat, by omega⟩
      by_cases ch : hbP (m : Int) (jn : Int)
      · have ch' : w32 (iand (ishr (m : Int) (jn : Int)) 1) = 1 := ch
        rw [ifH_1 ch, if_pos ch', if_neg (show ¬ w32 1 = 0 by decide), Md_fails_1 P, cl_s]
        exact wp_i ⟨F.tr mi_f, Or.inl ⟨_, rfl, n2, up_at⟩⟩
      · have ch' : ¬ w32 (iand (ishr (m : Int) (jn : Int)) 1) = 1 := ch
        obtain ⟨m1, m2, m3⟩ := (met_t m h2 jn (by omega)).resolve_left ch'
        have jl : (jn : Int) < lnI (kd : Int) := by
          unfold lnI
          by_cases z : (kd : Int) = 0
          · rw [if_pos z]; have := ib.2.2 z; omega
          · rw [if_neg z]; omega
        obtain ⟨t1, t2, t3⟩ := tab_m kd hk jn (by omega) (up h 2000 10 ((nxP B L p : Int) + 1))
        have P3 : PMt (up h 2000 10 ((nxP B L p : Int) + 1)) B L (nxP B L p + 1) dp := P.mv ro1 (q := nxP B L p + 1) (by omega)
        have lr : ir (leI (kd : Int) (jn : Int)) ∧ ir (moI (kd : Int) (jn : Int)) := by
          have : ∀ kd : Nat, kd < 3 → ∀ j : Nat, j < 3 → (0 ≤ leI (kd : Int) (j : Int) ∧ leI (kd : Int) (j : Int) ≤ 1) ∧ 0 ≤ moI (kd : Int) (j : Int) ∧ moI (kd : Int) (j : Int) ≤ 99 := by decide +kernel
          have z := this kd hk jn (by omega)
          exact ⟨⟨by omega, by omega⟩, ⟨by omega, by omega⟩⟩
        rw [ifH_0 ch, if_neg ch', if_pos (show w32 0 = 0 by decide), bd_s, pu_s, P.2.2.2.1, t2, cl_s, t3, cl_s]
        rcases num_m b P3 lr.1 lr.2 with ⟨w, z, h5, e1, hw, e2, F5, e5⟩ | ⟨q, v, e1, hq, hq2, e2⟩
        · rw [e2, cl_s, cY_s s0 (by omega) (by omega) (by omega) (by omega), pu_s, w32_n (x := fr0 + (jn : Int)) (by omega) (by omega), e1, bnP_n]
          have e6 : up h5 R (fr0 + (jn : Int)) z 2000 11 = (w : Int) := by rw [up_ne (by omega)]; exact e5
          have F6 : On (MTi R fr0 (lnI (kd : Int))) h0 (up h5 R (fr0 + (jn : Int)) z) := ((F.tr mi_a).tr (F5.w (fun x k q => Or.inl q))).tr (On.up (Or.inr ⟨rfl, by omega, by omega⟩))
          rw [if_neg (fl_2 b hw e6)]
          obtain ⟨M, rfl⟩ : ∃ M', M = M' + 1 := ⟨M - 1, by omega⟩
          rw [itr_s]
          show wp (Md_readItems_b45_body _ (up h5 R (fr0 + (jn : Int)) z) 2000 (kdC (kd : Int)) R fr0 (13 + (kd : Int)) (ior (m : Int) (ishl 1 (jn : Int))) (jn : Int)) _
          unfold Md_readItems_b45_body
          rw [if_neg (by rw [w32_n (by omega) (by omega)]; omega), cC_s SH2000' rfl, if_neg (fl_2 b hw e6)]
          exact wp_i ⟨F6, Or.inl ⟨w, rfl, hw, e6⟩⟩
        · rw [up_up] at e2
          obtain ⟨k1, k2, k3⟩ := nxP_r (B := B) hq2
          have cb2 := chP_b (p := nxP B L q) b
          have P4 : PMt (up (up h 2000 10 (q : Int)) R (fr0 + (jn : Int)) v) B L q dp := (P.mv ro1 hq2).on (fun k _ => by rw [up_ne (by omega)]) (up_off_row (by omega))
          rw [e2, cl_s, cY_s s0 (by omega) (by omega) (by omega) (by omega), pu_s, w32_n (x := fr0 + (jn : Int)) (by omega) (by omega), e1, bnP_s, if_pos (fl_1 P4), Md_look_e ro1 b P4, cl_s, spot_c _ hk cb2, cl_s, m1]
          refine ih M q (m + 2 ^ jn) _ (ud r (jn : Int) v) (by omega) m2 (by omega) (by omega) hq2 (P4.mv ro1 k2) (fun i i0 i1 => ?_) (((F.tr mi_a).tr (On.up (Or.inr ⟨rfl, by omega, by omega⟩))).tr mi_a)
          rw [up_ne (a := 2000) (b := R) (by omega)]
          by_cases ei : i = (jn : Int)
          · rw [ei, up_at, ud_at]
          · rw [up_off (by omega), ud_ne ei, up_ne (by omega)]; exact A i i0 i1
theorem itm_e (b : BOK B L) {kd : Nat} (hk : kd < 3) (O : RwM R fr0 (lnI (kd : Int)) sz) (P : PMt h B L p dp) : wp (Md_readItems h 2000 (kdC (kd : Int)) R fr0 (13 + (kd : Int))) (fun _ h' => MIs R fr0 (lnI (kd : Int)) B L dp p (itL B L (kd : Int) 4 p 0 (usI (kd : Int))) h h') := by
  obtain ⟨s0, r0, f0, f1, s1, l3⟩ := id O
  obtain ⟨w1, w2, w3, w4, w5⟩ := ln_w kd hk
  unfold Md_readItems Md_readItems_b3
  refine itr_wp (fun i σ => ∃ h2, σ = (h2, 2000, kdC (kd : Int), R, fr0, 13 + (kd : Int), (i : Int)) ∧ On (MTi R fr0 (lnI (kd : Int))) h h2 ∧ PMt h2 B L p dp ∧ ∀ j : Int, 0 ≤ j → j < (i : Int) → h2 R (fr0 + j) = usI (kd : Int) j) (lnI (kd : Int)).toNat ?_ ?_ (FU_gt (by omega)) ⟨h, rfl, On.rf, P, fun j j0 j1 => absurd j1 (by omega)⟩
  · rintro i σ k hi ⟨h2, rfl, F2, P2, T2⟩ K
    show wp (Md_readItems_b3_body k h2 2000 (kdC (kd : Int)) R fr0 (13 + (kd : Int)) (i : Int)) _
    have t1 := (tab_m kd hk i (by omega) h2).1
    have e2 : ¬ (kd = 0 ∧ i = 2) := fun z => by
      have z1 := z.1
      subst z1
      have z2 : lnI ((0 : Nat) : Int) = 2 := by decide
      omega
    rw [if_neg e2] at t1
    unfold Md_readItems_b3_body cS
    rw [if_pos w2, w1, w32_n (x := (i : Int)) (by omega) (by omega), if_pos (by omega), t1, cl_s, cY_s s0 (by omega) (by omega) (by omega) (by omega), pu_s, w32_n (x := fr0 + (i : Int)) (by omega) (by omega)]
    refine K _ ⟨_, rfl, F2.tr (On.up (Or.inr ⟨rfl, by omega, by omega⟩)), P2.on (fun k _ => by rw [up_ne (by omega)]) (up_off_row (by omega)), fun j j0 j1 => ?_⟩
    by_cases e : j = (i : Int)
    · rw [e, up_at]
    · rw [up_off (by omega)]; exact T2 j j0 (by omega)
  · rintro σ k ⟨h2, rfl, F2, P2, T2⟩
    have ei : (((lnI (kd : Int)).toNat : Nat) : Int) = lnI (kd : Int) := by omega
    show wp (Md_readItems_b3_body k h2 2000 (kdC (kd : Int)) R fr0 (13 + (kd : Int)) (((lnI (kd : Int)).toNat : Nat) : Int)) _
    have n2 := (nxP_r (B := B) P.2.2.2.2.1).2.1
    have cb := chP_b (p := nxP B L p) b
    unfold Md_readItems_b3_body cS
    rw [if_pos w2, w1, ei, w32_n (x := lnI (kd : Int)) (by omega) (by omega), if_neg (Int.lt_irrefl _), cC_s SH2000' rfl, Md_look_e ro1 b P2, cl_s, spot_c _ hk cb, cl_s]
    exact itm_it b hk O 4 FU p 0 _ (usI (kd : Int)) rfl (by decide) (FU_gt (by decide)) (Nat.le_refl _) P.2.2.2.2.1 (P2.mv ro1 n2) (fun j j0 j1 => by rw [up_ne (by omega)]; exact T2 j j0 (by omega)) (F2.tr mi_a)
end M
end PureCty4
