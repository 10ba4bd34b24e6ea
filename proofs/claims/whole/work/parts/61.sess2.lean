section PureSess2
/-! the reference reads a session -/
theorem sp_st : ∀ c : Nat, c < 256 → spF 16 (mcV (c : Int)) (sln 16).toNat 0 = stI (c : Int) ∧ w32 (mcV (c : Int)) = mcV (c : Int) := by decide +kernel
theorem spot_s (h : Hp) {c : Int} (b : 0 ≤ c ∧ c ≤ 255) : Md_spotOf h 16 (mcV c) = some (stI c, h) := by
  obtain ⟨n, rfl⟩ : ∃ n : Nat, c = (n : Int) := ⟨c.toNat, by omega⟩
  obtain ⟨e1, e2⟩ := sp_st n (by omega)
  have key := Md_spotOf_e (a := 6) (by omega) e2 h
  have key2 : Md_spotOf h 16 (mcV (n : Int)) = some (spF 16 (mcV (n : Int)) (sln 16).toNat 0, h) := key
  rw [e1] at key2
  exact key2
theorem SH2024 : SH 2024 = (100, 240) := by decide +kernel
theorem SH2025 : SH 2025 = (100, 5) := by decide +kernel
def QTm (x k : Int) : Prop := (x = 2000 ∧ (k = 5 ∨ (8 ≤ k ∧ k < 13))) ∨ (x = 2024 ∧ 192 ≤ k) ∨ (x = 2025 ∧ k = 4)
def SsM (h : Hp) (s : Sst) : Prop := ∀ k : Int, 0 ≤ k → k < 3 * (s.1 : Int) → h 2024 (192 + k) = s.2 k
section M
variable {B : Nat → Int} {L p q n : Nat} {h h1 : Hp} {dp : Int} {s : Sst}
theorem qm_a {v : Int} {h : Hp} : On QTm h (up h 2000 10 v) := On.up (Or.inl ⟨rfl, Or.inr ⟨by decide, by decide⟩⟩)
theorem qm_f {v : Int} {h : Hp} : On QTm h (up h 2000 11 v) := On.up (Or.inl ⟨rfl, Or.inr ⟨by decide, by decide⟩⟩)
theorem qm_p {i v : Int} {h : Hp} (hi : 192 ≤ i) : On QTm h (up h 2024 i v) := On.up (Or.inr (Or.inl ⟨rfl, hi⟩))
theorem dig_m (b : BOK B L) (P : PMt h B L p dp) : (¬ isD (chP B L (nxP B L p)) ∧ Md_digit h 2000 = some (0, up (up h 2000 10 ((nxP B L p : Nat) : Int)) 2000 11 ((nxP B L p : Nat) : Int))) ∨ (isD (chP B L (nxP B L p)) ∧ nxP B L p < L ∧ Md_digit h 2000 = some (chP B L (nxP B L p) - 48, up h 2000 10 ((nxP B L p + 1 : Nat) : Int))) := by
  have n2 := (nxP_r (B := B) P.2.2.2.2.1).2.1
  have P1 := P.mv ro1 n2
  unfold Md_digit
  rw [cC_s SH2000' rfl, Md_look_e ro1 b P, cl_s, Md_isD ro1 b P1, cl_s]
  by_cases d : isD (chP B L (nxP B L p))
  · have hl := chP_lt (B := B) (L := L) (p := nxP B L p) (fun z => by rw [z] at d; have := d.1; omega)
    have em : mcV (chP B L (nxP B L p)) = chP B L (nxP B L p) := if_neg (fun z => by rw [z] at d; have := d.1; omega)
    rw [ifD_1 d, if_neg (show ¬ w32 1 = 0 by decide), pu_s, up_at, up_up, em]
    exact Or.inr ⟨d, hl, rfl⟩
  · rw [ifD_0 d, if_pos (show w32 0 = 0 by decide), Md_fails_1 P1, cl_s]
    exact Or.inl ⟨d, rfl⟩
def TRs (B : Nat → Int) (L : Nat) (dp : Int) (p n : Nat) (t : Nat × Option (Int → Int)) (h : Hp) (h' : Hp) : Prop := On QTm h h' ∧ ((∃ w : Nat, t = (w, none) ∧ w ≤ L ∧ h' 2000 11 = (w : Int)) ∨ ∃ (q : Nat) (y : Int → Int), t = (q, some y) ∧ p < q ∧ PMt h' B L q dp ∧ (∀ j : Int, 0 ≤ j → j < 3 → h' 2024 (192 + 3 * (n : Int) + j) = y j) ∧ ∀ k : Int, k < 192 + 3 * (n : Int) → h' 2024 k = h 2024 k)
theorem step_m (b : BOK B L) (P : PMt h B L p dp) (hn : n < 16) : wp (Md_readStep h 2000 (3 * (64 + (n : Int)))) (fun _ h' => TRs B L dp p n (stP B L p) h h') := by
  obtain ⟨n1, n2, n3⟩ := nxP_r (B := B) P.2.2.2.2.1
  have cb := chP_b (p := nxP B L p) b
  have sb := stI_b (chP B L (nxP B L p))
  have P1 := P.mv ro1 n2
  have er : 3 * (64 + (n : Int)) = 192 + 3 * (n : Int) := by omega
  unfold Md_readStep stP
  rw [er, cC_s SH2000' rfl, Md_look_e ro1 b P, cl_s, spot_s _ cb, cl_s]
  have i0 : stI 0 = -1 := by decide
  have cl0 : 0 ≤ stI (chP B L (nxP B L p)) → nxP B L p < L := fun z => chP_lt (fun e => by rw [e, i0] at z; omega)
  generalize hj : stI (chP B L (nxP B L p)) = j at *
  rw [w32_id (x := j) (by omega) (by omega)]
  by_cases cj : j < 0
  · rw [if_pos (by omega), if_pos cj, Md_fails_1 P1, cl_s]
    exact wp_i ⟨qm_a.tr qm_f, Or.inl ⟨_, rfl, n2, up_at⟩⟩
  · have hl := cl0 (by omega)
    have P2 : PMt (up h 2000 10 ((nxP B L p : Int) + 1)) B L (nxP B L p + 1) dp := P.mv ro1 (q := nxP B L p + 1) (by omega)
    rw [if_neg (by omega), if_neg cj, pu_s, up_at, up_up, cY_s SH2024 (by decide) (by omega) (by omega) (by decide), pu_s, cY_s SH2024 (by decide) (by omega) (by omega) (by decide), pu_s, cY_s SH2024 (by decide) (by omega) (by omega) (by decide), pu_s, w32_n (x := 192 + 3 * (n : Int)) (by omega) (by omega), w32_n (x := 192 + 3 * (n : Int) + 1) (by omega) (by omega), w32_n (x := 192 + 3 * (n : Int) + 2) (by omega) (by omega)]
    have F3 : On QTm h (up (up (up (up h 2000 10 ((nxP B L p : Int) + 1)) 2024 (192 + 3 * (n : Int)) j) 2024 (192 + 3 * (n : Int) + 1) (-1)) 2024 (192 + 3 * (n : Int) + 2) (-1)) := ((qm_a.tr (qm_p (by omega))).tr (qm_p (by omega))).tr (qm_p (by omega))
    have P3 : PMt (up (up (up (up h 2000 10 ((nxP B L p : Int) + 1)) 2024 (192 + 3 * (n : Int)) j) 2024 (192 + 3 * (n : Int) + 1) (-1)) 2024 (192 + 3 * (n : Int) + 2) (-1)) B L (nxP B L p + 1) dp := P2.on (fun k _ => by rw [up_ne (by decide), up_ne (by decide), up_ne (by decide)]) (by rw [up_off_row (by decide), up_off_row (by decide), up_off_row (by decide)])
    have L0 : up (up (up (up h 2000 10 ((nxP B L p : Int) + 1)) 2024 (192 + 3 * (n : Int)) j) 2024 (192 + 3 * (n : Int) + 1) (-1)) 2024 (192 + 3 * (n : Int) + 2) (-1) 2024 (192 + 3 * (n : Int)) = j := by rw [up_off (by omega), up_off (by omega), up_at]
    have L1 : up (up (up (up h 2000 10 ((nxP B L p : Int) + 1)) 2024 (192 + 3 * (n : Int)) j) 2024 (192 + 3 * (n : Int) + 1) (-1)) 2024 (192 + 3 * (n : Int) + 2) (-1) 2024 (192 + 3 * (n : Int) + 1) = -1 := by rw [up_off (by omega), up_at]
    have L2 : up (up (up (up h 2000 10 ((nxP B L p : Int) + 1)) 2024 (192 + 3 * (n : Int)) j) 2024 (192 + 3 * (n : Int) + 1) (-1)) 2024 (192 + 3 * (n : Int) + 2) (-1) 2024 (192 + 3 * (n : Int) + 2) = -1 := up_at
    have Lk : ∀ k : Int, k < 192 + 3 * (n : Int) → up (up (up (up h 2000 10 ((nxP B L p : Int) + 1)) 2024 (192 + 3 * (n : Int)) j) 2024 (192 + 3 * (n : Int) + 1) (-1)) 2024 (192 + 3 * (n : Int) + 2) (-1) 2024 k = h 2024 k := fun k hk => by rw [up_off (by omega), up_off (by omega), up_off (by omega), up_ne (by decide)]
    generalize up (up (up (up h 2000 10 ((nxP B L p : Int) + 1)) 2024 (192 + 3 * (n : Int)) j) 2024 (192 + 3 * (n : Int) + 1) (-1)) 2024 (192 + 3 * (n : Int) + 2) (-1) = h3 at *
    by_cases c1 : j = 1
    · subst c1
      rw [if_pos rfl]
      have d1 : dgO B L (dnI 1) 1 (nxP B L p + 1) = (nxP B L p + 1, some (-1)) := if_pos (by decide)
      have d2 : dgO B L (dnI 1) 2 (nxP B L p + 1) = (nxP B L p + 1, some (-1)) := if_pos (by decide)
      rw [d1, bnP_s, d2, bnP_s]
      refine wp_i ⟨F3, Or.inr ⟨_, _, rfl, by omega, P3, fun i i0 i1 => ?_, Lk⟩⟩
      have : i = 0 ∨ i = 1 ∨ i = 2 := by omega
      rcases this with z | z | z <;> subst z
      · rw [Int.add_zero, L0]; rfl
      · rw [L1]; rfl
      · rw [L2]; rfl
    · rw [if_neg c1]
      have hd1 : ¬ dnI j < 1 := by
        unfold dnI
        by_cases z : j = 0
        · rw [if_pos z]; omega
        · rw [if_neg z, if_neg c1]; omega
      have d1 : dgO B L (dnI j) 1 (nxP B L p + 1) = ifD (chP B L (nxP B L (nxP B L p + 1))) (nxP B L (nxP B L p + 1) + 1, some (chP B L (nxP B L (nxP B L p + 1)) - 48)) (nxP B L (nxP B L p + 1), none) := if_neg hd1
      have m1 := nxP_r (B := B) P3.2.2.2.2.1
      rw [d1]
      rcases dig_m b P3 with ⟨c2, e2⟩ | ⟨c2, hl2, e2⟩
      · rw [ifD_0 c2, bnP_n, e2, cl_s, cY_s SH2024 (by decide) (by omega) (by omega) (by decide), pu_s]
        have e6 : up (up (up h3 2000 10 ((nxP B L (nxP B L p + 1) : Nat) : Int)) 2000 11 ((nxP B L (nxP B L p + 1) : Nat) : Int)) 2024 (192 + 3 * (n : Int) + 1) 0 2000 11 = ((nxP B L (nxP B L p + 1) : Nat) : Int) := by rw [up_ne (by decide), up_at]
        rw [if_neg (fl_2 b m1.2.1 e6)]
        exact wp_i ⟨((F3.tr qm_a).tr qm_f).tr (qm_p (by omega)), Or.inl ⟨_, rfl, m1.2.1, e6⟩⟩
      · have P4 : PMt (up (up h3 2000 10 ((nxP B L (nxP B L p + 1) + 1 : Nat) : Int)) 2024 (192 + 3 * (n : Int) + 1) (chP B L (nxP B L (nxP B L p + 1)) - 48)) B L (nxP B L (nxP B L p + 1) + 1) dp := (P3.mv ro1 (q := nxP B L (nxP B L p + 1) + 1) (by omega)).on (fun k _ => by rw [up_ne (by decide)]) (up_off_row (by decide))
        rw [ifD_1 c2, bnP_s, e2, cl_s, cY_s SH2024 (by decide) (by omega) (by omega) (by decide), pu_s, if_pos (fl_1 P4)]
        have F4 : On QTm h (up (up h3 2000 10 ((nxP B L (nxP B L p + 1) + 1 : Nat) : Int)) 2024 (192 + 3 * (n : Int) + 1) (chP B L (nxP B L (nxP B L p + 1)) - 48)) := (F3.tr qm_a).tr (qm_p (by omega))
        by_cases c3 : 1 < j
        · have hd2 : ¬ dnI j < 2 := by
            unfold dnI
            rw [if_neg (by omega), if_neg c1]; omega
          have d2 : dgO B L (dnI j) 2 (nxP B L (nxP B L p + 1) + 1) = ifD (chP B L (nxP B L (nxP B L (nxP B L p + 1) + 1))) (nxP B L (nxP B L (nxP B L p + 1) + 1) + 1, some (chP B L (nxP B L (nxP B L (nxP B L p + 1) + 1)) - 48)) (nxP B L (nxP B L (nxP B L p + 1) + 1), none) := if_neg hd2
          have m2 := nxP_r (B := B) P4.2.2.2.2.1
          rw [if_pos c3, d2]
          rcases dig_m b P4 with ⟨c4, e4⟩ | ⟨c4, hl4, e4⟩
          · rw [ifD_0 c4, bnP_n, e4, cl_s, cY_s SH2024 (by decide) (by omega) (by omega) (by decide), pu_s]
            exact wp_i ⟨((F4.tr qm_a).tr qm_f).tr (qm_p (by omega)), Or.inl ⟨_, rfl, m2.2.1, by rw [up_ne (by decide), up_at]⟩⟩
          · rw [ifD_1 c4, bnP_s, e4, cl_s, cY_s SH2024 (by decide) (by omega) (by omega) (by decide), pu_s]
            refine wp_i ⟨(F4.tr qm_a).tr (qm_p (by omega)), Or.inr ⟨_, _, rfl, by omega, (P4.mv ro1 (q := nxP B L (nxP B L (nxP B L p + 1) + 1) + 1) (by omega)).on (fun k _ => by rw [up_ne (by decide)]) (up_off_row (by decide)), fun i i0 i1 => ?_, fun k hk => by rw [up_off (by omega), up_ne (by decide), up_off (by omega), up_ne (by decide)]; exact Lk k hk⟩⟩
            have : i = 0 ∨ i = 1 ∨ i = 2 := by omega
            rcases this with z | z | z <;> subst z
            · rw [Int.add_zero, up_off (by omega), up_ne (by decide), up_off (by omega), up_ne (by decide), L0]; rfl
            · rw [up_off (by omega), up_ne (by decide), up_at]; rfl
            · rw [up_at]; rfl
        · have j0 : j = 0 := by omega
          have d2 : dgO B L (dnI j) 2 (nxP B L (nxP B L p + 1) + 1) = (nxP B L (nxP B L p + 1) + 1, some (-1)) := if_pos (by rw [j0]; decide)
          rw [if_neg c3, d2, bnP_s]
          refine wp_i ⟨F4, Or.inr ⟨_, _, rfl, by omega, P4, fun i i0 i1 => ?_, fun k hk => by rw [up_off (by omega), up_ne (by decide)]; exact Lk k hk⟩⟩
          have : i = 0 ∨ i = 1 ∨ i = 2 := by omega
          rcases this with z | z | z <;> subst z
          · rw [Int.add_zero, up_off (by omega), up_ne (by decide), L0]; rfl
          · rw [up_at]; rfl
          · rw [up_off (by omega), up_ne (by decide), L2]; rfl
/-- one turn of the reader -/
theorem ss_one (b : BOK B L) {h0 : Hp} {d : Nat} (M p : Nat) (h : Hp) (s : Sst) (hs : s.1 + (d + 1) = 16) (hM : 1 < M) (F : On QTm h0 h) (P : PMt h B L p dp) (A : SsM h s) (K : d ≠ 0 → ∀ (M' q : Nat) (h' : Hp) (t : Sst), t.1 = s.1 + 1 → M = M' + 1 → On QTm h0 h' → PMt h' B L q dp → SsM h' t → wp (itr (fun k s => Md_readPlan_b17_body k s.1 s.2.1 s.2.2.1 s.2.2.2) M' (h', 2000, (t.1 : Int), 1)) (fun _ h' => On QTm h0 h' ∧ ((∃ w : Nat, ssL B L d q t = (w, none) ∧ w ≤ L ∧ h' 2000 11 = (w : Int)) ∨ ∃ (q' : Nat) (t' : Sst), ssL B L d q t = (q', some t') ∧ h' 2000 11 = -1 ∧ h' 2025 4 = (t'.1 : Int) ∧ SsM h' t'))) : wp (itr (fun k s => Md_readPlan_b17_body k s.1 s.2.1 s.2.2.1 s.2.2.2) M (h, 2000, (s.1 : Int), 1)) (fun _ h' => On QTm h0 h' ∧ ((∃ w : Nat, ssL B L (d + 1) p s = (w, none) ∧ w ≤ L ∧ h' 2000 11 = (w : Int)) ∨ ∃ (q : Nat) (t : Sst), ssL B L (d + 1) p s = (q, some t) ∧ h' 2000 11 = -1 ∧ h' 2025 4 = (t.1 : Int) ∧ SsM h' t)) := by
  obtain ⟨M, rfl⟩ : ∃ M', M = M' + 1 := ⟨M - 1, by omega⟩
  rw [itr_s]
  show wp (Md_readPlan_b17_body (itr (fun k (s : Hp × Int × Int × Int) => Md_readPlan_b17_body k s.1 s.2.1 s.2.2.1 s.2.2.2) M) h 2000 (s.1 : Int) 1) _
  have el : ssL B L (d + 1) p s = bnP (stP B L p) (fun q x => if chP B L (nxP B L q) = 0 then (nxP B L q, some (s.1 + 1, iRow s.1 s.2 x)) else if d = 0 then (nxP B L q, none) else if chP B L (nxP B L q) = 59 then ssL B L d (nxP B L q + 1) (s.1 + 1, iRow s.1 s.2 x) else (nxP B L q, none)) := rfl
  rw [el]
  have kz : ∀ (h' : Hp) (x : Int), itr (fun k (s : Hp × Int × Int × Int) => Md_readPlan_b17_body k s.1 s.2.1 s.2.2.1 s.2.2.2) M (h', 2000, x, 0) = cC 10 2000 (cY 100 2025 4 (pu (up h' 2025 4 x) (fun h7 => cl (Md_look h7 2000) (fun r8 h9 => if w32 r8 = (-1) then some (0, h9) else cl (Md_fails h9 2000) (fun r11 h12 => some (0, h12)))))) := by
    intro h' x
    obtain ⟨M, rfl⟩ : ∃ M', M = M' + 1 := ⟨M - 1, by omega⟩
    rw [itr_s]
    show Md_readPlan_b17_body _ h' 2000 x 0 = _
    unfold Md_readPlan_b17_body
    rw [if_pos (show w32 0 = 0 by decide)]
  have kc := fun (z : d ≠ 0) (q : Nat) (h' : Hp) (t : Sst) (t1 : t.1 = s.1 + 1) => K z M q h' t t1 rfl
  clear K
  generalize itr (fun k (s : Hp × Int × Int × Int) => Md_readPlan_b17_body k s.1 s.2.1 s.2.2.1 s.2.2.2) M = kk at kz kc ⊢
  unfold Md_readPlan_b17_body
  rw [if_neg (show ¬ w32 1 = 0 by decide), cC_s SH2000' rfl]
  refine wp_cl (step_m b P (by omega)) ?_
  rintro x h' ⟨F2, ⟨w, e, hw, e3⟩ | ⟨q, y, e, hq, P2, y1, y2⟩⟩
  · rw [if_neg (fl_2 b hw e3), e, bnP_n]
    exact wp_i ⟨F.tr F2, Or.inl ⟨w, rfl, hw, e3⟩⟩
  · obtain ⟨j1, j2, j3⟩ := nxP_r (B := B) P2.2.2.2.2.1
    have nn := nxP_nx (B := B) P2.2.2.2.2.1
    have cb := chP_b (p := nxP B L q) b
    have P3 := P2.mv ro1 j2
    have A3 : SsM (up h' 2000 10 ((nxP B L q : Nat) : Int)) (s.1 + 1, iRow s.1 s.2 y) := by
      intro k k0 k1
      have k1' : k < 3 * ((s.1 + 1 : Nat) : Int) := k1
      show up h' 2000 10 ((nxP B L q : Nat) : Int) 2024 (192 + k) = iRow s.1 s.2 y k
      unfold iRow
      rw [up_ne (by decide)]
      by_cases z : 3 * (s.1 : Int) ≤ k
      · have := y1 (k - 3 * (s.1 : Int)) (by omega) (by omega)
        rw [if_pos z, ← this]
        congr 1
        omega
      · rw [if_neg z, y2 _ (by omega)]
        exact A k k0 (by omega)
    have F3 : On QTm h0 (up h' 2000 10 ((nxP B L q : Nat) : Int)) := (F.tr F2).tr qm_a
    rw [if_pos (fl_1 P2), Md_look_e ro1 b P2, cl_s, e, bnP_s]
    generalize up h' 2000 10 ((nxP B L q : Nat) : Int) = h3 at *
    have fin : ¬ chP B L (nxP B L q) = 59 → wp (Md_readPlan_b57 kk h3 2000 ((s.1 : Int) + 1) 0) (fun _ h' => On QTm h0 h' ∧ ((∃ w : Nat, (if chP B L (nxP B L q) = 0 then (nxP B L q, some (s.1 + 1, iRow s.1 s.2 y)) else if d = 0 then (nxP B L q, none) else if chP B L (nxP B L q) = 59 then ssL B L d (nxP B L q + 1) (s.1 + 1, iRow s.1 s.2 y) else (nxP B L q, none)) = (w, none) ∧ w ≤ L ∧ h' 2000 11 = (w : Int)) ∨ ∃ (q' : Nat) (t : Sst), (if chP B L (nxP B L q) = 0 then (nxP B L q, some (s.1 + 1, iRow s.1 s.2 y)) else if d = 0 then (nxP B L q, none) else if chP B L (nxP B L q) = 59 then ssL B L d (nxP B L q + 1) (s.1 + 1, iRow s.1 s.2 y) else (nxP B L q, none)) = (q', some t) ∧ h' 2000 11 = -1 ∧ h' 2025 4 = (t.1 : Int) ∧ SsM h' t)) := by
      intro c59
      have P4 : PMt (up h3 2025 4 ((s.1 : Int) + 1)) B L (nxP B L q) dp := P3.on (fun k _ => by rw [up_ne (by decide)]) (up_off_row (by decide))
      have F4 : On QTm h0 (up h3 2025 4 ((s.1 : Int) + 1)) := F3.tr (On.up (Or.inr (Or.inr ⟨rfl, rfl⟩)))
      have lk := Md_look_e ro1 b P4
      rw [nn, up_id P4.2.2.2.1] at lk
      unfold Md_readPlan_b57 Md_readPlan_b74
      rw [if_pos (show w32 0 = 0 by decide), if_pos (show w32 0 = 0 by decide), kz, cC_s SH2000' rfl, cY_s SH2025 (by decide) (by decide) (by decide) (by decide), pu_s, lk, cl_s]
      by_cases c0 : chP B L (nxP B L q) = 0
      · rw [if_pos ((mc_0 cb).mpr c0), if_pos c0]
        exact wp_i ⟨F4, Or.inr ⟨_, _, rfl, P4.2.2.2.2.2.1, by rw [up_at]; rfl, fun k k0 k1 => by rw [up_ne (by decide)]; exact A3 k k0 k1⟩⟩
      · rw [if_neg (fun z => c0 ((mc_0 cb).mp z)), if_neg c0, Md_fails_1 P4, cl_s, if_neg c59]
        have e9 : (if d = 0 then ((nxP B L q, none) : Nat × Option Sst) else (nxP B L q, none)) = (nxP B L q, none) := by
          by_cases z : d = 0
          · rw [if_pos z]
          · rw [if_neg z]
        rw [e9]
        exact wp_i ⟨F4.tr qm_f, Or.inl ⟨_, rfl, j2, up_at⟩⟩
    by_cases c1 : chP B L (nxP B L q) = 59
    · have hl := chP_l c1 (by decide)
      rw [if_pos ((mc_x cb (by decide)).mpr c1), if_neg (show ¬ chP B L (nxP B L q) = 0 by omega)]
      unfold Md_readPlan_b57
      rw [if_neg (show ¬ w32 1 = 0 by decide)]
      by_cases d0 : d = 0
      · rw [if_pos (by rw [w32_n (by omega) (by omega)]; omega), if_pos d0, cC_s SH2000' rfl, Md_fails_1 P3, cl_s]
        exact wp_i ⟨F3.tr qm_f, Or.inl ⟨_, rfl, j2, up_at⟩⟩
      · rw [if_neg (by rw [w32_n (by omega) (by omega)]; omega), if_neg d0, if_pos c1]
        unfold Md_readPlan_b74
        rw [if_neg (show ¬ w32 1 = 0 by decide), cC_s SH2000' rfl, pu_s, P3.2.2.2.1]
        exact kc d0 (nxP B L q + 1) _ (s.1 + 1, iRow s.1 s.2 y) rfl (F3.tr qm_a) (P3.mv ro1 (q := nxP B L q + 1) (by omega)) (fun k k0 k1 => by rw [up_ne (by decide)]; exact A3 k k0 k1)
    · rw [if_neg (fun z => c1 ((mc_x cb (by decide)).mp z))]
      exact fin c1
theorem sm_it (b : BOK B L) {h0 : Hp} : ∀ (d M p : Nat) (h : Hp) (s : Sst), s.1 + (d + 1) = 16 → d + 1 < M → On QTm h0 h → PMt h B L p dp → SsM h s → wp (itr (fun k s => Md_readPlan_b17_body k s.1 s.2.1 s.2.2.1 s.2.2.2) M (h, 2000, (s.1 : Int), 1)) (fun _ h' => On QTm h0 h' ∧ ((∃ w : Nat, ssL B L (d + 1) p s = (w, none) ∧ w ≤ L ∧ h' 2000 11 = (w : Int)) ∨ ∃ (q : Nat) (t : Sst), ssL B L (d + 1) p s = (q, some t) ∧ h' 2000 11 = -1 ∧ h' 2025 4 = (t.1 : Int) ∧ SsM h' t)) := by
  intro d
  induction d with
  | zero =>
    intro M p h s hs hM F P A
    have := ss_one b (d := 0) (h0 := h0) M p h s hs (by omega) F P A (fun z => absurd rfl z)
    exact this
  | succ d ih =>
    intro M p h s hs hM F P A
    refine ss_one b (d := d + 1) (h0 := h0) M p h s hs (by omega) F P A (fun _ M' q h' t t1 hM' F' P' A' => ?_)
    exact ih M' q h' t (by rw [t1]; omega) (by omega) F' P' A'
theorem readPlan_e (b : BOK B L) (t0 : h 2000 6 = (L : Int)) (t : ∀ k : Nat, k < L → h 2001 (k : Int) = w8 (B k)) : ∃ (x : Int) (h' : Hp), Md_readPlan h 2000 = some (x, h') ∧ On QTm h h' ∧ ((∃ w : Nat, ssP B L = (w, none) ∧ w ≤ L ∧ h' 2000 11 = (w : Int)) ∨ ∃ (q : Nat) (y : Sst), ssP B L = (q, some y) ∧ h' 2000 11 = -1 ∧ h' 2025 4 = (y.1 : Int) ∧ SsM h' y) := by
  have L240 := b.1
  have W : wp (Md_readPlan h 2000) (fun _ h' => On QTm h h' ∧ ((∃ w : Nat, ssP B L = (w, none) ∧ w ≤ L ∧ h' 2000 11 = (w : Int)) ∨ ∃ (q : Nat) (y : Sst), ssP B L = (q, some y) ∧ h' 2000 11 = -1 ∧ h' 2025 4 = (y.1 : Int) ∧ SsM h' y)) := by
    unfold Md_readPlan Md_starts Md_readPlan_b17
    rw [cC_s SH2000' rfl, cC_s SH2000' rfl, pu_s, pu_s, pu_s, pu_s, pu_s, cl_s, t0]
    generalize hh : up (up (up (up (up h 2000 5 2001) 2000 8 0) 2000 9 (L : Int)) 2000 10 0) 2000 11 (-1) = h2
    have F : On QTm h h2 := by
      rw [← hh]
      exact ((((On.up (Or.inl ⟨rfl, by omega⟩)).tr (On.up (Or.inl ⟨rfl, by omega⟩))).tr (On.up (Or.inl ⟨rfl, by omega⟩))).tr (On.up (Or.inl ⟨rfl, by omega⟩))).tr (On.up (Or.inl ⟨rfl, by omega⟩))
    have P : PMt h2 B L 0 (h 2000 12) := by
      rw [← hh]
      refine ⟨?_, ?_, ?_, ?_, by omega, ?_, ?_, fun k hk => ?_⟩
      · rw [up_off (by decide), up_off (by decide), up_off (by decide), up_off (by decide), up_at]
      · rw [up_off (by decide), up_off (by decide), up_off (by decide), up_at]
      · rw [up_off (by decide), up_off (by decide), up_at]
      · rw [up_off (by decide), up_at]; rfl
      · rw [up_at]
      · rw [up_off (by decide), up_off (by decide), up_off (by decide), up_off (by decide), up_off (by decide)]
      · rw [up_ne (by decide), up_ne (by decide), up_ne (by decide), up_ne (by decide), up_ne (by decide), Int.zero_add]
        exact t k hk
    exact sm_it b 15 FU 0 h2 (0, fun _ => 0) rfl (FU_gt (by decide)) F P (fun k k0 k1 => absurd k1 (by show ¬ k < 3 * ((0 : Nat) : Int); omega))
  obtain ⟨x, h', e, q⟩ := W
  exact ⟨x, h', e, q⟩
end M
end PureSess2
