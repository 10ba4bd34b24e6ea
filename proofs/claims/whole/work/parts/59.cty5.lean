section PureCty5
/-! the reference reads a whole county -/
def CyM (h : Hp) (s : Cst) : Prop := h 2000 31 = s.1 ∧ h 2000 28 = (s.2.1 : Int) ∧ h 2000 29 = (s.2.2.1 : Int) ∧ (∀ k : Int, 0 ≤ k → k < 2 → h 2019 k = s.2.2.2.1 k) ∧ (∀ k : Int, 0 ≤ k → k < 3 * (s.2.1 : Int) → h 2021 k = s.2.2.2.2.1 k) ∧ ∀ k : Int, 0 ≤ k → k < 3 * (s.2.2.1 : Int) → h 2023 k = s.2.2.2.2.2 k
def CTm (x k : Int) : Prop := (x = 2000 ∧ (k = 5 ∨ (8 ≤ k ∧ k < 13) ∨ k = 28 ∨ k = 29 ∨ k = 31)) ∨ x = 2019 ∨ x = 2021 ∨ x = 2023
theorem SH2019 : SH 2019 = (100, 2) := by decide +kernel
theorem SH2021 : SH 2021 = (100, 18) := by decide +kernel
theorem SH2023 : SH 2023 = (100, 24) := by decide +kernel
section M
variable {B : Nat → Int} {L p q : Nat} {h h1 : Hp} {dp : Int} {s : Cst}
def ZRs (B : Nat → Int) (L : Nat) (dp : Int) (p : Nat) (t : Nat × Option Cst) (h : Hp) (h' : Hp) : Prop := On CTm h h' ∧ ((∃ w : Nat, t = (w, none) ∧ w ≤ L ∧ h' 2000 11 = (w : Int)) ∨ ∃ (q : Nat) (y : Cst), t = (q, some y) ∧ p < q ∧ nxP B L q = q ∧ PMt h' B L q dp ∧ CyM h' y)
theorem cm_a {v : Int} {h : Hp} : On CTm h (up h 2000 10 v) := On.up (Or.inl ⟨rfl, Or.inr (Or.inl ⟨by decide, by decide⟩)⟩)
theorem cm_f {v : Int} {h : Hp} : On CTm h (up h 2000 11 v) := On.up (Or.inl ⟨rfl, Or.inr (Or.inl ⟨by decide, by decide⟩)⟩)
theorem cl_im {R fr0 : Int} {sz : Nat} (b : BOK B L) {kd : Nat} (hk : kd < 3) (O : RwM R fr0 (lnI (kd : Int)) sz) {h0 : Hp} {p0 : Nat} (hp : p0 < p) (P : PMt h B L p dp) (F : On CTm h0 h) (hR : R = 2019 ∨ R = 2021 ∨ R = 2023) {t : Nat × Option Cst} {K : Nat → (Int → Int) → Nat × Option Cst} (hK : ∀ q y, ∃ z, K q y = (q, some z)) (e : t = bnP (itL B L (kd : Int) 4 p 0 (usI (kd : Int))) K) (hok : ∀ (h' : Hp) (q : Nat) (y : Int → Int) (z : Cst), K q y = (q, some z) → On (MTi R fr0 (lnI (kd : Int))) h h' → ItM h' R fr0 (lnI (kd : Int)) y → CyM h' z) : wp (cl (Md_readItems h 2000 (kdC (kd : Int)) R fr0 (13 + (kd : Int))) (fun _ h' => some (0, h'))) (fun _ h' => ZRs B L dp p0 t h0 h') := by
  have hc : ∀ x k, MTi R fr0 (lnI (kd : Int)) x k → CTm x k := fun x k q => by
    rcases q with ⟨q1, q2⟩ | ⟨q1, -⟩
    · exact Or.inl ⟨q1, Or.inr (Or.inl (by omega))⟩
    · rcases hR with z | z | z
      · exact Or.inr (Or.inl (by omega))
      · exact Or.inr (Or.inr (Or.inl (by omega)))
      · exact Or.inr (Or.inr (Or.inr (by omega)))
  refine wp_cl (itm_e b hk O P) ?_
  rintro x h' ⟨F2, ⟨w, e2, hw, e3⟩ | ⟨q, y, e2, hq, nn, P2, A2⟩⟩
  · exact wp_i ⟨F.tr (F2.w hc), Or.inl ⟨w, by rw [e, e2]; rfl, hw, e3⟩⟩
  · obtain ⟨z, hz⟩ := hK q y
    exact wp_i ⟨F.tr (F2.w hc), Or.inr ⟨q, z, by rw [e, e2, bnP_s]; exact hz, by omega, nn, P2, hok h' q y z hz F2 A2⟩⟩
theorem b53_0 (P : PMt h B L p dp) (x1 : Int) : Md_readClause_b53 h 2000 x1 0 = some (0, up h 2000 11 (p : Int)) := by
  unfold Md_readClause_b53
  rw [if_pos (show w32 0 = 0 by decide), cC_s SH2000' rfl, Md_fails_1 P, cl_s]
theorem clause_z (b : BOK B L) (P : PMt h B L p dp) (A : CyM h s) (so : SOk s) : wp (Md_readClause h 2000) (fun _ h' => ZRs B L dp p (cyC B L s p) h h') := by
  obtain ⟨n1, n2, n3⟩ := nxP_r (B := B) P.2.2.2.2.1
  have cb := chP_b (p := nxP B L p) b
  obtain ⟨r01, n6, w8⟩ := id so
  obtain ⟨a1, a2, a3, a4, a5, a6⟩ := A
  have P1 := P.mv ro1 n2
  unfold Md_readClause cyC
  rw [cC_s SH2000' rfl, Md_look_e ro1 b P, cl_s, up_off (by decide), a1]
  have m115 := mc_x (x := 115) cb (by decide)
  have m112 := mc_x (x := 112) cb (by decide)
  have m119 := mc_x (x := 119) cb (by decide)
  have fails : (¬ (chP B L (nxP B L p) = 115 ∧ s.1 = 0)) → (¬ (chP B L (nxP B L p) = 112 ∧ s.2.1 < 6)) → (¬ (chP B L (nxP B L p) = 119 ∧ s.2.2.1 < 8)) → wp (Md_readClause_b53 (up h 2000 10 ((nxP B L p : Nat) : Int)) 2000 (mcV (chP B L (nxP B L p))) 0) (fun _ h' => ZRs B L dp p (if chP B L (nxP B L p) = 115 ∧ s.1 = 0 then bnP (itL B L 0 4 (nxP B L p + 1) 0 (usI 0)) (fun q r => (q, some (1, s.2.1, s.2.2.1, r, s.2.2.2.2.1, s.2.2.2.2.2))) else if chP B L (nxP B L p) = 112 ∧ s.2.1 < 6 then bnP (itL B L 1 4 (nxP B L p + 1) 0 (usI 1)) (fun q r => (q, some (s.1, s.2.1 + 1, s.2.2.1, s.2.2.2.1, iRow s.2.1 s.2.2.2.2.1 r, s.2.2.2.2.2))) else if chP B L (nxP B L p) = 119 ∧ s.2.2.1 < 8 then bnP (itL B L 2 4 (nxP B L p + 1) 0 (usI 2)) (fun q r => (q, some (s.1, s.2.1, s.2.2.1 + 1, s.2.2.2.1, s.2.2.2.2.1, iRow s.2.2.1 s.2.2.2.2.2 r))) else (nxP B L p, none)) h h') := by
    intro c1 c2 c3
    rw [b53_0 P1, if_neg c1, if_neg c2, if_neg c3]
    exact wp_i ⟨cm_a.tr cm_f, Or.inl ⟨_, rfl, n2, up_at⟩⟩
  have l01 : ir s.1 := by rcases r01 with z | z <;> rw [z] <;> exact ⟨by decide, by decide⟩
  rw [ri l01]
  by_cases c1 : chP B L (nxP B L p) = 115
  · have hl := chP_l c1 (by decide)
    rw [if_pos (m115.mpr c1)]
    rcases r01 with z | z
    · rw [if_pos z, if_pos ⟨c1, z⟩]
      unfold Md_readClause_b53
      rw [if_neg (show ¬ w32 1 = 0 by decide), cC_s SH2000' rfl, up_at, up_up, pu_s, if_pos (m115.mpr c1), pu_s, c1]
      refine cl_im b (kd := 0) (by decide) (R := 2019) (fr0 := 0) (sz := 2) ⟨SH2019, by decide, by decide, by decide, by decide, by decide⟩ (p := nxP B L p + 1) (by omega) (?_ : PMt (up (up h 2000 10 ((nxP B L p : Int) + 1)) 2000 31 1) B L (nxP B L p + 1) dp) (cm_a.tr (On.up (Or.inl ⟨rfl, by omega⟩))) (Or.inl rfl) (fun q y => ⟨_, rfl⟩) rfl (fun h' q y2 z2 e F I => ?_)
      · exact (P.mv ro1 (q := nxP B L p + 1) (by omega)).on (fun k hk => by rw [up_off (by omega)]; rfl) (up_off_row (by omega))
      · have ez := Option.some.inj (congrArg Prod.snd e)
        subst ez
        have rc : ∀ k : Int, 13 ≤ k → h' 2000 k = up (up h 2000 10 ((nxP B L p : Int) + 1)) 2000 31 1 2000 k := fun k hk => F 2000 k (fun q => by unfold MTi at q; omega)
        have rr : ∀ x : Int, x ≠ 2019 → x ≠ 2000 → h' x = h x := fun x x1 x2 => by rw [F.row (fun k q => by unfold MTi at q; omega), up_off_row x2, up_off_row x2]
        refine ⟨by rw [rc 31 (by decide), up_at], by rw [rc 28 (by decide), up_off (by decide), up_off (by decide)]; exact a2, by rw [rc 29 (by decide), up_off (by decide), up_off (by decide)]; exact a3, fun k k0 k1 => ?_, by rw [rr 2021 (by decide) (by decide)]; exact a5, by rw [rr 2023 (by decide) (by decide)]; exact a6⟩
        have := I k k0 k1
        rw [Int.zero_add] at this
        exact this
    · rw [if_neg (by omega)]
      unfold Md_readClause_b18 Md_readClause_b33
      rw [if_neg (fun q => by have := m112.mp q; omega), if_neg (fun q => by have := m119.mp q; omega)]
      exact fails (fun q => by omega) (fun q => by omega) (fun q => by omega)
  · rw [if_neg (fun q => c1 (m115.mp q))]
    unfold Md_readClause_b18
    by_cases c2 : chP B L (nxP B L p) = 112
    · have hl := chP_l c2 (by decide)
      rw [if_pos (m112.mpr c2), cC_s SH2000' rfl, up_off (by decide), a2, w32_n (x := (s.2.1 : Int)) (by omega) (by omega)]
      by_cases c3 : s.2.1 < 6
      · have e3 : 3 * (((s.2.1 : Int) + 1) - 1) = 3 * (s.2.1 : Int) := by omega
        rw [if_pos (by omega), if_neg (fun q => c1 q.1), if_pos ⟨c2, c3⟩]
        unfold Md_readClause_b53
        rw [if_neg (show ¬ w32 1 = 0 by decide), cC_s SH2000' rfl, up_at, up_up, pu_s, if_neg (fun q => c1 (m115.mp q)), if_pos (m112.mpr c2), pu_s, up_off (i := 10) (by decide), a2, up_at, e3, c2]
        refine cl_im b (kd := 1) (by decide) (R := 2021) (fr0 := 3 * (s.2.1 : Int)) (sz := 18) ⟨SH2021, by decide, by omega, by show 3 * (s.2.1 : Int) + 3 ≤ 18; omega, by decide, by decide⟩ (p := nxP B L p + 1) (by omega) (?_ : PMt (up (up h 2000 10 ((nxP B L p : Int) + 1)) 2000 28 ((s.2.1 : Int) + 1)) B L (nxP B L p + 1) dp) (cm_a.tr (On.up (Or.inl ⟨rfl, by omega⟩))) (Or.inr (Or.inl rfl)) (fun q y => ⟨_, rfl⟩) rfl (fun h' q y2 z2 e F I => ?_)
        · exact (P.mv ro1 (q := nxP B L p + 1) (by omega)).on (fun k hk => by rw [up_off (by omega)]; rfl) (up_off_row (by omega))
        · have ez := Option.some.inj (congrArg Prod.snd e)
          subst ez
          have rc : ∀ k : Int, 13 ≤ k → h' 2000 k = up (up h 2000 10 ((nxP B L p : Int) + 1)) 2000 28 ((s.2.1 : Int) + 1) 2000 k := fun k hk => F 2000 k (fun q => by unfold MTi at q; omega)
          have rr : ∀ x : Int, x ≠ 2021 → x ≠ 2000 → h' x = h x := fun x x1 x2 => by rw [F.row (fun k q => by unfold MTi at q; omega), up_off_row x2, up_off_row x2]
          have hln : lnI ((1 : Nat) : Int) = 3 := by decide
          rw [hln] at F I
          refine ⟨by rw [rc 31 (by decide), up_off (by decide), up_off (by decide)]; exact a1, by rw [rc 28 (by decide), up_at]; rfl, by rw [rc 29 (by decide), up_off (by decide), up_off (by decide)]; exact a3, by rw [rr 2019 (by decide) (by decide)]; exact a4, fun k k0 k1 => ?_, by rw [rr 2023 (by decide) (by decide)]; exact a6⟩
          show h' 2021 k = iRow s.2.1 s.2.2.2.2.1 y2 k
          unfold iRow
          have k1' : k < 3 * ((s.2.1 + 1 : Nat) : Int) := k1
          by_cases z : 3 * (s.2.1 : Int) ≤ k
          · rw [if_pos z]
            have := I (k - 3 * (s.2.1 : Int)) (by omega) (by omega)
            rw [← this]
            congr 1
            omega
          · rw [if_neg z, F _ _ (fun q => by unfold MTi at q; omega), up_ne (by omega), up_ne (by omega)]
            exact a5 k k0 (by omega)
      · rw [if_neg (by omega)]
        unfold Md_readClause_b33
        rw [if_neg (fun q => by have := m119.mp q; omega)]
        exact fails (fun q => c1 q.1) (fun q => c3 q.2) (fun q => by omega)
    · rw [if_neg (fun q => c2 (m112.mp q))]
      unfold Md_readClause_b33
      by_cases c4 : chP B L (nxP B L p) = 119
      · have hl := chP_l c4 (by decide)
        rw [if_pos (m119.mpr c4), cC_s SH2000' rfl, up_off (by decide), a3, w32_n (x := (s.2.2.1 : Int)) (by omega) (by omega)]
        by_cases c3 : s.2.2.1 < 8
        · have e3 : 3 * (((s.2.2.1 : Int) + 1) - 1) = 3 * (s.2.2.1 : Int) := by omega
          rw [if_pos (by omega), if_neg (fun q => c1 q.1), if_neg (fun q => c2 q.1), if_pos ⟨c4, c3⟩]
          unfold Md_readClause_b53
          rw [if_neg (show ¬ w32 1 = 0 by decide), cC_s SH2000' rfl, up_at, up_up, pu_s, if_neg (fun q => c1 (m115.mp q)), if_neg (fun q => c2 (m112.mp q)), pu_s, up_off (i := 10) (by decide), a3, up_at, e3, c4]
          refine cl_im b (kd := 2) (by decide) (R := 2023) (fr0 := 3 * (s.2.2.1 : Int)) (sz := 24) ⟨SH2023, by decide, by omega, by show 3 * (s.2.2.1 : Int) + 3 ≤ 24; omega, by decide, by decide⟩ (p := nxP B L p + 1) (by omega) (?_ : PMt (up (up h 2000 10 ((nxP B L p : Int) + 1)) 2000 29 ((s.2.2.1 : Int) + 1)) B L (nxP B L p + 1) dp) (cm_a.tr (On.up (Or.inl ⟨rfl, by omega⟩))) (Or.inr (Or.inr rfl)) (fun q y => ⟨_, rfl⟩) rfl (fun h' q y2 z2 e F I => ?_)
          · exact (P.mv ro1 (q := nxP B L p + 1) (by omega)).on (fun k hk => by rw [up_off (by omega)]; rfl) (up_off_row (by omega))
          · have ez := Option.some.inj (congrArg Prod.snd e)
            subst ez
            have rc : ∀ k : Int, 13 ≤ k → h' 2000 k = up (up h 2000 10 ((nxP B L p : Int) + 1)) 2000 29 ((s.2.2.1 : Int) + 1) 2000 k := fun k hk => F 2000 k (fun q => by unfold MTi at q; omega)
            have rr : ∀ x : Int, x ≠ 2023 → x ≠ 2000 → h' x = h x := fun x x1 x2 => by rw [F.row (fun k q => by unfold MTi at q; omega), up_off_row x2, up_off_row x2]
            have hln : lnI ((2 : Nat) : Int) = 3 := by decide
            rw [hln] at F I
            refine ⟨by rw [rc 31 (by decide), up_off (by decide), up_off (by decide)]; exact a1, by rw [rc 28 (by decide), up_off (by decide), up_off (by decide)]; exact a2, by rw [rc 29 (by decide), up_at]; rfl, by rw [rr 2019 (by decide) (by decide)]; exact a4, by rw [rr 2021 (by decide) (by decide)]; exact a5, fun k k0 k1 => ?_⟩
            show h' 2023 k = iRow s.2.2.1 s.2.2.2.2.2 y2 k
            unfold iRow
            have k1' : k < 3 * ((s.2.2.1 + 1 : Nat) : Int) := k1
            by_cases z : 3 * (s.2.2.1 : Int) ≤ k
            · rw [if_pos z]
              have := I (k - 3 * (s.2.2.1 : Int)) (by omega) (by omega)
              rw [← this]
              congr 1
              omega
            · rw [if_neg z, F _ _ (fun q => by unfold MTi at q; omega), up_ne (by omega), up_ne (by omega)]
              exact a6 k k0 (by omega)
        · rw [if_neg (by omega)]
          exact fails (fun q => c1 q.1) (fun q => c2 q.1) (fun q => c3 q.2)
      · rw [if_neg (fun q => c4 (m119.mp q))]
        exact fails (fun q => c1 q.1) (fun q => c2 q.1) (fun q => c4 q.1)
theorem whole_m (A : CyM h s) (b : SBd s) (o : SOk s) : Md_isWhole h 2000 = some (ifW s.2.1 s.2.2.1 s.2.2.2.2.2 1 0, h) := by
  obtain ⟨a1, a2, a3, a4, a5, a6⟩ := A
  obtain ⟨o1, o2, o3⟩ := o
  have W : wp (Md_isWhole h 2000) (fun r h' => h' = h ∧ r = ifW s.2.1 s.2.2.1 s.2.2.2.2.2 1 0) := by
    unfold Md_isWhole Md_isWhole_b2
    refine itr_wpx (fun d σ => ∃ i : Nat, σ = (h, 2000, (i : Int)) ∧ i + d = s.2.2.1 ∧ ∀ w : Nat, w < i → s.2.2.2.2.2 (3 * (w : Int)) < s.2.1 ∧ s.2.2.2.2.2 (3 * (w : Int) + 1) < s.2.1 ∧ s.2.2.2.2.2 (3 * (w : Int)) ≠ s.2.2.2.2.2 (3 * (w : Int) + 1)) ?_ (n := s.2.2.1) (FU_gt (by omega)) ⟨0, rfl, by omega, fun w hw => absurd hw (by omega)⟩
    rintro d σ k ⟨i, rfl, hd, T⟩ K
    show wp (Md_isWhole_b2_body k h 2000 (i : Int)) _
    unfold Md_isWhole_b2_body
    rw [cC_s SH2000' rfl, a2, a3, w32_n (x := (i : Int)) (by omega) (by omega), w32_n (x := (s.2.2.1 : Int)) (by omega) (by omega), w32_n (x := (s.2.1 : Int)) (by omega) (by omega)]
    by_cases hi : i < s.2.2.1
    · have w0 := b.2.2.2.1 (3 * (i : Int)) (by omega) (by omega)
      have w1 := b.2.2.2.1 (3 * (i : Int) + 1) (by omega) (by omega)
      have bad : ¬ (s.2.2.2.2.2 (3 * (i : Int)) < s.2.1 ∧ s.2.2.2.2.2 (3 * (i : Int) + 1) < s.2.1 ∧ s.2.2.2.2.2 (3 * (i : Int)) ≠ s.2.2.2.2.2 (3 * (i : Int) + 1)) → wp (some (0, h)) (fun r h' => h' = h ∧ r = ifW s.2.1 s.2.2.1 s.2.2.2.2.2 1 0) := fun z => wp_i ⟨rfl, by rw [ifW_0 (fun wh => z (wh.2 i hi))]⟩
      rw [if_pos (by omega), cX_s SH2023 (by omega) (by omega) (by omega), bd_s, cX_s SH2023 (by omega) (by omega) (by omega), bd_s, rd_ge (by decide), rd_ge (by decide), w32_n (x := 3 * (i : Int)) (by omega) (by omega), w32_n (x := 3 * (i : Int) + 1) (by omega) (by omega), a6 _ (by omega) (by omega), a6 _ (by omega) (by omega), w32_n (x := s.2.2.2.2.2 (3 * (i : Int))) (by omega) (by omega), w32_n (x := s.2.2.2.2.2 (3 * (i : Int) + 1)) (by omega) (by omega)]
      by_cases z1 : s.2.2.2.2.2 (3 * (i : Int)) < s.2.1
      · rw [if_pos z1]
        by_cases z2 : s.2.2.2.2.2 (3 * (i : Int) + 1) < s.2.1
        · rw [if_pos z2]
          by_cases z3 : s.2.2.2.2.2 (3 * (i : Int)) = s.2.2.2.2.2 (3 * (i : Int) + 1)
          · rw [if_pos z3]; exact bad (fun z => z.2.2 z3)
          · rw [if_neg z3]
            refine K (d - 1) _ (by omega) ⟨i + 1, rfl, by omega, fun w hw => ?_⟩
            by_cases e : w = i
            · subst e; exact ⟨z1, z2, z3⟩
            · exact T w (by omega)
        · rw [if_neg z2]; exact bad (fun z => z2 z.2.1)
      · rw [if_neg z1]; exact bad (fun z => z1 z.1)
    · rw [if_neg (by omega)]
      have T' : ∀ w : Nat, w < s.2.2.1 → s.2.2.2.2.2 (3 * (w : Int)) < s.2.1 ∧ s.2.2.2.2.2 (3 * (w : Int) + 1) < s.2.1 ∧ s.2.2.2.2.2 (3 * (w : Int)) ≠ s.2.2.2.2.2 (3 * (w : Int) + 1) := fun w hw => T w (by omega)
      by_cases z : (1 : Int) < (s.2.1 : Int)
      · rw [if_pos z]
        exact wp_i ⟨rfl, by rw [ifW_1 ⟨by omega, T'⟩]⟩
      · rw [if_neg z]
        exact wp_i ⟨rfl, by rw [ifW_0 (fun wh => by have := wh.1; omega)]⟩
  obtain ⟨r, h', e, rfl, rfl⟩ := W
  exact e
theorem b102_0 {w : Nat} (b : BOK B L) (hw : w ≤ L) (e : h 2000 11 = (w : Int)) : Md_readCounty_b102 h 2000 = some (0, h) := by
  unfold Md_readCounty_b102
  rw [cC_s SH2000' rfl, if_neg (fl_2 b hw e)]
theorem ctm_it (b : BOK B L) {h0 : Hp} : ∀ (f M p : Nat) (h : Hp) (s : Cst), L < p + f → f < M → On CTm h0 h → PMt h B L p dp → CyM h s → SBd s → SOk s → wp (itr (fun k s => Md_readCounty_b46_body k s.1 s.2.1 s.2.2) M (h, 2000, 1)) (fun _ h' => On CTm h0 h' ∧ ((∃ w : Nat, cyL B L f p s = (w, none) ∧ w ≤ L ∧ h' 2000 11 = (w : Int)) ∨ ∃ (q : Nat) (t : Cst), cyL B L f p s = (q, some t) ∧ h' 2000 11 = -1 ∧ CyM h' t)) := by
  intro f
  induction f with
  | zero =>
    intro M p h s h1 h2 F P
    have := P.2.2.2.2.1
    omega
  | succ f ih =>
    intro M p h s h1 h2 F P A sb so
    obtain ⟨M, rfl⟩ : ∃ M', M = M' + 1 := ⟨M - 1, by omega⟩
    obtain ⟨M, rfl⟩ : ∃ M', M = M' + 1 := ⟨M - 1, by omega⟩
    rw [itr_s]
    show wp (Md_readCounty_b46_body (itr (fun k (s : Hp × Int × Int) => Md_readCounty_b46_body k s.1 s.2.1 s.2.2) (M + 1)) h 2000 1) _
    have el : cyL B L (f + 1) p s = bnP (cyC B L s p) (fun q t => if chP B L q = 59 then cyL B L f (q + 1) t else if chP B L q = 0 then ifW t.2.1 t.2.2.1 t.2.2.2.2.2 (q, some t) (q, none) else (q, none)) := rfl
    rw [el]
    have kz : ∀ h' : Hp, itr (fun k (s : Hp × Int × Int) => Md_readCounty_b46_body k s.1 s.2.1 s.2.2) (M + 1) (h', 2000, 0) = Md_readCounty_b102 h' 2000 := by
      intro h'
      rw [itr_s]
      show Md_readCounty_b46_body _ h' 2000 0 = _
      unfold Md_readCounty_b46_body
      rw [if_pos (show w32 0 = 0 by decide)]
    have kc := fun (q : Nat) (h' : Hp) (t : Cst) (x1 : L < q + f) => ih (M + 1) q h' t x1 (by omega)
    generalize itr (fun k (s : Hp × Int × Int) => Md_readCounty_b46_body k s.1 s.2.1 s.2.2) (M + 1) = kk at kz kc ⊢
    unfold Md_readCounty_b46_body
    rw [if_neg (show ¬ w32 1 = 0 by decide), cC_s SH2000' rfl, if_pos (fl_1 P)]
    have b84 : ∀ h' : Hp, Md_readCounty_b84 kk h' 2000 0 = Md_readCounty_b102 h' 2000 := by
      intro h'
      unfold Md_readCounty_b84
      rw [if_pos (show w32 0 = 0 by decide), kz]
    refine wp_cl (clause_z b P A so) ?_
    rintro x h' ⟨F2, ⟨w, e, hw, e3⟩ | ⟨q, t, e, hq, nn, P2, A2⟩⟩
    · rw [if_neg (fl_2 b hw e3), b84, b102_0 b hw e3, e, bnP_n]
      exact wp_i ⟨F.tr F2, Or.inl ⟨w, rfl, hw, e3⟩⟩
    · obtain ⟨sb2, so2⟩ := cyC_b sb so e
      have cb := chP_b (p := q) b
      have lk := Md_look_e ro1 b P2
      rw [nn, up_id P2.2.2.2.1] at lk
      rw [if_pos (fl_1 P2), lk, cl_s, e, bnP_s]
      by_cases c1 : chP B L q = 59
      · have hl := chP_l c1 (by decide)
        rw [if_pos ((mc_x cb (by decide)).mpr c1), if_pos c1]
        unfold Md_readCounty_b84
        rw [if_neg (show ¬ w32 1 = 0 by decide), cC_s SH2000' rfl, pu_s, P2.2.2.2.1]
        refine kc (q + 1) _ t (by omega) ((F.tr F2).tr cm_a) (P2.mv ro1 (q := q + 1) (by omega)) ?_ sb2 so2
        obtain ⟨a1, a2, a3, a4, a5, a6⟩ := A2
        exact ⟨by rw [up_off (by decide)]; exact a1, by rw [up_off (by decide)]; exact a2, by rw [up_off (by decide)]; exact a3, by rw [up_off_row (by decide)]; exact a4, by rw [up_off_row (by decide)]; exact a5, by rw [up_off_row (by decide)]; exact a6⟩
      · rw [if_neg (fun z => c1 ((mc_x cb (by decide)).mp z)), if_neg c1, b84]
        unfold Md_readCounty_b102 Md_readCounty_b125
        rw [cC_s SH2000' rfl, if_pos (fl_1 P2), lk, cl_s]
        by_cases c2 : chP B L q = 0
        · rw [if_pos ((mc_0 cb).mpr c2), if_pos c2, whole_m A2 sb2 so2, cl_s]
          by_cases wh : whP t.2.1 t.2.2.1 t.2.2.2.2.2
          · rw [ifW_1 (α := Int) (x := 1) (y := 0) wh, ifW_1 wh, if_neg (show ¬ w32 1 = 0 by decide)]
            exact wp_i ⟨F.tr F2, Or.inr ⟨q, t, rfl, P2.2.2.2.2.2.1, A2⟩⟩
          · rw [ifW_0 (α := Int) (x := 1) (y := 0) wh, ifW_0 wh, if_pos (show w32 0 = 0 by decide), cC_s SH2000' rfl, Md_fails_1 P2, cl_s]
            exact wp_i ⟨(F.tr F2).tr cm_f, Or.inl ⟨q, rfl, P2.2.2.2.2.1, up_at⟩⟩
        · rw [if_neg (fun z => c2 ((mc_0 cb).mp z)), if_neg c2, cC_s SH2000' rfl, Md_fails_1 P2, cl_s]
          exact wp_i ⟨(F.tr F2).tr cm_f, Or.inl ⟨q, rfl, P2.2.2.2.2.1, up_at⟩⟩
theorem readCounty_e (b : BOK B L) (t0 : h 2000 6 = (L : Int)) (t : ∀ k : Nat, k < L → h 2001 (k : Int) = w8 (B k)) : ∃ (x : Int) (h' : Hp), Md_readCounty h 2000 = some (x, h') ∧ On CTm h h' ∧ ((∃ w : Nat, cyP B L = (w, none) ∧ w ≤ L ∧ h' 2000 11 = (w : Int)) ∨ ∃ (q : Nat) (y : Cst), cyP B L = (q, some y) ∧ h' 2000 11 = -1 ∧ CyM h' y) := by
  have L240 := b.1
  have W : wp (Md_readCounty h 2000) (fun _ h' => On CTm h h' ∧ ((∃ w : Nat, cyP B L = (w, none) ∧ w ≤ L ∧ h' 2000 11 = (w : Int)) ∨ ∃ (q : Nat) (y : Cst), cyP B L = (q, some y) ∧ h' 2000 11 = -1 ∧ CyM h' y)) := by
    unfold Md_readCounty Md_starts Md_readCounty_b46
    rw [cC_s SH2000' rfl, cC_s SH2000' rfl, pu_s, pu_s, pu_s, pu_s, pu_s, cl_s, pu_s, pu_s, pu_s, cY_s SH2019 (by decide) (by decide) (by decide) (by decide), pu_s, cY_s SH2019 (by decide) (by decide) (by decide) (by decide), pu_s, t0]
    generalize hh : up (up (up (up (up (up (up (up (up (up h 2000 5 2001) 2000 8 0) 2000 9 (L : Int)) 2000 10 0) 2000 11 (-1)) 2000 28 0) 2000 29 0) 2000 31 0) 2019 0 20) 2019 1 20 = h2
    have F : On CTm h h2 := by
      rw [← hh]
      exact (((((((((On.up (Or.inl ⟨rfl, by omega⟩)).tr (On.up (Or.inl ⟨rfl, by omega⟩))).tr (On.up (Or.inl ⟨rfl, by omega⟩))).tr (On.up (Or.inl ⟨rfl, by omega⟩))).tr (On.up (Or.inl ⟨rfl, by omega⟩))).tr (On.up (Or.inl ⟨rfl, by omega⟩))).tr (On.up (Or.inl ⟨rfl, by omega⟩))).tr (On.up (Or.inl ⟨rfl, by omega⟩))).tr (On.up (Or.inr (Or.inl rfl)))).tr (On.up (Or.inr (Or.inl rfl)))
    have P : PMt h2 B L 0 (h 2000 12) := by
      rw [← hh]
      refine ⟨?_, ?_, ?_, ?_, by omega, ?_, ?_, fun k hk => ?_⟩
      · rw [up_ne (by decide), up_ne (by decide), up_off (by decide), up_off (by decide), up_off (by decide), up_off (by decide), up_off (by decide), up_off (by decide), up_off (by decide), up_at]
      · rw [up_ne (by decide), up_ne (by decide), up_off (by decide), up_off (by decide), up_off (by decide), up_off (by decide), up_off (by decide), up_off (by decide), up_at]
      · rw [up_ne (by decide), up_ne (by decide), up_off (by decide), up_off (by decide), up_off (by decide), up_off (by decide), up_off (by decide), up_at]
      · rw [up_ne (by decide), up_ne (by decide), up_off (by decide), up_off (by decide), up_off (by decide), up_off (by decide), up_at]; rfl
      · rw [up_ne (by decide), up_ne (by decide), up_off (by decide), up_off (by decide), up_off (by decide), up_at]
      · rw [up_ne (by decide), up_ne (by decide), up_off (by decide), up_off (by decide), up_off (by decide), up_off (by decide), up_off (by decide), up_off (by decide), up_off (by decide), up_off (by decide)]
      · rw [up_ne (by decide), up_ne (by decide), up_ne (by decide), up_ne (by decide), up_ne (by decide), up_ne (by decide), up_ne (by decide), up_ne (by decide), up_ne (by decide), up_ne (by decide), Int.zero_add]
        exact t k hk
    have A : CyM h2 (0, 0, 0, usI 0, fun _ => 0, fun _ => 0) := by
      rw [← hh]
      refine ⟨?_, ?_, ?_, fun k k0 k1 => ?_, fun k k0 k1 => absurd k1 (by show ¬ k < 3 * ((0 : Nat) : Int); omega), fun k k0 k1 => absurd k1 (by show ¬ k < 3 * ((0 : Nat) : Int); omega)⟩
      · rw [up_ne (by decide), up_ne (by decide), up_at]
      · rw [up_ne (by decide), up_ne (by decide), up_off (by decide), up_off (by decide), up_at]; rfl
      · rw [up_ne (by decide), up_ne (by decide), up_off (by decide), up_at]; rfl
      · have : k = 0 ∨ k = 1 := by omega
        rcases this with e | e <;> subst e
        · rw [up_off (by decide), up_at]; decide
        · rw [up_at]; decide
    exact ctm_it b (L + 1) FU 0 h2 _ (by omega) (FU_gt (by omega)) F P A s0_b.1 s0_b.2
  obtain ⟨x, h', e, q⟩ := W
  exact ⟨x, h', e, q⟩
end M
end PureCty5
