section PureMatched
/-! MATCHED -/
section F
variable {n : Nat} {f : Int → Int}
theorem gm100 {kf : Hp × Int × Int × Int → Option (Int × Hp)} {p d0 : Nat} (hp : p < n) (G : ∀ (h : Hp) (st : Int → Int) (s : Int × Int), seK n (p + 1) st → MS h n st → MD h n f s → adP n f st → GMr n f (kf (h, 2000, ((p + 1 : Nat) : Int), asV n f st)) h st (seF n d0 (p + 1) st) s) : ∀ (d q : Nat) (h : Hp) (st : Int → Int) (s : Int × Int), p < q → q + d = n → seK n p st → st (p : Int) = -1 → (∀ k : Nat, k < n → k ≠ p → h 2038 (k : Int) = st (k : Int)) → MD h n f s → adP n f st → ∀ M, d < M → GMr n f (itr (fun k s => Md_goMatch_b100_body kf k s.1 s.2.1 s.2.2.1 s.2.2.2.1 s.2.2.2.2) M (h, 2000, asV n f st, (p : Int), (q : Int))) h st (seF.seG n (seF n d0 (p + 1)) p d q st ++ seF n d0 (p + 1) (ud st (p : Int) 9)) s := by
  have ep : (p : Int) + 1 = ((p + 1 : Nat) : Int) := by omega
  intro d
  induction d with
  | zero =>
    intro q h st s pq qd K sp T C P M hM
    obtain ⟨M, rfl⟩ : ∃ M' : Nat, M = M' + 1 := ⟨M - 1, by omega⟩
    have eq' : q = n := by omega
    subst eq'
    obtain ⟨C1, c44, c45, cb⟩ := C
    have n6 := C1.2.2.2.1
    have eL : seF.seG q (seF q d0 (p + 1)) p 0 q st ++ seF q d0 (p + 1) (ud st (p : Int) 9) = seF q d0 (p + 1) (ud st (p : Int) 9) := rfl
    rw [eL]
    have F1 : On Tgm h (up h 2038 (p : Int) 9) := On.up (Or.inl rfl)
    obtain ⟨h2, e2, F2, T2, x44, x45⟩ := G (up h 2038 (p : Int) 9) (ud st (p : Int) 9) s (seK_9 K) (fun k hk => by
      by_cases e : k = p
      · subst e; rw [up_at, ud_at]
      · rw [up_off (by omega), ud_ne (by omega)]; exact T k hk e) ⟨stm_gm C1 F1, by rw [up_ne (by decide)]; exact c44, by rw [up_ne (by decide)]; exact c45, cb⟩ (adP_9 P)
    rw [asV_9 sp] at e2
    refine ⟨up h2 2038 (p : Int) (-1), ?_, (F1.tr F2).tr (On.up (Or.inl rfl)), fun k hk => ?_, by rw [up_ne (by decide)]; exact x44, by rw [up_ne (by decide)]; exact x45⟩
    · rw [itr_s]
      show Md_goMatch_b100_body kf _ h 2000 (asV q f st) (p : Int) (q : Int) = _
      unfold Md_goMatch_b100_body
      rw [cC_s SH2000' rfl, C1.2.1, if_neg (Int.lt_irrefl _), cY_s SH2038 (by decide) (by omega) (by omega) (by decide), w32_n (x := (p : Int)) (by omega) (by omega), pu_s, ep, e2, cl_s, cY_s SH2038 (by decide) (by omega) (by omega) (by decide), pu_s]
    · by_cases e : k = p
      · subst e; rw [up_at, sp]
      · rw [up_off (by omega), T2 k hk, ud_ne (by omega)]
  | succ d ih =>
    intro q h st s pq qd K sp T C P M hM
    obtain ⟨M, rfl⟩ : ∃ M' : Nat, M = M' + 1 := ⟨M - 1, by omega⟩
    have C0 := C
    obtain ⟨C1, c44, c45, cb⟩ := C
    have n6 := C1.2.2.2.1
    have g := C1.2.2.2
    have eq1 : (q : Int) + 1 = ((q + 1 : Nat) : Int) := by omega
    have tq : h 2038 (q : Int) = st (q : Int) := T q (by omega) (by omega)
    have kq := K q (by omega)
    have db := Gd_d g (a := (p : Int)) (b := (q : Int)) (by omega) (by omega) (by omega) (by omega)
    have nx := fun (h' : Hp) (s' : Int × Int) (T' : ∀ k : Nat, k < n → k ≠ p → h' 2038 (k : Int) = st (k : Int)) (C' : MD h' n f s') => (ih (q + 1) h' st s' (by omega) (by omega) K sp T' C' P M (by omega))
    rw [seG_s, List.append_assoc, itr_s]
    show GMr n f (Md_goMatch_b100_body kf _ h 2000 (asV n f st) (p : Int) (q : Int)) h st _ s
    have y1 : ∀ A : Option (Int × Hp), cY 100 2038 (q : Int) A = A := fun A => cY_s SH2038 (by decide) (by omega) (by omega) (by decide)
    have y2 : ∀ A : Option (Int × Hp), cY 100 2038 (p : Int) A = A := fun A => cY_s SH2038 (by decide) (by omega) (by omega) (by decide)
    unfold Md_goMatch_b100_body
    rw [cC_s SH2000' rfl, C1.2.1, w32_n (x := (q : Int)) (by omega) (by omega), w32_n (x := (n : Int)) (by omega) (by omega), if_pos (by omega), cX_s SH2038 (by omega) (by omega) (by decide), rd_ge (by decide), tq, w32_id (x := st (q : Int)) (by omega) (by omega)]
    by_cases z : st (q : Int) = -1
    · rw [if_pos z, if_pos z, Md_owes_e C1 (by omega) (by omega) (by omega) (by omega), cl_s, w32_n (x := f (6 * (p : Int) + (q : Int))) (by omega) (by omega)]
      by_cases o : f (6 * (p : Int) + (q : Int)) = 0
      · rw [if_pos o, eq1]
        obtain ⟨h4, e4, F4, T4, y44, y45⟩ := nx h s T C0
        have sk := mtM_no (n := n) (f := f) (seF n d0 (p + 1) (prS st p q)) s (mt_skip n6 pq (by omega) o)
        refine ⟨h4, e4, F4, T4, ?_, ?_⟩
        · rw [List.foldl_append, sk]; exact y44
        · rw [List.foldl_append, sk]; exact y45
      · have F1 : On Tgm h (up (up h 2038 (p : Int) (q : Int)) 2038 (q : Int) (p : Int)) := (On.up (Or.inl rfl)).tr (On.up (Or.inl rfl))
        have M1 := stm_gm C1 F1
        obtain ⟨h2, e2, F2, T2, x44, x45⟩ := G _ (prS st p q) s (seK_p K pq (by omega)) (fun k hk => by
          unfold prS
          by_cases e : k = q
          · subst e; rw [up_at, ud_at]
          · rw [up_off (by omega), ud_ne (by omega)]
            by_cases e1 : k = p
            · subst e1; rw [up_at, ud_at]
            · rw [up_off (by omega), ud_ne (by omega)]; exact T k hk e1) ⟨M1, by rw [up_ne (by decide), up_ne (by decide)]; exact c44, by rw [up_ne (by decide), up_ne (by decide)]; exact c45, cb⟩ (adP_p g P pq (by omega) o)
        rw [asV_p n6 pq (by omega) sp z] at e2
        have F3 : On Tgm h (up h2 2038 (q : Int) (-1)) := (F1.tr F2).tr (On.up (Or.inl rfl))
        obtain ⟨h4, e4, F4, T4, y44, y45⟩ := nx (up h2 2038 (q : Int) (-1)) ((seF n d0 (p + 1) (prS st p q)).foldl (mtM n f) s) (fun k hk kp => by
          by_cases e : k = q
          · subst e; rw [up_at, z]
          · rw [up_off (by omega), T2 k hk]
            unfold prS
            rw [ud_ne (by omega), ud_ne (by omega)]) ⟨stm_gm C1 F3, by rw [up_ne (by decide)]; exact x44, by rw [up_ne (by decide)]; exact x45, mtM_b g _ _ cb⟩
        rw [if_neg o, y2, w32_n (x := (p : Int)) (by omega) (by omega), pu_s, y1, pu_s, Md_lonely_e M1 (by omega) (by omega), cl_s, Md_lonely_e M1 (by omega) (by omega), cl_s, ep, e2, cl_s, y1, pu_s, eq1]
        refine ⟨h4, e4, F3.tr F4, T4, ?_, ?_⟩
        · rw [List.foldl_append]; exact y44
        · rw [List.foldl_append]; exact y45
    · rw [if_neg z, if_neg z, List.nil_append, eq1]
      exact nx h s T C0
theorem gm (n6 : n ≤ 6) : ∀ (d p N : Nat), p ≤ n → n ≤ p + d → n ≤ p + N → ∀ (h : Hp) (st : Int → Int) (s : Int × Int) (M : Nat), n < p + M → seK n p st → MS h n st → MD h n f s → adP n f st → GMr n f (itr (fun k s => Md_goMatch_b2_body (itr (fun k s => Md_goMatch_body k s.1 s.2.1 s.2.2.1 s.2.2.2) N) k s.1 s.2.1 s.2.2.1 s.2.2.2) M (h, 2000, asV n f st, (p : Int))) h st (seF n d p st) s := by
  intro d
  induction d with
  | zero =>
    intro p N pn pd pN h st s M hM K T C P
    have e : p = n := by omega
    subst e
    obtain ⟨M, rfl⟩ : ∃ M' : Nat, M = M' + 1 := ⟨M - 1, by omega⟩
    rw [itr_s]
    show GMr p f (Md_goMatch_b2_body _ _ h 2000 (asV p f st) (p : Int)) h st [st] s
    unfold Md_goMatch_b2_body
    rw [cC_s SH2000' rfl, C.1.2.1, if_neg (Int.lt_irrefl _)]
    exact gm_leaf (seK_ok K) T C P
  | succ d ih =>
    intro p N pn pd pN h st s M hM K T C P
    obtain ⟨M, rfl⟩ : ∃ M' : Nat, M = M' + 1 := ⟨M - 1, by omega⟩
    rw [itr_s]
    show GMr n f (Md_goMatch_b2_body _ _ h 2000 (asV n f st) (p : Int)) h st (seF n (d + 1) p st) s
    rw [seF_s]
    unfold Md_goMatch_b2_body
    rw [cC_s SH2000' rfl, C.1.2.1]
    by_cases e : p < n
    · have kp := K p e
      rw [if_pos e]
      rw [w32_n (x := (p : Int)) (by omega) (by omega), w32_n (x := (n : Int)) (by omega) (by omega), if_pos (show (p : Int) < (n : Int) by omega), cX_s SH2038 (by omega) (by omega) (by decide), rd_ge (by decide), T p e, w32_id (x := st (p : Int)) (by omega) (by omega)]
      by_cases z : st (p : Int) = -1
      · rw [if_pos z, if_pos z]
        obtain ⟨N, rfl⟩ : ∃ N' : Nat, N = N' + 1 := ⟨N - 1, by omega⟩
        unfold Md_goMatch_b26
        rw [cC_s SH2000' rfl, C.1.2.1, w32_n (x := (p : Int)) (by omega) (by omega), w32_n (x := (n : Int)) (by omega) (by omega), if_neg (show ¬ (p : Int) = (n : Int) by omega), bd_s, show (p : Int) + 1 = ((p + 1 : Nat) : Int) by omega]
        unfold Md_goMatch_b100
        have hFU : ∀ x : Nat, 10 < x → n < p + 1 + x := fun x hx => by omega
        exact (gm100 (d0 := d) e (fun h' st' s' K' T' C' P' => by
          rw [itr_s]
          show GMr n f (Md_goMatch_body _ h' 2000 ((p + 1 : Nat) : Int) (asV n f st')) h' st' _ s'
          unfold Md_goMatch_body Md_goMatch_b2
          exact ih (p + 1) N (by omega) (by omega) (by omega) h' st' s' FU (hFU FU (FU_gt (by decide))) K' T' C' P') (n - (p + 1)) (p + 1) h st s (by omega) (by omega) K z (fun k hk _ => T k hk) C P FU (FU_gt (by omega)))
      · rw [if_neg z, if_neg z, show (p : Int) + 1 = ((p + 1 : Nat) : Int) by omega]
        exact ih (p + 1) N (by omega) (by omega) (by omega) h st s M (by omega) (seK_n K z) T C P
    · have e' : p = n := by omega
      subst e'
      rw [if_neg e, if_neg (Int.lt_irrefl _)]
      exact gm_leaf (seK_ok K) T C P
theorem tgm_sc : ∀ a k : Int, Tgm a k → SCA a k := fun a k q => by
  rcases q with q | ⟨q, q2 | q2⟩
  · unfold SCA; omega
  · unfold SCA; omega
  · unfold SCA; omega
theorem m_matchE {h : Hp} (M : StM h 2032 n f) (n0 : 0 < n) {i : Int} (hi : ir i) : wp (Md_matched_b26 h 2000 i 0) (fun r h' => r = (if i = 0 then ((seL n).foldl (mtM n f) (-1, 0)).1 else ((seL n).foldl (mtM n f) (-1, 0)).2) ∧ On SCA h h') := by
  have n6 := M.2.2.2.1
  unfold Md_matched_b26
  refine itr_wp (fun j σ => ∃ h2 : Hp, σ = (h2, 2000, i, (j : Int)) ∧ On (fun a _ => a = 2038) h h2 ∧ ∀ k : Nat, k < j → h2 2038 (k : Int) = -1) 6 ?_ ?_ (FU_gt (by decide)) ⟨h, rfl, On.rf, fun k hk => absurd hk (by omega)⟩
  · rintro j σ kk hj ⟨h2, rfl, F2, T2⟩ KK
    show wp (Md_matched_b26_body kk h2 2000 i (j : Int)) _
    unfold Md_matched_b26_body
    rw [w32_n (x := (j : Int)) (by omega) (by omega), if_pos (by omega), cC_s SH2000' rfl, cY_s SH2038 (by decide) (by omega) (by omega) (by decide), pu_s, show (j : Int) + 1 = ((j + 1 : Nat) : Int) by omega]
    refine KK _ ⟨_, rfl, F2.tr (On.up rfl), fun k hk => ?_⟩
    by_cases z : k = j
    · rw [z, up_at]
    · rw [up_off (by omega)]; exact T2 k (by omega)
  · rintro σ kk ⟨h2, rfl, F2, T2⟩
    show wp (Md_matched_b26_body kk h2 2000 i ((6 : Nat) : Int)) _
    unfold Md_matched_b26_body
    rw [if_neg (by decide), cC_s SH2000' rfl, pu_s, pu_s]
    have Fa : On SCA h2 (up (up h2 2000 44 (-1)) 2000 45 0) := (On.up (by unfold SCA; omega)).tr (On.up (by unfold SCA; omega))
    have F0 : On SCA h h2 := F2.w (fun a k q => by unfold SCA; omega)
    have x44 : up (up h2 2000 44 (-1)) 2000 45 0 2000 44 = -1 := by rw [up_off (by decide), up_at]
    have x45 : up (up h2 2000 44 (-1)) 2000 45 0 2000 45 = 0 := up_at
    have xs : ∀ k : Nat, k < n → up (up h2 2000 44 (-1)) 2000 45 0 2038 (k : Int) = -1 := fun k hk => by rw [up_ne (by decide), up_ne (by decide)]; exact T2 k (by omega)
    generalize up (up h2 2000 44 (-1)) 2000 45 0 = g at Fa x44 x45 xs
    have Mg := M.on (F0.tr Fa)
    have hF : ∀ x : Nat, 10 < x → n < 0 + x := fun x hx => by omega
    have as0 : asV n f (fun _ => -1) = 0 := by
      unfold asV
      have key : ∀ m : Nat, sm (fun k => if (fun _ : Int => (-1 : Int)) (k : Int) = -1 then 0 else if (fun _ : Int => (-1 : Int)) (k : Int) = 9 then 0 else f (36 + 2 * (k : Int))) m = 0 := by
        intro m
        induction m with
        | zero => rfl
        | succ m ih =>
          show sm _ m + 0 = 0
          rw [ih]
          rfl
      exact key n
    obtain ⟨h3, e3, F3, T3, y44, y45⟩ := gm n6 7 0 11 (by omega) (by omega) (by omega) g (fun _ => -1) (-1, 0) FU (hF FU (FU_gt (by decide))) (fun k hk => Or.inr ⟨rfl, by omega⟩) xs ⟨Mg, x44, x45, ⟨by decide, by decide⟩, by decide, by decide⟩ (fun k hk c1 _ => absurd rfl c1)
    have y44' : h3 2000 44 = ((seL n).foldl (mtM n f) (-1, 0)).1 := y44
    have y45' : h3 2000 45 = ((seL n).foldl (mtM n f) (-1, 0)).2 := y45
    rw [as0] at e3
    have e4 : Md_goMatch g 2000 0 0 = some (0, h3) := by
      unfold Md_goMatch Md_goMatch_f
      rw [show RF = 11 + 1 from rfl, itr_s]
      show Md_goMatch_body _ g 2000 0 0 = _
      unfold Md_goMatch_body Md_goMatch_b2
      exact e3
    have F : On SCA h h3 := (F0.tr Fa).tr (F3.w tgm_sc)
    rw [e4, cl_s, ri hi]
    by_cases z : i = 0
    · rw [if_pos z, if_pos z, y44']
      exact wp_i ⟨rfl, F⟩
    · rw [if_neg z, if_neg z, y45']
      exact wp_i ⟨rfl, F⟩
theorem all_alone {st : Int → Int} (K : ∀ k : Nat, k < n → st (k : Int) = 9) : adM n f st := fun k hk => ⟨Or.inl (K k hk), fun c => absurd (K k hk) c⟩
end F
theorem So_matched : S_matched Inv := by
  intro h a1 I i1
  have I0 := I
  obtain ⟨n, W, lc, sc, ru, pd, wd, f, ly, k0, sn, J⟩ := I
  have Ct := J.2.1
  have Nw := J.2.2.2.2.2.2.2.1
  have Rw : RwI h n := J.2.2.2.2.2.2.2.2.2.2.2.2.2
  have n6 := Ct.1.1.2.2
  have o26 : up h 2000 0 0 2000 26 = (n : Int) := by rw [up_off (by decide)]; exact Ct.2.1.1
  have no : ∃ (r2 : Int) (h2 : Hp), some ((-1 : Int), up h 2000 0 0) = some (r2, h2) ∧ w32 (-1) = w32 r2 ∧ Inv h2 := ⟨_, _, rfl, rfl, Inv.qs I0 t0_sc⟩
  unfold Cc_matched Md_matched
  rw [cC_s SH20' rfl]
  by_cases z : n = 0
  · rw [told0 Ct.1.1 z, cl_s, if_pos wz0]
    refine so_s ?_
    rw [cC_s SH2000' rfl, pu_s, o26, w32_n (x := (n : Int)) (by omega) (by omega), if_pos (by omega)]
    exact no
  · rw [told1 Ct.1.1 z, cl_s, if_neg wn1, ri i1]
    by_cases c : 0 ≤ a1 ∧ a1 ≤ 1
    · obtain ⟨w1, w2, w3⟩ := Rw (by omega)
      have ln := seL_len n (by omega)
      have e0 : ∀ (k : Nat), 0 + k = k := Nat.zero_add
      obtain ⟨h1, e1, F1⟩ := c_matchL n6 i1 (seL n) 0 (-1, -1) h Nw.1 w1 (by rw [e0]; exact w2) (by omega) ⟨by decide, by decide⟩ (fun j st hj => by rw [e0]; exact w3 j st hj) (fun st hs => seL_ok n (by omega) st hs) FU (FU_gt (by omega))
      obtain ⟨s1, hs1, al⟩ := seL_one n (by omega)
      have me := mt_eq (f := f) Nw.1.2.2.2 (seL n) (fun st hs => seL_ok n (by omega) st hs) (seL_up n (by omega)) ⟨s1, hs1, all_alone al⟩
      rw [me] at e1
      have F1' : On SCA h h1 := F1.w (fun a k q => by unfold SCA; omega)
      have F2 : On SCA h (up h1 2000 0 0) := F1'.tr t0_sc
      have M2 := Nw.2.1.on F2
      have o26' : up h1 2000 0 0 2000 26 = (n : Int) := M2.2.1
      obtain ⟨r, h2, e2, er, F3⟩ := m_matchE M2 (by omega) i1
      have e1' : Cc_matched_b25 h 20 a1 (-1) (-1) 0 = some (if a1 = 0 then ((seL n).foldl (mtM n f) (-1, 0)).1 else ((seL n).foldl (mtM n f) (-1, 0)).2, h1) := e1
      rw [if_neg (by omega), if_neg (by omega), e1']
      refine so_s ⟨r, h2, ?_, by rw [er], Inv.qs I0 (F2.tr F3)⟩
      rw [cC_s SH2000' rfl, pu_s, o26', w32_n (x := (n : Int)) (by omega) (by omega), if_neg (by omega), isIn1 i1 I01.1 I01.2.1 c, cl_s, if_neg wn1, e2]
    · have no2 : ∀ K : Option (Int × Hp), (if a1 < 0 then some ((-1 : Int), h) else if 1 < a1 then some ((-1 : Int), h) else K) = some ((-1 : Int), h) := fun K => by
        by_cases d : a1 < 0
        · rw [if_pos d]
        · rw [if_neg d, if_pos (by omega)]
      rw [no2]
      refine so_s ?_
      rw [cC_s SH2000' rfl, pu_s, o26, w32_n (x := (n : Int)) (by omega) (by omega), if_neg (by omega), isIn0 i1 I01.1 I01.2.1 c, cl_s, if_pos wz0]
      exact no
end PureMatched
