section PureGoFirm
/-! FIRM: the reference's way through all rows -/
def seK (n p : Nat) (st : Int → Int) : Prop := ∀ k : Nat, k < n → (st (k : Int) = 9 ∨ (0 ≤ st (k : Int) ∧ st (k : Int) < (n : Int))) ∨ (st (k : Int) = -1 ∧ p ≤ k)
def MS (h : Hp) (n : Nat) (st : Int → Int) : Prop := ∀ k : Nat, k < n → h 2038 (k : Int) = st (k : Int)
def prS (st : Int → Int) (p q : Nat) : Int → Int := ud (ud st (p : Int) (q : Int)) (q : Int) (p : Int)
section P
variable {n p q d : Nat} {st : Int → Int}
theorem seF_s : seF n (d + 1) p st = if p < n then (if st (p : Int) = -1 then seF.seG n (seF n d (p + 1)) p (n - (p + 1)) (p + 1) st ++ seF n d (p + 1) (ud st (p : Int) 9) else seF n d (p + 1) st) else [st] := rfl
theorem seG_s (rec : (Int → Int) → List (Int → Int)) : seF.seG n rec p (d + 1) q st = (if st (q : Int) = -1 then rec (prS st p q) else []) ++ seF.seG n rec p d (q + 1) st := rfl
theorem seK_ok (K : seK n n st) : seOK n st := fun k hk => by
  rcases K k hk with z | z
  · exact z
  · omega
theorem seK_n (K : seK n p st) (c : st (p : Int) ≠ -1) : seK n (p + 1) st := fun k hk => by
  rcases K k hk with z | ⟨z1, z2⟩
  · exact Or.inl z
  · by_cases e : k = p
    · subst e; exact absurd z1 c
    · exact Or.inr ⟨z1, by omega⟩
theorem seK_9 (K : seK n p st) : seK n (p + 1) (ud st (p : Int) 9) := fun k hk => by
  by_cases e : k = p
  · subst e; rw [ud_at]; exact Or.inl (Or.inl rfl)
  · rw [ud_ne (by omega)]
    rcases K k hk with z | ⟨z1, z2⟩
    · exact Or.inl z
    · exact Or.inr ⟨z1, by omega⟩
theorem seK_p (K : seK n p st) (pq : p < q) (qn : q < n) : seK n (p + 1) (prS st p q) := fun k hk => by
  unfold prS
  by_cases e : k = q
  · subst e; rw [ud_at]; exact Or.inl (Or.inr ⟨by omega, by omega⟩)
  · rw [ud_ne (by omega)]
    by_cases e2 : k = p
    · subst e2; rw [ud_at]; exact Or.inl (Or.inr ⟨by omega, by omega⟩)
    · rw [ud_ne (by omega)]
      rcases K k hk with z | ⟨z1, z2⟩
      · exact Or.inl z
      · exact Or.inr ⟨z1, by omega⟩
end P
def Tgf (a k : Int) : Prop := a = 2038 ∨ (a = 2000 ∧ (k = 46 ∨ k = 48))
section F
variable {n : Nat} {f : Int → Int} {i : Int}
theorem stm_gf {h h' : Hp} (M : StM h 2032 n f) (F : On Tgf h h') : StM h' 2032 n f := ⟨M.1, by rw [F 2000 26 (by unfold Tgf; omega)]; exact M.2.1, by rw [mR_e (h := h) (fun k _ _ => F 2032 k (by unfold Tgf; omega))]; exact M.2.2.1, M.2.2.2⟩
/-- the hand of the reference over a list of rows -/
def GFr (n : Nat) (f : Int → Int) (i : Int) (X : Option (Int × Hp)) (h : Hp) (st : Int → Int) (L : List (Int → Int)) (c : Nat) (r : Int) : Prop := ∃ h', X = some (0, h') ∧ On Tgf h h' ∧ MS h' n st ∧ h' 2000 46 = ((L.foldl (fmS n f i) (c, r)).1 : Int) ∧ h' 2000 48 = (L.foldl (fmS n f i) (c, r)).2
def MC (h : Hp) (n : Nat) (f : Int → Int) (i : Int) (c : Nat) (r : Int) : Prop := StM h 2032 n f ∧ h 2000 46 = (c : Int) ∧ h 2000 47 = i ∧ h 2000 48 = r
theorem gf_leaf {kf : Hp × Int × Int → Option (Int × Hp)} {h : Hp} {st : Int → Int} {c : Nat} {r : Int} (hi : ir i) (K : seOK n st) (T : MS h n st) (C : MC h n f i c r) (cb : c + 1 ≤ 1000) : GFr n f i (Md_goFirm_b26 kf h 2000 (n : Int)) h st [st] c r := by
  obtain ⟨M, c46, c47, c48⟩ := C
  have n6 := M.2.2.2.1
  obtain ⟨r2, h2, e2, eH, fr⟩ := m_isFirm M K T
  rw [eH] at e2
  have b61 : ∀ (g : Hp), g 2000 46 = (c : Int) → Md_goFirm_b61 kf g 2000 = some (0, up g 2000 46 ((c : Int) + 1)) := fun g hg => by
    unfold Md_goFirm_b61
    rw [cC_s SH2000' rfl, hg, pu_s]
  unfold GFr Md_goFirm_b26
  rw [cC_s SH2000' rfl, M.2.1, if_pos rfl, e2, cl_s, c46, c47, w32_n (x := (c : Int)) (by omega) (by omega), ri hi]
  show ∃ h' : Hp, _ ∧ _ ∧ _ ∧ h' 2000 46 = ((fmS n f i (c, r) st).1 : Int) ∧ h' 2000 48 = (fmS n f i (c, r) st).2
  rcases fr with ⟨r1, p⟩ | ⟨r1, p⟩
  · rw [r1, if_neg wn1, fmS_1 p]
    by_cases z : (c : Int) = i
    · rw [if_pos z, m_rowOf n6 M.2.1 K T, cl_s, pu_s, b61 _ (by rw [up_off (by decide)]; exact c46)]
      refine ⟨_, rfl, (On.up (Or.inr ⟨rfl, Or.inr rfl⟩)).tr (On.up (Or.inr ⟨rfl, Or.inl rfl⟩)), fun k hk => by rw [up_ne (by decide), up_ne (by decide)]; exact T k hk, up_at, ?_⟩
      rw [up_off (by decide), up_at]
      exact (if_pos z).symm
    · rw [if_neg z, b61 h c46]
      refine ⟨_, rfl, On.up (Or.inr ⟨rfl, Or.inl rfl⟩), fun k hk => by rw [up_ne (by decide)]; exact T k hk, up_at, ?_⟩
      rw [up_off (by decide), c48]
      exact (if_neg z).symm
  · rw [r1, if_pos wz0, fmS_0 p]
    exact ⟨h, rfl, On.rf, T, c46, c48⟩
theorem gf76 {kf : Hp × Int × Int → Option (Int × Hp)} {p : Nat} {rec : (Int → Int) → List (Int → Int)} (n6 : n ≤ 6) (hp : p < n) (G : ∀ (h : Hp) (st : Int → Int) (c : Nat) (r : Int), seK n (p + 1) st → MS h n st → MC h n f i c r → c + (rec st).length ≤ 1000 → GFr n f i (kf (h, 2000, ((p + 1 : Nat) : Int))) h st (rec st) c r) : ∀ (d q : Nat) (h : Hp) (st : Int → Int) (c : Nat) (r : Int), p < q → q + d = n → seK n p st → st (p : Int) = -1 → (∀ k : Nat, k < n → k ≠ p → h 2038 (k : Int) = st (k : Int)) → MC h n f i c r → c + (seF.seG n rec p d q st ++ rec (ud st (p : Int) 9)).length ≤ 1000 → ∀ M, d < M → GFr n f i (itr (fun k s => Md_goFirm_b76_body kf k s.1 s.2.1 s.2.2.1 s.2.2.2) M (h, 2000, (p : Int), (q : Int))) h st (seF.seG n rec p d q st ++ rec (ud st (p : Int) 9)) c r := by
  have ep : (p : Int) + 1 = ((p + 1 : Nat) : Int) := by omega
  intro d
  induction d with
  | zero =>
    intro q h st c r pq qd K sp T C cb M hM
    obtain ⟨M, rfl⟩ : ∃ M' : Nat, M = M' + 1 := ⟨M - 1, by omega⟩
    have eq' : q = n := by omega
    subst eq'
    obtain ⟨C1, c46, c47, c48⟩ := C
    have eL : seF.seG q rec p 0 q st ++ rec (ud st (p : Int) 9) = rec (ud st (p : Int) 9) := rfl
    rw [eL] at cb ⊢
    have F1 : On Tgf h (up h 2038 (p : Int) 9) := On.up (Or.inl rfl)
    obtain ⟨h2, e2, F2, T2, x46, x48⟩ := G (up h 2038 (p : Int) 9) (ud st (p : Int) 9) c r (seK_9 K) (fun k hk => by
      by_cases e : k = p
      · subst e; rw [up_at, ud_at]
      · rw [up_off (by omega), ud_ne (by omega)]; exact T k hk e) ⟨stm_gf C1 F1, by rw [up_ne (by decide)]; exact c46, by rw [up_ne (by decide)]; exact c47, by rw [up_ne (by decide)]; exact c48⟩ cb
    refine ⟨up h2 2038 (p : Int) (-1), ?_, (F1.tr F2).tr (On.up (Or.inl rfl)), fun k hk => ?_, by rw [up_ne (by decide)]; exact x46, by rw [up_ne (by decide)]; exact x48⟩
    · rw [itr_s]
      show Md_goFirm_b76_body kf _ h 2000 (p : Int) (q : Int) = _
      unfold Md_goFirm_b76_body
      rw [cC_s SH2000' rfl, C1.2.1, if_neg (Int.lt_irrefl _), cY_s SH2038 (by decide) (by omega) (by omega) (by decide), w32_n (x := (p : Int)) (by omega) (by omega), pu_s, ep, e2, cl_s, cY_s SH2038 (by decide) (by omega) (by omega) (by decide), pu_s]
    · by_cases e : k = p
      · subst e; rw [up_at, sp]
      · rw [up_off (by omega), T2 k hk, ud_ne (by omega)]
  | succ d ih =>
    intro q h st c r pq qd K sp T C cb M hM
    obtain ⟨M, rfl⟩ : ∃ M' : Nat, M = M' + 1 := ⟨M - 1, by omega⟩
    have C0 := C
    obtain ⟨C1, c46, c47, c48⟩ := C
    have eq1 : (q : Int) + 1 = ((q + 1 : Nat) : Int) := by omega
    have tq : h 2038 (q : Int) = st (q : Int) := T q (by omega) (by omega)
    have kq := K q (by omega)
    rw [seG_s, List.append_assoc] at cb ⊢
    have hd : ∀ X : Hp × Int × Int × Int → Option (Int × Hp), Md_goFirm_b76_body kf X h 2000 (p : Int) (q : Int) = if st (q : Int) = -1 then cl (kf (up (up h 2038 (p : Int) (q : Int)) 2038 (q : Int) (p : Int), 2000, ((p + 1 : Nat) : Int))) (fun r20 h21 => X (up h21 2038 (q : Int) (-1), 2000, (p : Int), ((q + 1 : Nat) : Int))) else X (h, 2000, (p : Int), ((q + 1 : Nat) : Int)) := fun X => by
      have y1 : ∀ A : Option (Int × Hp), cY 100 2038 (q : Int) A = A := fun A => cY_s SH2038 (by decide) (by omega) (by omega) (by decide)
      have y2 : ∀ A : Option (Int × Hp), cY 100 2038 (p : Int) A = A := fun A => cY_s SH2038 (by decide) (by omega) (by omega) (by decide)
      unfold Md_goFirm_b76_body
      rw [cC_s SH2000' rfl, C1.2.1, w32_n (x := (q : Int)) (by omega) (by omega), w32_n (x := (n : Int)) (by omega) (by omega), if_pos (by omega), cX_s SH2038 (by omega) (by omega) (by decide), rd_ge (by decide), tq, w32_id (x := st (q : Int)) (by omega) (by omega), y2, w32_n (x := (p : Int)) (by omega) (by omega), pu_s, y1, pu_s, ep, eq1]
      simp only [y1, pu_s]
    rw [itr_s]
    show GFr n f i (Md_goFirm_b76_body kf _ h 2000 (p : Int) (q : Int)) h st _ c r
    rw [hd]
    by_cases z : st (q : Int) = -1
    · rw [if_pos z, if_pos z]
      rw [if_pos z] at cb
      have F1 : On Tgf h (up (up h 2038 (p : Int) (q : Int)) 2038 (q : Int) (p : Int)) := (On.up (Or.inl rfl)).tr (On.up (Or.inl rfl))
      have lA : (rec (prS st p q) ++ (seF.seG n rec p d (q + 1) st ++ rec (ud st (p : Int) 9))).length = (rec (prS st p q)).length + (seF.seG n rec p d (q + 1) st ++ rec (ud st (p : Int) 9)).length := List.length_append
      rw [lA] at cb
      obtain ⟨h2, e2, F2, T2, x46, x48⟩ := G _ (prS st p q) c r (seK_p K pq (by omega)) (fun k hk => by
        unfold prS
        by_cases e : k = q
        · subst e; rw [up_at, ud_at]
        · rw [up_off (by omega), ud_ne (by omega)]
          by_cases e1 : k = p
          · subst e1; rw [up_at, ud_at]
          · rw [up_off (by omega), ud_ne (by omega)]; exact T k hk e1) ⟨stm_gf C1 F1, by rw [up_ne (by decide), up_ne (by decide)]; exact c46, by rw [up_ne (by decide), up_ne (by decide)]; exact c47, by rw [up_ne (by decide), up_ne (by decide)]; exact c48⟩ (by omega)
      have F3 : On Tgf h (up h2 2038 (q : Int) (-1)) := (F1.tr F2).tr (On.up (Or.inl rfl))
      have cb2 := fm_cb (n := n) (f := f) (i := i) (rec (prS st p q)) (c, r)
      have cb2' : ((rec (prS st p q)).foldl (fmS n f i) (c, r)).1 ≤ c + (rec (prS st p q)).length := cb2
      obtain ⟨h4, e4, F4, T4, y46, y48⟩ := ih (q + 1) (up h2 2038 (q : Int) (-1)) st ((rec (prS st p q)).foldl (fmS n f i) (c, r)).1 ((rec (prS st p q)).foldl (fmS n f i) (c, r)).2 (by omega) (by omega) K sp (fun k hk kp => by
        by_cases e : k = q
        · subst e; rw [up_at, z]
        · rw [up_off (by omega), T2 k hk]
          unfold prS
          rw [ud_ne (by omega), ud_ne (by omega)]) ⟨stm_gf C1 F3, by rw [up_ne (by decide)]; exact x46, by rw [F3 2000 47 (by unfold Tgf; omega)]; exact c47, by rw [up_ne (by decide)]; exact x48⟩ (by omega) M (by omega)
      rw [e2, cl_s]
      refine ⟨h4, e4, F3.tr F4, T4, ?_, ?_⟩
      · rw [List.foldl_append]; exact y46
      · rw [List.foldl_append]; exact y48
    · rw [if_neg z, if_neg z, List.nil_append]
      rw [if_neg z, List.nil_append] at cb
      exact ih (q + 1) h st c r (by omega) (by omega) K sp T C0 cb M (by omega)
theorem gf (n6 : n ≤ 6) (hi : ir i) : ∀ (d p N : Nat), p ≤ n → n ≤ p + d → n ≤ p + N → ∀ (h : Hp) (st : Int → Int) (c : Nat) (r : Int) (M : Nat), n < p + M → seK n p st → MS h n st → MC h n f i c r → c + (seF n d p st).length ≤ 1000 → GFr n f i (itr (fun k s => Md_goFirm_b2_body (itr (fun k s => Md_goFirm_body k s.1 s.2.1 s.2.2) N) k s.1 s.2.1 s.2.2) M (h, 2000, (p : Int))) h st (seF n d p st) c r := by
  intro d
  induction d with
  | zero =>
    intro p N pn pd pN h st c r M hM K T C cb
    have e : p = n := by omega
    subst e
    obtain ⟨M, rfl⟩ : ∃ M' : Nat, M = M' + 1 := ⟨M - 1, by omega⟩
    rw [itr_s]
    show GFr p f i (Md_goFirm_b2_body _ _ h 2000 (p : Int)) h st [st] c r
    unfold Md_goFirm_b2_body
    rw [cC_s SH2000' rfl, C.1.2.1, if_neg (Int.lt_irrefl _)]
    exact gf_leaf hi (seK_ok K) T C cb
  | succ d ih =>
    intro p N pn pd pN h st c r M hM K T C cb
    obtain ⟨M, rfl⟩ : ∃ M' : Nat, M = M' + 1 := ⟨M - 1, by omega⟩
    rw [itr_s]
    show GFr n f i (Md_goFirm_b2_body _ _ h 2000 (p : Int)) h st (seF n (d + 1) p st) c r
    rw [seF_s] at cb ⊢
    unfold Md_goFirm_b2_body
    rw [cC_s SH2000' rfl, C.1.2.1]
    by_cases e : p < n
    · have kp := K p e
      rw [if_pos e] at cb ⊢
      rw [w32_n (x := (p : Int)) (by omega) (by omega), w32_n (x := (n : Int)) (by omega) (by omega), if_pos (by omega), cX_s SH2038 (by omega) (by omega) (by decide), rd_ge (by decide), T p e, w32_id (x := st (p : Int)) (by omega) (by omega)]
      by_cases z : st (p : Int) = -1
      · rw [if_pos z] at cb
        rw [if_pos z, if_pos z]
        obtain ⟨N, rfl⟩ : ∃ N' : Nat, N = N' + 1 := ⟨N - 1, by omega⟩
        unfold Md_goFirm_b26
        rw [cC_s SH2000' rfl, C.1.2.1, w32_n (x := (p : Int)) (by omega) (by omega), w32_n (x := (n : Int)) (by omega) (by omega), if_neg (by omega), bd_s, show (p : Int) + 1 = ((p + 1 : Nat) : Int) by omega]
        unfold Md_goFirm_b76
        have hFU : ∀ x : Nat, 10 < x → n < p + 1 + x := fun x hx => by omega
        exact gf76 n6 e (fun h' st' c' r' K' T' C' cb' => by
          rw [itr_s]
          show GFr n f i (Md_goFirm_body _ h' 2000 ((p + 1 : Nat) : Int)) h' st' _ c' r'
          unfold Md_goFirm_body Md_goFirm_b2
          exact ih (p + 1) N (by omega) (by omega) (by omega) h' st' c' r' FU (hFU FU (FU_gt (by decide))) K' T' C' cb') (n - (p + 1)) (p + 1) h st c r (by omega) (by omega) K z (fun k hk _ => T k hk) C cb FU (FU_gt (by omega))
      · rw [if_neg z] at cb
        rw [if_neg z, if_neg z, show (p : Int) + 1 = ((p + 1 : Nat) : Int) by omega]
        exact ih (p + 1) N (by omega) (by omega) (by omega) h st c r M (by omega) (seK_n K z) T C cb
    · have e' : p = n := by omega
      subst e'
      rw [if_neg e] at cb ⊢
      rw [if_neg (Int.lt_irrefl _)]
      exact gf_leaf hi (seK_ok K) T C cb
end F
end PureGoFirm
