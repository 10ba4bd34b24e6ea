section PureRows
/-! ROWS made anew -/
def M72 (h : Hp) (n : Nat) (st : Int → Int) : Prop := ∀ k : Nat, k < n → h 72 (k : Int) = st (k : Int)
def Trw (a k : Int) : Prop := a = 71 ∨ a = 72 ∨ (a = 70 ∧ k = 2)
def RWr (n : Nat) (X : Option (Int × Hp)) (h : Hp) (st : Int → Int) (L : List (Int → Int)) (c : Nat) : Prop := ∃ h', X = some (0, h') ∧ On Trw h h' ∧ M72 h' n st ∧ h' 70 2 = ((c + L.length : Nat) : Int) ∧ (∀ j : Nat, j < c → h' 71 (j : Int) = h 71 (j : Int)) ∧ ∀ (j : Nat) (x : Int → Int), L[j]? = some x → h' 71 ((c + j : Nat) : Int) = rowN n x
section R
variable {n : Nat}
theorem c_rowOf72 {h : Hp} {st : Int → Int} (n6 : n ≤ 6) (T : M72 h n st) : Cc_rowOf h 72 (n : Int) = some (rowN n st, h) := by
  unfold Cc_rowOf Cc_rowOf_b4
  refine itr_run (fun p : Nat => (h, 72, (n : Int), rowN p st, (p : Int))) (n := n) ?_ ?_ (FU_gt (by omega))
  · intro p hp k
    show Cc_rowOf_b4_body k h 72 (n : Int) (rowN p st) (p : Int) = _
    unfold Cc_rowOf_b4_body
    rw [w32_n (x := (p : Int)) (by omega) (by omega), w32_n (x := (n : Int)) (by omega) (by omega), if_pos (by omega), at_eq SH72' (by decide) (by omega) (by omega) (by decide), cl_s, bd_s, T p hp]
    rfl
  · intro k
    show Cc_rowOf_b4_body k h 72 (n : Int) (rowN n st) (n : Int) = _
    unfold Cc_rowOf_b4_body
    rw [if_neg (Int.lt_irrefl _)]
theorem rw_leaf {kf : Hp × Int × Int → Option (Int × Hp)} {h : Hp} {st : Int → Int} {c : Nat} (n6 : n ≤ 6) (T : M72 h n st) (h3 : h 70 3 = (n : Int)) (h2 : h 70 2 = (c : Int)) (cb : c + 1 ≤ 76) : RWr n (Rw_seatFrom_b14 kf h 70) h st [st] c := by
  have e : Rw_seatFrom_b14 kf h 70 = some (0, up (up h 71 (c : Int) (rowN n st)) 70 2 ((c : Int) + 1)) := by
    unfold Rw_seatFrom_b14 Rw_add
    rw [cC_s SH70' rfl, cC_s SH70' rfl, h2, w32_n (x := (c : Int)) (by omega) (by omega), if_pos (by omega), h3, c_rowOf72 n6 T, cl_s, put_eq SH71' (by decide) (by omega) (by omega) (by decide), cl_s, up_ne (by decide), h2, pu_s, cl_s]
  refine ⟨_, e, (On.up (Or.inl rfl)).tr (On.up (Or.inr (Or.inr ⟨rfl, rfl⟩))), fun k hk => by rw [up_ne (by decide), up_ne (by decide)]; exact T k hk, by rw [up_at]; rfl, fun j hj => by rw [up_ne (by decide), up_off (by omega)], fun j x hj => ?_⟩
  cases j with
  | zero =>
    have ex : st = x := Option.some.inj hj
    rw [up_ne (by decide), Nat.add_zero, up_at, ex]
  | succ j =>
    have e2 : ([st] : List (Int → Int))[j + 1]? = none := rfl
    rw [e2] at hj
    cases hj
/-- one list behind another -/
theorem RWr_app {X : Option (Int × Hp)} {h1 : Hp} {st : Int → Int} {L1 L2 : List (Int → Int)} {c : Nat} {h0 : Hp} (F0 : On Trw h0 h1) (x2 : h1 70 2 = ((c + L1.length : Nat) : Int)) (x3 : ∀ j : Nat, j < c → h1 71 (j : Int) = h0 71 (j : Int)) (x4 : ∀ (j : Nat) (x : Int → Int), L1[j]? = some x → h1 71 ((c + j : Nat) : Int) = rowN n x) (q : RWr n X h1 st L2 (c + L1.length)) : RWr n X h0 st (L1 ++ L2) c := by
  obtain ⟨h', e, F, T, y2, y3, y4⟩ := q
  refine ⟨h', e, F0.tr F, T, by rw [y2, List.length_append]; omega, fun j hj => by rw [y3 j (by omega), x3 j hj], fun j x hj => ?_⟩
  by_cases z : j < L1.length
  · rw [List.getElem?_append_left z] at hj
    rw [y3 (c + j) (by omega)]
    exact x4 j x hj
  · rw [List.getElem?_append_right (by omega)] at hj
    have t := y4 (j - L1.length) x hj
    rw [show c + L1.length + (j - L1.length) = c + j by omega] at t
    exact t
theorem rw43 {kf : Hp × Int × Int → Option (Int × Hp)} {p : Nat} {rec : (Int → Int) → List (Int → Int)} (n6 : n ≤ 6) (hp : p < n) (G : ∀ (h : Hp) (st : Int → Int) (c : Nat), seK n (p + 1) st → M72 h n st → h 70 3 = (n : Int) → h 70 2 = (c : Int) → c + (rec st).length ≤ 76 → RWr n (kf (h, 70, ((p + 1 : Nat) : Int))) h st (rec st) c) : ∀ (d q : Nat) (h : Hp) (st : Int → Int) (c : Nat), p < q → q + d = n → seK n p st → st (p : Int) = -1 → (∀ k : Nat, k < n → k ≠ p → h 72 (k : Int) = st (k : Int)) → h 70 3 = (n : Int) → h 70 2 = (c : Int) → c + (seF.seG n rec p d q st ++ rec (ud st (p : Int) 9)).length ≤ 76 → ∀ M, d < M → RWr n (itr (fun k s => Rw_seatFrom_b43_body kf k s.1 s.2.1 s.2.2.1 s.2.2.2) M (h, 70, (p : Int), (q : Int))) h st (seF.seG n rec p d q st ++ rec (ud st (p : Int) 9)) c := by
  have ep : (p : Int) + 1 = ((p + 1 : Nat) : Int) := by omega
  intro d
  induction d with
  | zero =>
    intro q h st c pq qd K sp T h3 h2 cb M hM
    obtain ⟨M, rfl⟩ : ∃ M' : Nat, M = M' + 1 := ⟨M - 1, by omega⟩
    have eq' : q = n := by omega
    subst eq'
    have eL : seF.seG q rec p 0 q st ++ rec (ud st (p : Int) 9) = rec (ud st (p : Int) 9) := rfl
    rw [eL] at cb ⊢
    have F1 : On Trw h (up h 72 (p : Int) 9) := On.up (Or.inr (Or.inl rfl))
    obtain ⟨h4, e4, F4, T4, y2, y3, y4⟩ := G (up h 72 (p : Int) 9) (ud st (p : Int) 9) c (seK_9 K) (fun k hk => by
      by_cases e : k = p
      · subst e; rw [up_at, ud_at]
      · rw [up_off (by omega), ud_ne (by omega)]; exact T k hk e) (by rw [up_ne (by decide)]; exact h3) (by rw [up_ne (by decide)]; exact h2) cb
    refine ⟨up h4 72 (p : Int) (-1), ?_, (F1.tr F4).tr (On.up (Or.inr (Or.inl rfl))), fun k hk => ?_, by rw [up_ne (by decide)]; exact y2, fun j hj => by rw [up_ne (by decide), y3 j hj, up_ne (by decide)], fun j x hj => by rw [up_ne (by decide)]; exact y4 j x hj⟩
    · rw [itr_s]
      show Rw_seatFrom_b43_body kf _ h 70 (p : Int) (q : Int) = _
      unfold Rw_seatFrom_b43_body
      rw [cC_s SH70' rfl, h3, if_neg (Int.lt_irrefl _), put_eq SH72' (by decide) (by omega) (by omega) (by decide), cl_s, ep, e4, cl_s, put_eq SH72' (by decide) (by omega) (by omega) (by decide), cl_s]
    · by_cases e : k = p
      · subst e; rw [up_at, sp]
      · rw [up_off (by omega), T4 k hk, ud_ne (by omega)]
  | succ d ih =>
    intro q h st c pq qd K sp T h3 h2 cb M hM
    obtain ⟨M, rfl⟩ : ∃ M' : Nat, M = M' + 1 := ⟨M - 1, by omega⟩
    have eq1 : (q : Int) + 1 = ((q + 1 : Nat) : Int) := by omega
    have tq : h 72 (q : Int) = st (q : Int) := T q (by omega) (by omega)
    have kq := K q (by omega)
    rw [seG_s, List.append_assoc] at cb ⊢
    rw [itr_s]
    show RWr n (Rw_seatFrom_b43_body kf _ h 70 (p : Int) (q : Int)) h st _ c
    unfold Rw_seatFrom_b43_body
    rw [cC_s SH70' rfl, h3, w32_n (x := (q : Int)) (by omega) (by omega), w32_n (x := (n : Int)) (by omega) (by omega), if_pos (show (q : Int) < (n : Int) by omega), at_eq SH72' (by decide) (by omega) (by omega) (by decide), cl_s, tq, w32_id (x := st (q : Int)) (by omega) (by omega)]
    by_cases z : st (q : Int) = -1
    · rw [if_pos z] at cb
      rw [if_pos z, if_pos z, put_eq SH72' (by decide) (by omega) (by omega) (by decide), cl_s, put_eq SH72' (by decide) (by omega) (by omega) (by decide), cl_s, ep]
      have F1 : On Trw h (up (up h 72 (p : Int) (q : Int)) 72 (q : Int) (p : Int)) := (On.up (Or.inr (Or.inl rfl))).tr (On.up (Or.inr (Or.inl rfl)))
      have lA : (rec (prS st p q) ++ (seF.seG n rec p d (q + 1) st ++ rec (ud st (p : Int) 9))).length = (rec (prS st p q)).length + (seF.seG n rec p d (q + 1) st ++ rec (ud st (p : Int) 9)).length := List.length_append
      rw [lA] at cb
      obtain ⟨h4, e4, F4, T4, y2, y3, y4⟩ := G (up (up h 72 (p : Int) (q : Int)) 72 (q : Int) (p : Int)) (prS st p q) c (seK_p K pq (by omega)) (fun k hk => by
        unfold prS
        by_cases e : k = q
        · subst e; rw [up_at, ud_at]
        · rw [up_off (by omega), ud_ne (by omega)]
          by_cases e1 : k = p
          · subst e1; rw [up_at, ud_at]
          · rw [up_off (by omega), ud_ne (by omega)]; exact T k hk e1) (by rw [up_ne (by decide), up_ne (by decide)]; exact h3) (by rw [up_ne (by decide), up_ne (by decide)]; exact h2) (by omega)
      have F3 : On Trw h (up h4 72 (q : Int) (-1)) := (F1.tr F4).tr (On.up (Or.inr (Or.inl rfl)))
      rw [e4, cl_s, put_eq SH72' (by decide) (by omega) (by omega) (by decide), cl_s, eq1]
      exact RWr_app F3 (by rw [up_ne (by decide)]; exact y2) (fun j hj => by rw [up_ne (by decide), y3 j hj, up_ne (by decide), up_ne (by decide)]) (fun j x hj => by rw [up_ne (by decide)]; exact y4 j x hj) (ih (q + 1) (up h4 72 (q : Int) (-1)) st _ (by omega) (by omega) K sp (fun k hk kp => by
        by_cases e : k = q
        · subst e; rw [up_at, z]
        · rw [up_off (by omega), T4 k hk]
          unfold prS
          rw [ud_ne (by omega), ud_ne (by omega)]) (by rw [F3 70 3 (by unfold Trw; omega)]; exact h3) (by rw [up_ne (by decide)]; exact y2) (by omega) M (by omega))
    · rw [if_neg z, List.nil_append] at cb
      rw [if_neg z, if_neg z, List.nil_append, eq1]
      exact ih (q + 1) h st c (by omega) (by omega) K sp T h3 h2 cb M (by omega)
theorem rwF (n6 : n ≤ 6) : ∀ (d p N : Nat), p ≤ n → n ≤ p + d → n < p + N → ∀ (h : Hp) (st : Int → Int) (c : Nat), seK n p st → M72 h n st → h 70 3 = (n : Int) → h 70 2 = (c : Int) → c + (seF n d p st).length ≤ 76 → RWr n (itr (fun k s => Rw_seatFrom_body k s.1 s.2.1 s.2.2) N (h, 70, (p : Int))) h st (seF n d p st) c := by
  intro d
  induction d with
  | zero =>
    intro p N pn pd pN h st c K T h3 h2 cb
    have e : p = n := by omega
    subst e
    obtain ⟨N, rfl⟩ : ∃ N' : Nat, N = N' + 1 := ⟨N - 1, by omega⟩
    rw [itr_s]
    show RWr p (Rw_seatFrom_body _ h 70 (p : Int)) h st [st] c
    unfold Rw_seatFrom_body
    rw [cC_s SH70' rfl, h3, if_neg (Int.lt_irrefl _)]
    exact rw_leaf n6 T h3 h2 cb
  | succ d ih =>
    intro p N pn pd pN h st c K T h3 h2 cb
    obtain ⟨N, rfl⟩ : ∃ N' : Nat, N = N' + 1 := ⟨N - 1, by omega⟩
    have IH := fun (e : p < n) => ih (p + 1) N (by omega) (by omega) (by omega)
    rw [itr_s]
    show RWr n (Rw_seatFrom_body (itr (fun k s => Rw_seatFrom_body k s.1 s.2.1 s.2.2) N) h 70 (p : Int)) h st (seF n (d + 1) p st) c
    generalize itr (fun k s => Rw_seatFrom_body k s.1 s.2.1 s.2.2) N = kf at IH ⊢
    rw [seF_s] at cb ⊢
    unfold Rw_seatFrom_body
    rw [cC_s SH70' rfl, h3]
    by_cases e : p < n
    · have kp := K p e
      rw [if_pos e] at cb
      rw [if_pos e, w32_n (x := (p : Int)) (by omega) (by omega), w32_n (x := (n : Int)) (by omega) (by omega), if_pos (show (p : Int) < (n : Int) by omega), if_pos (show (p : Int) < 6 by omega), at_eq SH72' (by decide) (by omega) (by omega) (by decide), cl_s, T p e, w32_id (x := st (p : Int)) (by omega) (by omega), show (p : Int) + 1 = ((p + 1 : Nat) : Int) by omega]
      by_cases z : st (p : Int) = -1
      · rw [if_pos z] at cb
        rw [if_pos z, if_pos z, bd_s]
        unfold Rw_seatFrom_b43
        exact rw43 n6 e (fun h' st' c' K' T' h3' h2' cb' => IH e h' st' c' K' T' h3' h2' cb') (n - (p + 1)) (p + 1) h st c (by omega) (by omega) K z (fun k hk _ => T k hk) h3 h2 cb FU (FU_gt (by omega))
      · rw [if_neg z] at cb
        rw [if_neg z, if_neg z]
        obtain ⟨h4, e4, q⟩ := IH e h st c (seK_n K z) T h3 h2 cb
        rw [e4, cl_s]
        exact ⟨h4, rfl, q⟩
    · have e' : p = n := by omega
      subst e'
      rw [if_neg e] at cb ⊢
      rw [if_neg (Int.lt_irrefl _)]
      exact rw_leaf n6 T h3 h2 cb
theorem make_e {h : Hp} (n6 : n ≤ 6) : ∃ h', Rw_make h 70 (n : Int) = some (0, h') ∧ On (fun a k => a = 71 ∨ a = 72 ∨ (a = 70 ∧ (k = 2 ∨ k = 3))) h h' ∧ RwI h' n := by
  have Wp : wp (Rw_make h 70 (n : Int)) (fun r h' => r = 0 ∧ On (fun a k => a = 71 ∨ a = 72 ∨ (a = 70 ∧ (k = 2 ∨ k = 3))) h h' ∧ RwI h' n) := by
    unfold Rw_make
    rw [cC_s SH70' rfl, pu_s, pu_s]
    have F1 : On (fun a k => a = 71 ∨ a = 72 ∨ (a = 70 ∧ (k = 2 ∨ k = 3))) h (up (up h 70 2 0) 70 3 (n : Int)) := (On.up (Or.inr (Or.inr ⟨rfl, Or.inl rfl⟩))).tr (On.up (Or.inr (Or.inr ⟨rfl, Or.inr rfl⟩)))
    have x2 : up (up h 70 2 0) 70 3 (n : Int) 70 2 = 0 := by rw [up_off (by decide), up_at]
    have x3 : up (up h 70 2 0) 70 3 (n : Int) 70 3 = (n : Int) := up_at
    generalize up (up h 70 2 0) 70 3 (n : Int) = g at F1 x2 x3
    unfold Rw_make_b12
    refine itr_wp (fun j σ => ∃ h2 : Hp, σ = (h2, 70, (j : Int)) ∧ On (fun a _ => a = 72) g h2 ∧ ∀ k : Nat, k < j → h2 72 (k : Int) = -1) 6 ?_ ?_ (FU_gt (by decide)) ⟨g, rfl, On.rf, fun k hk => absurd hk (by omega)⟩
    · rintro j σ kk hj ⟨h2, rfl, F2, T2⟩ KK
      show wp (Rw_make_b12_body kk h2 70 (j : Int)) _
      unfold Rw_make_b12_body
      rw [w32_n (x := (j : Int)) (by omega) (by omega), if_pos (by omega), cC_s SH70' rfl, put_eq SH72' (by decide) (by omega) (by omega) (by decide), cl_s, show (j : Int) + 1 = ((j + 1 : Nat) : Int) by omega]
      refine KK _ ⟨_, rfl, F2.tr (On.up rfl), fun k hk => ?_⟩
      by_cases z : k = j
      · rw [z, up_at]
      · rw [up_off (by omega)]; exact T2 k (by omega)
    · rintro σ kk ⟨h2, rfl, F2, T2⟩
      show wp (Rw_make_b12_body kk h2 70 ((6 : Nat) : Int)) _
      have ln := seL_len n (by omega)
      obtain ⟨h4, e4, F4, T4, y2, y3, y4⟩ := rwF n6 7 0 12 (by omega) (by omega) (by omega) h2 (fun _ => -1) 0 (fun k hk => Or.inr ⟨rfl, by omega⟩) (fun k hk => T2 k (by omega)) (by rw [F2 70 3 (by omega)]; exact x3) (by rw [F2 70 2 (by omega)]; exact x2) (by
        show 0 + (seL n).length ≤ 76
        omega)
      unfold Rw_make_b12_body Rw_seatFrom Rw_seatFrom_f
      have e4' : itr (fun k s => Rw_seatFrom_body k s.1 s.2.1 s.2.2) RF (h2, 70, 0) = some (0, h4) := e4
      rw [if_neg (by decide), cC_s SH70' rfl, e4', cl_s]
      refine wp_i ⟨rfl, (F1.tr (F2.w (fun a k q => Or.inr (Or.inl q)))).tr (F4.w (fun a k q => ?_)), fun _ => ⟨?_, ?_, fun i st hi => ?_⟩⟩
      · rcases q with q | q | q
        · exact Or.inl q
        · exact Or.inr (Or.inl q)
        · exact Or.inr (Or.inr ⟨q.1, Or.inl q.2⟩)
      · rw [F4 70 3 (by unfold Trw; omega), F2 70 3 (by omega)]; exact x3
      · have e : (0 + (seF n 7 0 (fun _ => -1)).length : Nat) = (seL n).length := Nat.zero_add _
        rw [y2, e]
      · have t := y4 i st hi
        rw [Nat.zero_add] at t
        exact t
  obtain ⟨r, h', e, rfl, q⟩ := Wp
  exact ⟨h', e, q⟩
end R
end PureRows
