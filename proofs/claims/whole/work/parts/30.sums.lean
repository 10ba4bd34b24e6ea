section PureL
/-! SUMS AND SETS: free, circles, parties -/
theorem ir_ior (a b : Int) : ir (ior a b) := ⟨Int32.le_toInt _, Int32.toInt_lt _⟩
theorem ior_0 {a : Int} (h : ir a) : ior a 0 = a := by
  unfold ior
  show (Int32.ofInt a ||| 0).toInt = a
  rw [Int32.or_zero, Int32.toInt_ofInt_of_le h.1 h.2]
theorem p2 : ∀ n : Nat, n < 7 → w32 (ishl 1 (n : Int)) = ((2 ^ n : Nat) : Int) ∧ ishl 1 (n : Int) = ((2 ^ n : Nat) : Int) := by decide +kernel
theorem hb_or : ∀ i : Nat, i < 6 → ∀ x : Nat, x < 2 ^ i → 0 ≤ ior (x : Int) (ishl 1 (i : Int)) ∧ ior (x : Int) (ishl 1 (i : Int)) < ((2 ^ (i + 1) : Nat) : Int) ∧ ∀ q : Nat, q < 6 → (w32 (iand (ishr (ior (x : Int) (ishl 1 (i : Int))) (q : Int)) 1) = 1 ↔ w32 (iand (ishr (x : Int) (q : Int)) 1) = 1 ∨ q = i) := by decide +kernel
theorem hb_cl : ∀ a : Nat, a < 6 → ∀ m : Nat, m < 64 → 0 ≤ iand (m : Int) (ixor (ishl 1 (a : Int)) (-1)) ∧ iand (m : Int) (ixor (ishl 1 (a : Int)) (-1)) < 64 ∧ ∀ q : Nat, q < 6 → (w32 (iand (ishr (iand (m : Int) (ixor (ishl 1 (a : Int)) (-1))) (q : Int)) 1) = 1 ↔ w32 (iand (ishr (m : Int) (q : Int)) 1) = 1 ∧ q ≠ a) := by decide +kernel
theorem hb_sub : ∀ c : Nat, c < 64 → ∀ o : Nat, o < 64 → (w32 (iand (c : Int) (o : Int)) = w32 (o : Int) ↔ ∀ q : Nat, q < 6 → w32 (iand (ishr (o : Int) (q : Int)) 1) = 1 → w32 (iand (ishr (c : Int) (q : Int)) 1) = 1) := by decide +kernel
theorem hb_hi : ∀ n : Nat, n < 7 → ∀ m : Nat, m < 2 ^ n → ∀ q : Nat, q < 6 → n ≤ q → ¬ (w32 (iand (ishr (m : Int) (q : Int)) 1) = 1) := by decide +kernel
theorem p2_le {n : Nat} (h : n ≤ 6) : 2 ^ n ≤ 64 := Nat.pow_le_pow_right (by decide) h
def pcv (x : Int) : Int := match Ji_bitCount (fun _ _ => 0) x with
  | some r => r.1
  | none => 0
theorem Ji_pc (h : Hp) (x : Int) : Ji_bitCount h x = some (pcv x, h) := rfl
theorem pcv_b : ∀ m : Nat, m < 64 → 0 ≤ pcv (m : Int) ∧ pcv (m : Int) ≤ 6 := by decide +kernel
variable {h : Hp} {n : Nat} {f : Int → Int}
def dbV (n : Nat) (f : Int → Int) (p : Int) : Int := sm (fun q => f (6 * p + (q : Int))) n
theorem db_b (g : Gd n f) {p : Int} (p0 : 0 ≤ p) (p1 : p < 6) : 0 ≤ dbV n f p ∧ dbV n f p ≤ 594 := by
  have n6 := g.1
  have := sm_b (f := fun q => f (6 * p + (q : Int))) (m := 99) n (fun q hq => Gd_d g p0 p1 (by omega) (by omega))
  unfold dbV
  omega
theorem Md_owesInAll_e (M : StM h 2032 n f) {p : Int} (p0 : 0 ≤ p) (p1 : p < 6) : Md_owesInAll h 2000 p = some (dbV n f p, h) := by
  have n6 := M.2.2.2.1
  unfold Md_owesInAll Md_owesInAll_b4 dbV
  refine itr_run (fun q : Nat => (h, 2000, p, sm (fun q => f (6 * p + (q : Int))) q, (q : Int))) (n := n) ?_ ?_ (FU_gt (by omega))
  · intro q hq k
    show Md_owesInAll_b4_body k h 2000 p (sm (fun q => f (6 * p + (q : Int))) q) (q : Int) = _
    unfold Md_owesInAll_b4_body
    rw [cC_s SH2000' rfl, M.2.1, w32_n (x := (q : Int)) (by omega) (by omega), w32_n (x := (n : Int)) (by omega) (by omega), if_pos (by omega), Md_owes_e M p0 p1 (by omega) (by omega), cl_s, bd_s]
    rfl
  · intro k
    show Md_owesInAll_b4_body k h 2000 p (sm (fun q => f (6 * p + (q : Int))) n) (n : Int) = _
    unfold Md_owesInAll_b4_body
    rw [cC_s SH2000' rfl, M.2.1, if_neg (Int.lt_irrefl _)]
/-- FREE -/
def frI (n : Nat) (f : Int → Int) (p : Nat) (b : Int) : Int := if dbV n f (p : Int) = 0 then ior b (ishl 1 (p : Int)) else b
def frV (n : Nat) (f : Int → Int) : Int := fo (frI n f) n 0
theorem c_free (A : StA h 110 n f) : Cc_freePeople h 20 = some (frV n f, h) := by
  have n6 := A.2.2.2.1
  have s0 := (IsS_sh A.1).1
  unfold Cc_freePeople Cc_freePeople_b4
  refine itr_run (fun p : Nat => (h, 20, fo (frI n f) p 0, (p : Int))) (n := n) ?_ ?_ (FU_gt (by omega))
  · intro p hp k
    show Cc_freePeople_b4_body k h 20 (fo (frI n f) p 0) (p : Int) = k (h, 20, frI n f p (fo (frI n f) p 0), (p : Int) + 1)
    generalize fo (frI n f) p 0 = b
    have D := db_b A.2.2.2 (p := (p : Int)) (by omega) (by omega)
    have e : St_debtOf h 110 (p : Int) = some (dbV n f (p : Int), h) := St_debtOf_e A (by omega) (by omega)
    unfold Cc_freePeople_b4_body frI
    rw [cC_s SH20' rfl, cC_s s0 rfl, A.2.1, w32_n (x := (p : Int)) (by omega) (by omega), w32_n (x := (n : Int)) (by omega) (by omega), if_pos (by omega), e, cl_s, w32_n D.1 (by omega)]
    by_cases c : dbV n f (p : Int) = 0
    · rw [if_pos c, if_pos c, bd_s]
    · rw [if_neg c, if_neg c]
  · intro k
    show Cc_freePeople_b4_body k h 20 (fo (frI n f) n 0) (n : Int) = _
    unfold Cc_freePeople_b4_body
    rw [cC_s SH20' rfl, cC_s s0 rfl, A.2.1, if_neg (Int.lt_irrefl _)]
    rfl
theorem frI_ir (m : Nat) : ir (fo (frI n f) m 0) := by
  refine fo_inv ir (fun i x _ q => ?_) ⟨by decide, by decide⟩
  unfold frI
  by_cases c : dbV n f (i : Int) = 0
  · rw [if_pos c]; exact ir_ior _ _
  · rw [if_neg c]; exact q
theorem m_free (M : StM h 2032 n f) : Md_free h 2000 = some (frV n f, h) := by
  have n6 := M.2.2.2.1
  unfold Md_free Md_free_b4
  refine itr_run (fun p : Nat => (h, 2000, fo (frI n f) p 0, (p : Int))) (n := n) ?_ ?_ (FU_gt (by omega))
  · intro p hp k
    show Md_free_b4_body k h 2000 (fo (frI n f) p 0) (p : Int) = k (h, 2000, frI n f p (fo (frI n f) p 0), (p : Int) + 1)
    have B : ir (fo (frI n f) p 0) := frI_ir p
    generalize fo (frI n f) p 0 = b at B
    have D := db_b M.2.2.2 (p := (p : Int)) (by omega) (by omega)
    unfold Md_free_b4_body frI
    rw [cC_s SH2000' rfl, M.2.1, w32_n (x := (p : Int)) (by omega) (by omega), w32_n (x := (n : Int)) (by omega) (by omega), if_pos (by omega), Md_owesInAll_e M (by omega) (by omega), cl_s, w32_n D.1 (by omega)]
    by_cases c : dbV n f (p : Int) = 0
    · rw [if_pos c, if_pos c, bd_s]
    · rw [if_neg c, if_neg c, bd_s, ior_0 B]
  · intro k
    show Md_free_b4_body k h 2000 (fo (frI n f) n 0) (n : Int) = _
    unfold Md_free_b4_body
    rw [cC_s SH2000' rfl, M.2.1, if_neg (Int.lt_irrefl _)]
    rfl
/-- CIRCLE: whom one owes, or who owes one -/
def ciI (f : Int → Int) (a : Int) (q : Nat) (b : Int) : Int := if 0 < f (6 * a + (q : Int)) then ior b (ishl 1 (q : Int)) else b
def ciV (n : Nat) (f : Int → Int) (a : Int) : Int := fo (ciI f a) n 0
theorem c_circ (A : StA h 110 n f) {a : Int} (a0 : 0 ≤ a) (a1 : a < 6) : Cc_circleOf h 20 a = some (ciV n f a, h) := by
  have n6 := A.2.2.2.1
  have s0 := (IsS_sh A.1).1
  unfold Cc_circleOf Cc_circleOf_b4
  refine itr_run (fun p : Nat => (h, 20, a, fo (ciI f a) p 0, (p : Int))) (n := n) ?_ ?_ (FU_gt (by omega))
  · intro p hp k
    show Cc_circleOf_b4_body k h 20 a (fo (ciI f a) p 0) (p : Int) = k (h, 20, a, ciI f a p (fo (ciI f a) p 0), (p : Int) + 1)
    generalize fo (ciI f a) p 0 = b
    have D := Gd_d A.2.2.2 a0 a1 (b := (p : Int)) (by omega) (by omega)
    unfold Cc_circleOf_b4_body ciI
    rw [cC_s SH20' rfl, cC_s s0 rfl, A.2.1, w32_n (x := (p : Int)) (by omega) (by omega), w32_n (x := (n : Int)) (by omega) (by omega), if_pos (by omega), St_owes_e A a0 a1 (by omega) (by omega), cl_s, w32_n D.1 (by omega)]
    by_cases c : 0 < f (6 * a + (p : Int))
    · rw [if_pos c, if_pos c, bd_s]
    · rw [if_neg c, if_neg c]
  · intro k
    show Cc_circleOf_b4_body k h 20 a (fo (ciI f a) n 0) (n : Int) = _
    unfold Cc_circleOf_b4_body
    rw [cC_s SH20' rfl, cC_s s0 rfl, A.2.1, if_neg (Int.lt_irrefl _)]
    rfl
theorem ciI_ir {a : Int} (m : Nat) : ir (fo (ciI f a) m 0) := by
  refine fo_inv ir (fun i x _ q => ?_) ⟨by decide, by decide⟩
  unfold ciI
  by_cases c : 0 < f (6 * a + (i : Int))
  · rw [if_pos c]; exact ir_ior _ _
  · rw [if_neg c]; exact q
theorem hb_0 : ∀ q : Nat, q < 6 → ¬ (w32 (iand (ishr 0 (q : Int)) 1) = 1) := by decide +kernel
theorem ciV_hb {a : Int} : ∀ m : Nat, m ≤ 6 → ∃ c : Nat, c < 2 ^ m ∧ fo (ciI f a) m 0 = (c : Int) ∧ ∀ q : Nat, q < 6 → (w32 (iand (ishr (c : Int) (q : Int)) 1) = 1 ↔ q < m ∧ 0 < f (6 * a + (q : Int)))
  | 0, _ => ⟨0, by decide, rfl, fun q hq => ⟨fun e => absurd e (hb_0 q hq), fun e => absurd e.1 (by omega)⟩⟩
  | m + 1, hm => by
    obtain ⟨c, c1, e, k⟩ := ciV_hb m (by omega)
    show ∃ c : Nat, c < 2 ^ (m + 1) ∧ ciI f a m (fo (ciI f a) m 0) = (c : Int) ∧ _
    rw [e]
    unfold ciI
    by_cases cc : 0 < f (6 * a + (m : Int))
    · rw [if_pos cc]
      obtain ⟨b0, b1, b2⟩ := hb_or m (by omega) c c1
      generalize ior (c : Int) (ishl 1 (m : Int)) = z at b0 b1 b2
      obtain ⟨z, rfl⟩ : ∃ z' : Nat, z = (z' : Int) := ⟨z.toNat, by omega⟩
      refine ⟨z, by omega, rfl, fun q hq => ?_⟩
      rw [b2 q hq, k q hq]
      constructor
      · rintro (x | rfl)
        · exact ⟨by omega, x.2⟩
        · exact ⟨by omega, cc⟩
      · rintro ⟨x, y⟩
        by_cases e : q = m
        · exact Or.inr e
        · exact Or.inl ⟨by omega, y⟩
    · rw [if_neg cc]
      refine ⟨c, by rw [Nat.pow_succ]; omega, rfl, fun q hq => ?_⟩
      rw [k q hq]
      constructor
      · rintro ⟨x, y⟩
        exact ⟨by omega, y⟩
      · rintro ⟨x, y⟩
        refine ⟨?_, y⟩
        by_cases e : q = m
        · exact absurd (e ▸ y) cc
        · omega
/-- PARTY: any two of the group owe each other -/
def pyB (n : Nat) (f : Int → Int) (g : Int) : Prop := ∀ a, a < n → ∀ b, b < n → ¬ (a < b ∧ w32 (iand (ishr g ((a : Nat) : Int)) 1) = 1 ∧ w32 (iand (ishr g ((b : Nat) : Int)) 1) = 1 ∧ f (6 * (a : Int) + (b : Int)) = 0)
def pyD (n : Nat) (f : Int → Int) (g : Int) : Decidable (pyB n f g) := by
  unfold pyB
  infer_instance
def pyV (n : Nat) (f : Int → Int) (g : Int) : Int := @ite Int (pyB n f g) (pyD n f g) 1 0
theorem pyV_1 {g : Int} (q : pyB n f g) : pyV n f g = 1 := @if_pos _ (pyD n f g) q Int 1 0
theorem pyV_0 {g : Int} (q : ¬ pyB n f g) : pyV n f g = 0 := @if_neg _ (pyD n f g) q Int 1 0
theorem pyV_c (g : Int) : pyV n f g = 1 ∨ pyV n f g = 0 := by
  by_cases q : pyB n f g
  · exact Or.inl (pyV_1 q)
  · exact Or.inr (pyV_0 q)
theorem c_isParty (A : StA h 110 n f) {m : Nat} (hm : m < 2 ^ n) : Cc_isParty h 20 (m : Int) = some (pyV n f (m : Int), h) := by
  have G := A.2.2.2
  have n6 := G.1
  have s0 := (IsS_sh A.1).1
  have m64 : m < 64 := Nat.lt_of_lt_of_le hm (p2_le n6)
  have W : wp (Cc_isParty h 20 (m : Int)) (fun r h' => r = pyV n f (m : Int) ∧ h' = h) := by
    unfold Cc_isParty Cc_isParty_b2
    refine itr_wpx (fun d σ => ∃ i : Nat, σ = (h, 20, (m : Int), (i : Int)) ∧ i + d = n ∧ ∀ a b : Nat, a < i → b < n → b ≠ a → w32 (iand (ishr (m : Int) (a : Int)) 1) = 1 → w32 (iand (ishr (m : Int) (b : Int)) 1) = 1 → 0 < f (6 * (a : Int) + (b : Int))) ?_ (n := n) (FU_gt (by omega)) ⟨0, rfl, by omega, fun a b q => absurd q (by omega)⟩
    rintro d σ k ⟨i, rfl, hd, V⟩ K
    show wp (Cc_isParty_b2_body k h 20 (m : Int) (i : Int)) _
    unfold Cc_isParty_b2_body
    rw [cC_s SH20' rfl, cC_s s0 rfl, A.2.1, w32_n (x := (i : Int)) (by omega) (by omega), w32_n (x := (n : Int)) (by omega) (by omega)]
    by_cases ci : i < n
    · rw [if_pos (by omega), bd_s, Cc_holds_e, cl_s]
      by_cases c1 : w32 (iand (ishr (m : Int) (i : Int)) 1) = 1
      · rw [if_pos c1, if_neg (by decide), c_circ A (by omega) (by omega), cl_s]
        obtain ⟨c, cb, ce, ck⟩ := ciV_hb (f := f) (a := (i : Int)) n n6
        obtain ⟨o0, o1, ok⟩ := hb_cl i (by omega) m m64
        unfold ciV
        rw [ce]
        generalize iand (m : Int) (ixor (ishl 1 (i : Int)) (-1)) = o at o0 o1 ok ⊢
        obtain ⟨o, rfl⟩ : ∃ o' : Nat, o = (o' : Int) := ⟨o.toNat, by omega⟩
        have S := hb_sub c (Nat.lt_of_lt_of_le cb (p2_le n6)) o (by omega)
        by_cases c2 : w32 (iand (c : Int) (o : Int)) = w32 (o : Int)
        · rw [if_pos c2]
          refine K (d - 1) _ (by omega) ⟨i + 1, rfl, by omega, fun a b ha hb1 hab pa pb => ?_⟩
          by_cases e : a = i
          · subst e
            exact ((ck b (by omega)).mp (S.mp c2 b (by omega) ((ok b (by omega)).mpr ⟨pb, hab⟩))).2
          · exact V a b (by omega) hb1 hab pa pb
        · rw [if_neg c2]
          refine wp_i ⟨(pyV_0 (fun q => c2 (S.mpr (fun b hb6 ho => ?_)))).symm, rfl⟩
          obtain ⟨pb, hab⟩ := (ok b hb6).mp ho
          have bn : b < n := Nat.lt_of_not_le (fun hle => hb_hi n (by omega) m hm b hb6 hle pb)
          refine (ck b hb6).mpr ⟨bn, ?_⟩
          have D := Gd_d G (a := (i : Int)) (b := (b : Int)) (by omega) (by omega) (by omega) (by omega)
          have hne : f (6 * (i : Int) + (b : Int)) ≠ 0 := by
            by_cases lt : i < b
            · exact fun e => q i ci b bn ⟨lt, c1, pb, e⟩
            · rw [G.2.2.1 (i : Int) (b : Int) (by omega) (by omega) (by omega) (by omega)]
              exact fun e => q b bn i ci ⟨by omega, pb, c1, e⟩
          omega
      · rw [if_neg c1, if_pos (by decide)]
        refine K (d - 1) _ (by omega) ⟨i + 1, rfl, by omega, fun a b ha hb1 hab pa pb => ?_⟩
        by_cases e : a = i
        · subst e
          exact absurd pa c1
        · exact V a b (by omega) hb1 hab pa pb
    · rw [if_neg (by omega)]
      refine wp_i ⟨(pyV_1 (fun a ha b hb1 ⟨hab, pa, pb, e⟩ => ?_)).symm, rfl⟩
      have := V a b (by omega) hb1 (by omega) pa pb
      omega
  obtain ⟨r, h', e, rfl, rfl⟩ := W
  exact e
end PureL
