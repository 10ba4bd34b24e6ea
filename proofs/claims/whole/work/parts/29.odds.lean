section PureK
/-! ODDS -/
def odW (rec : Int → (Int → Int) → Int) (n : Nat) (p part bed : Int) (f : Int → Int) : Int := if part ≤ 0 then 0 else if w32 (iand (ishr (psR n bed f).2 p) 1) = 1 then part else rec part (psR n bed f).1
def odR (n : Nat) (p ch : Int) : Nat → Int → (Int → Int) → Int
  | 0 => fun _ _ => 0
  | d + 1 => fun part f => odW (odR n p ch d) n p ((part * ch).tdiv 100) p f + odW (odR n p ch d) n p (part - (part * ch).tdiv 100) (-1) f
theorem od_ab {part ch : Int} (h0 : 0 ≤ part) (h1 : 0 ≤ ch) (h2 : ch ≤ 100) : 0 ≤ (part * ch).tdiv 100 ∧ (part * ch).tdiv 100 ≤ part ∧ 0 ≤ part * ch ∧ part * ch ≤ part * 100 := by
  have e1 : 0 ≤ part * ch := Int.mul_nonneg h0 h1
  have e2 : part * ch ≤ part * 100 := Int.mul_le_mul_of_nonneg_left h2 h0
  rw [Int.tdiv_eq_ediv_of_nonneg e1]
  generalize part * ch = z at *
  omega
theorem od_w64 {part ch : Int} (h0 : 0 ≤ part) (h3 : part ≤ 1000000000) (h1 : 0 ≤ ch) (h2 : ch ≤ 100) : (w64 (part * w32 ch)).tdiv (w64 100) = (part * ch).tdiv 100 := by
  obtain ⟨-, -, a, b⟩ := od_ab h0 h1 h2
  have e100 : w64 100 = 100 := by decide
  rw [w32_n h1 (by omega), w64_id (by omega) (by omega), e100]
theorem odR_0 (n : Nat) (p ch : Int) : ∀ (d : Nat) (f : Int → Int), odR n p ch d 0 f = 0
  | 0, _ => rfl
  | d + 1, f => by
    show odW _ n p ((0 * ch).tdiv 100) p f + odW _ n p (0 - (0 * ch).tdiv 100) (-1) f = 0
    have e : (0 * ch).tdiv 100 = 0 := by rw [Int.zero_mul]; rfl
    rw [e]
    rfl
theorem odR_b (n : Nat) (p ch : Int) (h1 : 0 ≤ ch) (h2 : ch ≤ 100) : ∀ (d : Nat) (part : Int) (f : Int → Int), 0 ≤ part → 0 ≤ odR n p ch d part f ∧ odR n p ch d part f ≤ part
  | 0, part, _, h0 => ⟨Int.le_refl _, h0⟩
  | d + 1, part, f, h0 => by
    have wb : ∀ (bed q : Int), 0 ≤ q → 0 ≤ odW (odR n p ch d) n p q bed f ∧ odW (odR n p ch d) n p q bed f ≤ q := by
      intro bed q q0
      unfold odW
      by_cases c : q ≤ 0
      · rw [if_pos c]; omega
      · rw [if_neg c]
        by_cases c2 : w32 (iand (ishr (psR n bed f).2 p) 1) = 1
        · rw [if_pos c2]; omega
        · rw [if_neg c2]; exact odR_b n p ch h1 h2 d q _ q0
    obtain ⟨a0, a1, -, -⟩ := od_ab h0 h1 h2
    have b1 := wb p _ a0
    have b2 := wb (-1) (part - (part * ch).tdiv 100) (by omega)
    show 0 ≤ odW _ n p _ p f + odW _ n p _ (-1) f ∧ odW _ n p _ p f + odW _ n p _ (-1) f ≤ part
    omega
theorem lcm_0 {x : Int} (h0 : 0 ≤ x) (h1 : x < 1000000000000) : 0 < w32 (lcm x 0) ↔ 0 < x := by
  unfold lcm
  have e0 : w64 0 = 0 := by decide
  rw [e0, w64_id (x := x) (by omega) (by omega)]
  by_cases c : 0 < x
  · rw [if_pos c]; exact ⟨fun _ => c, fun _ => by decide⟩
  · rw [if_neg c]
    obtain rfl : x = 0 := by omega
    rw [if_pos rfl]
    exact ⟨fun q => absurd q (by decide), fun q => absurd q (by decide)⟩
section M
variable {h : Hp} {n : Nat} {f : Int → Int}
def Sb (d : Nat) (x : Int) : Prop := 130 ≤ x ∧ x < 130 + 10 * (d : Int)
theorem c_bw {kf : Hp × Int × Int × Int × Int × Int → Option (Int × Hp)} {d : Nat} {p : Nat} {ch : Int} (hd : d < 6) (hp : p < n)
    (hkf : ∀ (h : Hp) (part : Int) (f : Int → Int), StA h (130 + 10 * (d : Int)) n f → 0 ≤ part → part ≤ 1000000000 → ∃ h', kf (h, 20, (d : Int), (p : Int), ch, part) = some (odR n (p : Int) ch d part f, h') ∧ Fr (Sb d) h h')
    (A : StA h (130 + 10 * ((d : Int) + 1)) n f) {part bed : Int} (p0 : 0 ≤ part) (p1 : part ≤ 1000000000) (hb : ir bed) : ∃ h', Cc_breakingWith kf h 20 ((d : Int) + 1) (p : Int) ch part bed = some (odW (odR n (p : Int) ch d) n (p : Int) part bed f, h') ∧ Fr (Sb (d + 1)) h h' := by
  have lc := lcm_0 p0 (by omega)
  unfold Cc_breakingWith odW
  by_cases c : 0 < part
  · rw [if_pos (lc.mpr c), if_neg (by omega), cC_s SH20' rfl]
    have e1 : (d : Int) + 1 - 1 = (d : Int) := by omega
    rw [e1, Cc_apartAt_e h (i := (d : Int)) (by omega) (by omega), cl_s, Cc_apartAt_e h (i := (d : Int) + 1) (by omega) (by omega), cl_s]
    obtain ⟨h1, e2, F1, A1⟩ := St_copy_e (s := 130 + 10 * (d : Int)) (IsS_apart (by omega) (by omega)) A (by omega)
    obtain ⟨h2, e3, F2, A2, T2, c2, b2⟩ := St_pass_e A1 hb
    rw [cC_s (IsS_sh A1.1).1 rfl, e2, cl_s, e3, cl_s, Cc_holds_e, cl_s, b2]
    have F12 : Fr (Sb (d + 1)) h h2 := (F1.w (fun x hx => by unfold Sb; omega)).tr (F2.w (fun x hx => by unfold InS at hx; unfold Sb; omega))
    by_cases c3 : w32 (iand (ishr (psR n bed f).2 (p : Int)) 1) = 1
    · rw [if_pos c3, if_neg (by decide), if_pos c3]
      exact ⟨h2, rfl, F12⟩
    · rw [if_neg c3, if_pos (by decide), if_neg c3]
      obtain ⟨h3, e4, F3⟩ := hkf h2 part _ A2 p0 p1
      rw [e4, cl_s]
      exact ⟨h3, rfl, F12.tr (F3.w (fun x hx => by unfold Sb at hx ⊢; omega))⟩
  · rw [if_neg (fun q => c (lc.mp q)), if_pos (by omega)]
    exact ⟨h, rfl, Fr.rf⟩
theorem c_br {p : Nat} {ch : Int} (hp : p < n) (hc0 : 0 ≤ ch) (hc1 : ch ≤ 100) : ∀ (d N : Nat), d < N → d ≤ 6 → ∀ (h : Hp) (part : Int) (f : Int → Int), StA h (130 + 10 * (d : Int)) n f → 0 ≤ part → part ≤ 1000000000 → ∃ h', itr (fun k s => Cc_breaking_body k s.1 s.2.1 s.2.2.1 s.2.2.2.1 s.2.2.2.2.1 s.2.2.2.2.2) N (h, 20, (d : Int), (p : Int), ch, part) = some (odR n (p : Int) ch d part f, h') ∧ Fr (Sb d) h h' := by
  intro d
  induction d with
  | zero =>
    intro N hN hd h part f A p0 p1
    obtain ⟨N, rfl⟩ : ∃ N', N = N' + 1 := ⟨N - 1, by omega⟩
    refine ⟨h, ?_, Fr.rf⟩
    rw [itr_s]
    show Cc_breaking_body _ h 20 ((0 : Nat) : Int) (p : Int) ch part = _
    unfold Cc_breaking_body
    rw [if_neg (by decide)]
    rfl
  | succ d ih =>
    intro N hN hd h part f A p0 p1
    obtain ⟨N, rfl⟩ : ∃ N', N = N' + 1 := ⟨N - 1, by omega⟩
    obtain ⟨a0, a1, -, -⟩ := od_ab p0 hc0 hc1
    have hkf := fun (h : Hp) (part : Int) (f : Int → Int) (A : StA h (130 + 10 * (d : Int)) n f) (q0 : 0 ≤ part) (q1 : part ≤ 1000000000) => ih N (by omega) (by omega) h part f A q0 q1
    rw [itr_s]
    show ∃ h', Cc_breaking_body _ h 20 ((d : Int) + 1) (p : Int) ch part = _ ∧ _
    generalize hK : itr (fun k s => Cc_breaking_body k s.1 s.2.1 s.2.2.1 s.2.2.2.1 s.2.2.2.2.1 s.2.2.2.2.2) N = kf at hkf ⊢
    obtain ⟨h1, e1, F1⟩ := c_bw (by omega) hp hkf A (part := (part * ch).tdiv 100) (bed := (p : Int)) a0 (by omega) ⟨by omega, by have := A.2.2.2.1; omega⟩
    have A1 : StA h1 (130 + 10 * ((d : Int) + 1)) n f := StA.fr (s := 130 + 10 * ((d : Int) + 1)) A F1 (by unfold Sb; omega) (by unfold Sb; omega) (by unfold Sb; omega) (by unfold Sb; omega)
    obtain ⟨h2, e2, F2⟩ := c_bw (by omega) hp hkf A1 (part := part - (part * ch).tdiv 100) (bed := -1) (by omega) (by omega) ir_m1
    refine ⟨h2, ?_, F1.tr F2⟩
    unfold Cc_breaking_body
    have c100 : cDl (α := Int × Hp) 100 = fun A => A := funext fun A => if_neg (by decide)
    rw [w32_n (x := (d : Int) + 1) (by omega) (by omega), if_pos (by omega), if_neg (by omega), c100, bd_s, od_w64 p0 p1 hc0 hc1, cC_s SH20' rfl, e1, cl_s, e2, cl_s]
    rfl
/-- the reference -/
def FrO (left : Nat) (h h' : Hp) : Prop := (∀ a : Int, a ≠ 2033 → a ≠ 2038 → a ≠ 2000 → a ≠ 2051 → h' a = h a) ∧ (∀ k : Int, k ≠ 39 → k ≠ 40 → h' 2000 k = h 2000 k) ∧ ∀ k : Int, 53 * ((left : Int) + 1) ≤ k → h' 2051 k = h 2051 k
theorem FrO.tr {l : Nat} {h1 h2 : Hp} (a : FrO l h h1) (b : FrO l h1 h2) : FrO l h h2 := ⟨fun x p q r s => (b.1 x p q r s).trans (a.1 x p q r s), fun k p q => (b.2.1 k p q).trans (a.2.1 k p q), fun k hk => (b.2.2 k hk).trans (a.2.2 k hk)⟩
theorem FrO.w {l m : Nat} {h1 : Hp} (a : FrO l h h1) (hlm : l ≤ m) : FrO m h h1 := ⟨a.1, a.2.1, fun k hk => a.2.2 k (by omega)⟩
theorem FrG.O {l : Nat} {h1 : Hp} (a : FrG 2033 h h1) : FrO l h h1 := ⟨fun x p q r _ => a.1 x p q r, a.2, fun k _ => by rw [a.1 2051 (by decide) (by decide) (by decide)]⟩
theorem FrO.rf {l : Nat} : FrO l h h := ⟨fun _ _ _ _ _ => rfl, fun _ _ _ => rfl, fun _ _ => rfl⟩
theorem SH2051 : SH 2051 = (100, 371) := by decide +kernel
theorem SH2033 : SH 2033 = (100, 233) := by decide +kernel
theorem odW_m {rec : Int → (Int → Int) → Int} {p part bed : Int} (r0 : ∀ f, rec 0 f = 0) (p0 : 0 ≤ part) : odW rec n p part bed f = if w32 (iand (ishr (psR n bed f).2 p) 1) = 1 then part else rec part (psR n bed f).1 := by
  unfold odW
  by_cases c : part ≤ 0
  · obtain rfl : part = 0 := by omega
    rw [if_pos c]
    by_cases c2 : w32 (iand (ishr (psR n bed f).2 p) 1) = 1
    · rw [if_pos c2]
    · rw [if_neg c2, r0]
  · rw [if_neg c]
theorem Md_has_p (h : Hp) (b p : Int) : Md_has h b p = some (if w32 (iand (ishr b p) 1) = 1 then 1 else 0, h) := by
  unfold Md_has
  by_cases c : w32 (iand (ishr b p) 1) = 1
  · rw [if_pos c, if_pos c]
  · rw [if_neg c, if_neg c]
theorem m_od {p : Nat} {ch : Int} (hp : p < n) (hc0 : 0 ≤ ch) (hc1 : ch ≤ 100) : ∀ (d N : Nat), d < N → d ≤ 6 → ∀ (h : Hp) (part : Int) (f : Int → Int), StM h 2033 n f → (0 ≤ h 2033 52 ∧ h 2033 52 ≤ 60) → 0 ≤ part → part ≤ 1000000000 → ∃ h', itr (fun k s => Md_oddsFrom_body k s.1 s.2.1 s.2.2.1 s.2.2.2.1 s.2.2.2.2.1 s.2.2.2.2.2) N (h, 2000, (p : Int), (d : Int), ch, part) = some (odR n (p : Int) ch d part f, h') ∧ FrO d h h' := by
  intro d
  induction d with
  | zero =>
    intro N hN hd h part f M L p0 p1
    obtain ⟨N, rfl⟩ : ∃ N', N = N' + 1 := ⟨N - 1, by omega⟩
    refine ⟨h, ?_, FrO.rf⟩
    rw [itr_s]
    show Md_oddsFrom_body _ h 2000 (p : Int) ((0 : Nat) : Int) ch part = _
    unfold Md_oddsFrom_body
    rw [if_pos (by decide)]
    rfl
  | succ d ih =>
    intro N hN hd h part f M L p0 p1
    have n6 := M.2.2.2.1
    obtain ⟨N, rfl⟩ : ∃ N', N = N' + 1 := ⟨N - 1, by omega⟩
    obtain ⟨a0, a1, -, -⟩ := od_ab p0 hc0 hc1
    rw [itr_s]
    show ∃ h', Md_oddsFrom_body _ h 2000 (p : Int) ((d : Int) + 1) ch part = _ ∧ _
    have hkf := ih N (by omega) (by omega)
    generalize hK : itr (fun k s => Md_oddsFrom_body k s.1 s.2.1 s.2.2.1 s.2.2.2.1 s.2.2.2.2.1 s.2.2.2.2.2) N = kf at hkf ⊢
    unfold Md_oddsFrom_body
    rw [w32_n (x := (d : Int) + 1) (by omega) (by omega), if_neg (by omega), w32_n p0 (by omega)]
    by_cases cp : part = 0
    · rw [if_pos cp, cp, odR_0]
      exact ⟨h, rfl, FrO.rf⟩
    rw [if_neg cp]
    have ev : odR n (p : Int) ch (d + 1) part f = (if w32 (iand (ishr (psR n (-1) f).2 (p : Int)) 1) = 1 then part - (part * ch).tdiv 100 else odR n (p : Int) ch d (part - (part * ch).tdiv 100) (psR n (-1) f).1) + (if w32 (iand (ishr (psR n (p : Int) f).2 (p : Int)) 1) = 1 then (part * ch).tdiv 100 else odR n (p : Int) ch d ((part * ch).tdiv 100) (psR n (p : Int) f).1) := by
      show odW _ n _ _ _ f + odW _ n _ _ _ f = _
      rw [odW_m (odR_0 n (p : Int) ch d) a0, odW_m (odR_0 n (p : Int) ch d) (by omega), Int.add_comm]
    generalize hab : (part * ch).tdiv 100 = ab at *
    -- the restoring loop and what follows
    have tail : ∀ (h1 : Hp) (x7 : Int), FrO (d + 1) h h1 → (∀ k : Int, 0 ≤ k → k ≤ 52 → h1 2051 (53 * ((d : Int) + 1) + k) = h 2033 k) → h1 2000 26 = (n : Int) → wp (Md_oddsFrom_b108 kf h1 2000 (p : Int) ((d : Int) + 1) ch ab x7 0) (fun r h' => r = x7 + (if w32 (iand (ishr (psR n (p : Int) f).2 (p : Int)) 1) = 1 then ab else odR n (p : Int) ch d ab (psR n (p : Int) f).1) ∧ FrO (d + 1) h h') := by
      intro h1 x7 F1 S1 h26
      unfold Md_oddsFrom_b108
      refine itr_wp (fun k σ => ∃ h2, σ = (h2, 2000, (p : Int), (d : Int) + 1, ch, ab, x7, (k : Int)) ∧ FrO (d + 1) h h2 ∧ h2 2000 = h1 2000 ∧ h2 2051 = h1 2051 ∧ ∀ j : Int, 0 ≤ j → j < k → h2 2033 j = h 2033 j) 53 ?_ ?_ (FU_gt (by decide)) ⟨h1, rfl, F1, rfl, rfl, fun j j0 j1 => absurd j1 (by omega)⟩
      · rintro k σ kk hk ⟨h2, rfl, F2, z2, s2, T2⟩ K
        show wp (Md_oddsFrom_b108_body kf kk h2 2000 (p : Int) ((d : Int) + 1) ch ab x7 (k : Int)) _
        unfold Md_oddsFrom_b108_body
        have rv : rd h2 2051 (w32 (53 * ((d : Int) + 1) + (k : Int))) = h 2033 (k : Int) := by rw [rd_ge (by decide), w32_n (by omega) (by omega), s2, S1 (k : Int) (by omega) (by omega)]
        rw [w32_n (x := (k : Int)) (by omega) (by omega), if_neg (by omega), cC_s SH2000' rfl, cX_s SH2051 (by omega) (by omega) (by decide), cY_s SH2033 (by decide) (by omega) (by omega) (by decide), pu_s, rv]
        refine K _ ⟨_, rfl, F2.tr ⟨fun a q _ _ _ => up_off_row q, fun j _ _ => up_ne (by decide) j, fun j _ => up_ne (by decide) j⟩, by rw [up_off_row (by decide)]; exact z2, by rw [up_off_row (by decide)]; exact s2, fun j j0 j1 => ?_⟩
        rw [up_row]
        by_cases e : j = (k : Int)
        · rw [e, ud_at]
        · rw [ud_ne e]; exact T2 j j0 (by omega)
      · rintro σ kk ⟨h2, rfl, F2, z2, s2, T2⟩
        show wp (Md_oddsFrom_b108_body kf kk h2 2000 (p : Int) ((d : Int) + 1) ch ab x7 ((53 : Nat) : Int)) _
        unfold Md_oddsFrom_b108_body
        have M2 : StM h2 2033 n f := ⟨Or.inr rfl, by rw [z2]; exact h26, by
          rw [← M.2.2.1]
          funext j
          unfold mR
          by_cases q : 0 ≤ j ∧ j < 52
          · rw [if_pos q, if_pos q, T2 j q.1 (by omega)]
          · rw [if_neg q, if_neg q], M.2.2.2⟩
        obtain ⟨h3, e3, G3, M3, T3, c3, b3, L3, -⟩ := Md_goEvening_e M2 (Abedp p (by omega)) (by rw [T2 52 (by decide) (by decide)]; exact L)
        rw [if_pos (by decide), cC_s SH2000' rfl, e3, cl_s, b3, Md_has_p, cl_s]
        by_cases c : w32 (iand (ishr (psR n (p : Int) f).2 (p : Int)) 1) = 1
        · rw [if_pos c, if_neg (by decide), if_pos c]
          exact wp_i ⟨rfl, F2.tr G3.O⟩
        · have e1 : (d : Int) + 1 - 1 = (d : Int) := by omega
          obtain ⟨h4, e4, F4⟩ := hkf h3 ab _ M3 (by rw [L3]; have := L.1; rw [T2 52 (by decide) (by decide)]; omega) a0 (by omega)
          rw [if_neg c, if_pos (by decide), if_neg c, e1, e4, cl_s]
          exact wp_i ⟨rfl, (F2.tr G3.O).tr (F4.w (by omega))⟩
    have W : wp (Md_oddsFrom_b14 kf h 2000 (p : Int) ((d : Int) + 1) ch part 0) (fun r h' => r = odR n (p : Int) ch (d + 1) part f ∧ FrO (d + 1) h h') := by
      unfold Md_oddsFrom_b14
      refine itr_wp (fun k σ => ∃ h2, σ = (h2, 2000, (p : Int), (d : Int) + 1, ch, part, (k : Int)) ∧ (∀ a : Int, a ≠ 2051 → h2 a = h a) ∧ (∀ j : Int, 53 * (((d + 1 : Nat) : Int) + 1) ≤ j → h2 2051 j = h 2051 j) ∧ ∀ j : Int, 0 ≤ j → j < k → h2 2051 (53 * ((d : Int) + 1) + j) = h 2033 j) 53 ?_ ?_ (FU_gt (by decide)) ⟨h, rfl, fun _ _ => rfl, fun _ _ => rfl, fun j j0 j1 => absurd j1 (by omega)⟩
      · rintro k σ kk hk ⟨h2, rfl, F2, z2, T2⟩ K
        show wp (Md_oddsFrom_b14_body kf kk h2 2000 (p : Int) ((d : Int) + 1) ch part (k : Int)) _
        unfold Md_oddsFrom_b14_body
        have rv : rd h2 2033 (w32 (k : Int)) = h 2033 (k : Int) := by rw [rd_ge (by decide), w32_n (by omega) (by omega), F2 2033 (by decide)]
        rw [rv, w32_n (x := (k : Int)) (by omega) (by omega), if_neg (by omega), cC_s SH2000' rfl, cX_s SH2033 (by omega) (by omega) (by decide), cY_s SH2051 (by decide) (by omega) (by omega) (by decide), pu_s, w32_n (x := 53 * ((d : Int) + 1) + (k : Int)) (by omega) (by omega)]
        refine K _ ⟨_, rfl, fun a q => by rw [up_off_row q, F2 a q], fun j hj => by rw [up_off (by omega), z2 j hj], fun j j0 j1 => ?_⟩
        rw [up_row]
        by_cases e : j = (k : Int)
        · rw [e, ud_at]
        · rw [ud_ne (by omega)]; exact T2 j j0 (by omega)
      · rintro σ kk ⟨h2, rfl, F2, z2, T2⟩
        show wp (Md_oddsFrom_b14_body kf kk h2 2000 (p : Int) ((d : Int) + 1) ch part ((53 : Nat) : Int)) _
        unfold Md_oddsFrom_b14_body
        have c100 : cDl (α := Int × Hp) 100 = fun A => A := funext fun A => if_neg (by decide)
        have M2 : StM h2 2033 n f := ⟨Or.inr rfl, by rw [F2 2000 (by decide)]; exact M.2.1, by rw [mR_c (F2 2033 (by decide))]; exact M.2.2.1, M.2.2.2⟩
        have O2 : FrO (d + 1) h h2 := ⟨fun a _ _ _ q => F2 a q, fun k _ _ => by rw [F2 2000 (by decide)], z2⟩
        obtain ⟨h3, e3, G3, M3, T3, c3, b3, L3, -⟩ := Md_goEvening_e M2 Abed0 (by rw [F2 2033 (by decide)]; exact L)
        have ew : (w64 (w32 part * w32 ch)).tdiv (w64 100) = ab := by rw [w32_n p0 (by omega), od_w64 p0 p1 hc0 hc1, hab]
        rw [if_pos (by decide), c100, bd_s, ew, cC_s SH2000' rfl, e3, cl_s, b3, Md_has_p, cl_s]
        have O3 : FrO (d + 1) h h3 := O2.tr G3.O
        have S3 : ∀ k : Int, 0 ≤ k → k ≤ 52 → h3 2051 (53 * ((d : Int) + 1) + k) = h 2033 k := fun k k0 k1 => by rw [G3.1 2051 (by decide) (by decide) (by decide)]; exact T2 k k0 (by omega)
        by_cases c : w32 (iand (ishr (psR n (-1) f).2 (p : Int)) 1) = 1
        · rw [if_pos c, if_neg (by decide), bd_s]
          refine wp_m (tail h3 (part - ab) O3 S3 (by rw [G3.2 26 (by decide) (by decide)]; exact M2.2.1)) (fun r h' q => ⟨?_, q.2⟩)
          rw [q.1, ev, if_pos c]
        · have e1 : (d : Int) + 1 - 1 = (d : Int) := by omega
          obtain ⟨h4, e4, F4⟩ := hkf h3 (part - ab) _ M3 (by rw [L3]; have := L.1; rw [F2 2033 (by decide)]; omega) (by omega) (by omega)
          rw [if_neg c, if_pos (by decide), e1, e4, cl_s]
          refine wp_m (tail h4 _ (O3.tr (F4.w (by omega))) (fun k k0 k1 => by rw [F4.2.2 _ (by omega)]; exact S3 k k0 k1) (by rw [F4.2.1 26 (by decide) (by decide), G3.2 26 (by decide) (by decide)]; exact M2.2.1)) (fun r h' q => ⟨?_, q.2⟩)
          rw [q.1, ev, if_neg c]
    obtain ⟨r, h', e, er, q⟩ := W
    refine ⟨h', ?_, q⟩
    rw [e, er]
end M
end PureK
