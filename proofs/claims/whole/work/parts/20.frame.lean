section PureF
/-! THE PURE PART: tools. A program text X ends with what Q says. -/
def wp (X : Option (Int × Hp)) (Q : Int → Hp → Prop) : Prop := ∃ (r : Int) (h' : Hp), X = some (r, h') ∧ Q r h'
theorem wp_i {r : Int} {h' : Hp} {Q : Int → Hp → Prop} (q : Q r h') : wp (some (r, h')) Q := ⟨r, h', rfl, q⟩
theorem wp_cl {X : Option (Int × Hp)} {K : Int → Hp → Option (Int × Hp)} {P Q : Int → Hp → Prop} (h : wp X P) (k : ∀ r h', P r h' → wp (K r h') Q) : wp (cl X K) Q := by
  obtain ⟨r, h', e, p⟩ := h
  rw [e]
  exact k r h' p
theorem wp_m {X : Option (Int × Hp)} {P Q : Int → Hp → Prop} (h : wp X P) (k : ∀ r h', P r h' → Q r h') : wp X Q := by
  obtain ⟨r, h', e, p⟩ := h
  exact ⟨r, h', e, k r h' p⟩
theorem wp_if {c : Prop} [Decidable c] {A B : Option (Int × Hp)} {Q : Int → Hp → Prop} (kA : c → wp A Q) (kB : ¬ c → wp B Q) : wp (if c then A else B) Q := by
  by_cases hc : c
  · rw [if_pos hc]; exact kA hc
  · rw [if_neg hc]; exact kB hc
section G
variable {α : Type}
theorem cl_s (r : Int) (h : Hp) (K : Int → Hp → Option α) : cl (some (r, h)) K = K r h := rfl
theorem pu_s (h : Hp) (K : Hp → Option α) : pu h K = K h := rfl
theorem bd_s (x : Int) (K : Int → Option α) : bd x K = K x := rfl
theorem cC_s {c : Nat} {a : Int} {A : Option α} {q : Nat × Nat} (hS : SH a = q) (hc : q.1 = c) : cC c a A = A := if_pos (by rw [hS]; exact hc)
theorem cX_s {kd n : Nat} {a i : Int} {A : Option α} (hS : SH a = (kd, n)) (h0 : 0 ≤ i) (h1 : i < (n : Int)) (hn : n ≤ 10000) : cX kd a i A = A := by
  have hw : w32 i = i := w32_id (by omega) (by omega)
  unfold cX
  rw [hw, hS]
  exact if_pos ⟨rfl, h0, h1⟩
theorem cY_s {kd n : Nat} {a i : Int} {A : Option α} (hS : SH a = (kd, n)) (ha : 20 ≤ a) (h0 : 0 ≤ i) (h1 : i < (n : Int)) (hn : n ≤ 10000) : cY kd a i A = A := by
  have hw : w32 i = i := w32_id (by omega) (by omega)
  unfold cY
  rw [hw, hS]
  exact if_pos ⟨rfl, ha, h0, h1⟩
theorem cN_s {kd n : Nat} {a : Int} {A : Option α} (hS : SH a = (kd, n)) (h0 : 100 ≤ kd) (h1 : kd < 500) : cN a A = A := by
  unfold cN
  rw [hS]
  exact if_pos ⟨h0, h1⟩
theorem itr_s {σ : Type} (B : (σ → Option α) → σ → Option α) (n : Nat) (s : σ) : itr B (n + 1) s = B (itr B n) s := rfl
/-- a loop whose states are told one by one -/
theorem itr_run {σ : Type} {B : (σ → Option α) → σ → Option α} (S : Nat → σ) {E : Option α} {n N : Nat} (hs : ∀ i, i < n → ∀ k, B k (S i) = k (S (i + 1))) (he : ∀ k, B k (S n) = E) (hN : n < N) : itr B N (S 0) = E := by
  have key : ∀ (d i M : Nat), i + d = n → d < M → itr B M (S i) = E := by
    intro d
    induction d with
    | zero =>
      intro i M hi hM
      obtain ⟨M, rfl⟩ : ∃ M', M = M' + 1 := ⟨M - 1, by omega⟩
      obtain rfl : i = n := by omega
      exact he _
    | succ d ih =>
      intro i M hi hM
      obtain ⟨M, rfl⟩ : ∃ M', M = M' + 1 := ⟨M - 1, by omega⟩
      rw [itr_s, hs i (by omega)]
      exact ih (i + 1) M (by omega) (by omega)
  exact key n 0 N (by omega) hN
theorem FU_gt {n : Nat} (h : n < 100000) : n < FU := Nat.lt_of_lt_of_le h (Nat.le_of_ble_eq_true rfl)
end G
/-- a loop by an invariant that knows how far it is -/
theorem itr_wp {σ : Type} {B : (σ → Option (Int × Hp)) → σ → Option (Int × Hp)} {Q : Int → Hp → Prop} (I : Nat → σ → Prop) (n : Nat) {N : Nat} (hs : ∀ i s k, i < n → I i s → (∀ s', I (i + 1) s' → wp (k s') Q) → wp (B k s) Q) (he : ∀ s k, I n s → wp (B k s) Q) (hN : n < N) {s : σ} (h0 : I 0 s) : wp (itr B N s) Q := by
  have key : ∀ (d i M : Nat) (s : σ), i + d = n → d < M → I i s → wp (itr B M s) Q := by
    intro d
    induction d with
    | zero =>
      intro i M s hi hM hI
      obtain ⟨M, rfl⟩ : ∃ M', M = M' + 1 := ⟨M - 1, by omega⟩
      obtain rfl : i = n := by omega
      exact he _ _ hI
    | succ d ih =>
      intro i M s hi hM hI
      obtain ⟨M, rfl⟩ : ∃ M', M = M' + 1 := ⟨M - 1, by omega⟩
      rw [itr_s]
      exact hs i s _ (by omega) hI (fun s' h' => ih (i + 1) M s' (by omega) (by omega) h')
  exact key n 0 N s (by omega) hN h0
/-- a loop that may leave at any turn -/
theorem itr_wpx {σ : Type} {B : (σ → Option (Int × Hp)) → σ → Option (Int × Hp)} {Q : Int → Hp → Prop} (I : Nat → σ → Prop) (hs : ∀ i s k, I i s → (∀ j s', j < i → I j s' → wp (k s') Q) → wp (B k s) Q) {n N : Nat} (hN : n < N) {s : σ} (h0 : I n s) : wp (itr B N s) Q := by
  have key : ∀ (M i : Nat) (s : σ), i < M → I i s → wp (itr B M s) Q := by
    intro M
    induction M with
    | zero => intro i s h; omega
    | succ M ih =>
      intro i s hi hI
      rw [itr_s]
      exact hs i s _ hI (fun j s' hj h' => ih j s' (by omega) h')
  exact key N n s hN h0
/-! sums -/
def sm (f : Nat → Int) : Nat → Int
  | 0 => 0
  | n + 1 => sm f n + f n
theorem sm_c {f g : Nat → Int} : ∀ n, (∀ i, i < n → f i = g i) → sm f n = sm g n
  | 0, _ => rfl
  | n + 1, h => by
    show sm f n + f n = sm g n + g n
    rw [sm_c n (fun i hi => h i (by omega)), h n (by omega)]
theorem sm_b {f : Nat → Int} {m : Int} : ∀ n : Nat, (∀ i, i < n → 0 ≤ f i ∧ f i ≤ m) → 0 ≤ sm f n ∧ sm f n ≤ m * n
  | 0, _ => by simp [sm]
  | n + 1, h => by
    have h1 := sm_b n (fun i hi => h i (by omega))
    have h2 := h n (by omega)
    show 0 ≤ sm f n + f n ∧ sm f n + f n ≤ m * ((n + 1 : Nat) : Int)
    have e : m * ((n + 1 : Nat) : Int) = m * n + m := by rw [Int.natCast_succ, Int.mul_add, Int.mul_one]
    rw [e]
    omega
/-! words of numbers -/
theorem w32_n {x : Int} (h0 : 0 ≤ x) (h1 : x < 2147483648) : w32 x = x := w32_id (by omega) h1
theorem w32_m1 : w32 (-1) = -1 := by decide
theorem ri {x : Int} (h : ir x) : w32 x = x := w32_id h.1 h.2
/-! rows -/
def ud (f : Int → Int) (k v : Int) : Int → Int := fun j => if j = k then v else f j
theorem ud_at {f : Int → Int} {k v : Int} : ud f k v k = v := if_pos rfl
theorem ud_ne {f : Int → Int} {k v j : Int} (h : j ≠ k) : ud f k v j = f j := if_neg h
theorem up_row (h : Hp) (a i v : Int) : up h a i v a = ud (h a) i v := by
  funext j
  show (if a = a ∧ j = i then v else h a j) = if j = i then v else h a j
  by_cases e : j = i
  · rw [if_pos ⟨rfl, e⟩, if_pos e]
  · rw [if_neg (fun q => e q.2), if_neg e]
theorem up_off_row {h : Hp} {a i v b : Int} (hb : b ≠ a) : up h a i v b = h b := by
  funext j
  exact up_ne hb j
/-- only what S tells has changed -/
def Fr (S : Int → Prop) (h h' : Hp) : Prop := ∀ a : Int, ¬ S a → h' a = h a
theorem Fr.rf {S : Int → Prop} {h : Hp} : Fr S h h := fun _ _ => rfl
theorem Fr.tr {S : Int → Prop} {h h1 h2 : Hp} (a : Fr S h h1) (b : Fr S h1 h2) : Fr S h h2 := fun x hx => (b x hx).trans (a x hx)
theorem Fr.w {S T : Int → Prop} {h h1 : Hp} (a : Fr S h h1) (hst : ∀ x, S x → T x) : Fr T h h1 := fun x hx => a x (fun s => hx (hst x s))
theorem Fr.up {S : Int → Prop} {h : Hp} {a i v : Int} (ha : S a) : Fr S h (up h a i v) := fun x hx => up_off_row (fun e => hx (e ▸ ha))
/-! the class's two readers of rows -/
theorem at_eq {h : Hp} {a i : Int} {n : Nat} (hS : SH a = (100, n)) (ha : 20 ≤ a) (h0 : 0 ≤ i) (h1 : i < (n : Int)) (hn : n ≤ 10000) : Cc_at h a i = some (h a i, h) := by
  have hw : w32 i = i := w32_id (by omega) (by omega)
  have hw2 : w32 (n : Int) = n := w32_id (by omega) (by omega)
  unfold Cc_at
  rw [hw, if_neg (by omega), cN_s hS (by decide) (by decide), hS, hw2, if_pos h1, cX_s hS h0 h1 hn, rd_ge ha]
theorem at_lo {h : Hp} {a i : Int} (h0 : i < 0) (h1 : -2147483648 ≤ i) : Cc_at h a i = some (0, h) := by
  have hw : w32 i = i := w32_id (by omega) (by omega)
  unfold Cc_at
  rw [hw, if_pos h0]
theorem at_st {h : Hp} {a i : Int} {n : Nat} (hS : SH a = (100, n)) (ha : a < 20) (h0 : 0 ≤ i) (h1 : i < (n : Int)) (hn : n ≤ 10000) : Cc_at h a i = some ((stl a.toNat).getD i.toNat 0, h) := by
  have hw : w32 i = i := w32_id (by omega) (by omega)
  have hw2 : w32 (n : Int) = n := w32_id (by omega) (by omega)
  unfold Cc_at
  rw [hw, if_neg (by omega), cN_s hS (by decide) (by decide), hS, hw2, if_pos h1, cX_s hS h0 h1 hn]
  show some (rd h a i, h) = _
  unfold rd
  rw [if_pos ha]
theorem put_eq {h : Hp} {a i v : Int} {n : Nat} (hS : SH a = (100, n)) (ha : 20 ≤ a) (h0 : 0 ≤ i) (h1 : i < (n : Int)) (hn : n ≤ 10000) : Cc_put h a i v = some (0, up h a i v) := by
  have hw : w32 i = i := w32_id (by omega) (by omega)
  have hw2 : w32 (n : Int) = n := w32_id (by omega) (by omega)
  unfold Cc_put
  rw [hw, if_neg (by omega), cN_s hS (by decide) (by decide), hS, hw2, if_pos h1, cY_s hS ha h0 h1 hn]
  rfl
theorem put_lo {h : Hp} {a i v : Int} (h0 : i < 0) (h1 : -2147483648 ≤ i) : Cc_put h a i v = some (0, h) := by
  have hw : w32 i = i := w32_id (by omega) (by omega)
  unfold Cc_put
  rw [hw, if_pos h0]
end PureF
