section PureLex
/-! READING: the tape as bytes, blanks passed over; the grammar of laws as one function of places (a place and nothing: a fault there; a place and something: read up to it) -/
abbrev Pl : Type := List Int × ((Int → Int) → Int)
abbrev Rs : Type := Nat × Option Pl
def BOK (B : Nat → Int) (L : Nat) : Prop := L ≤ 240 ∧ ∀ k : Nat, k < L → 1 ≤ B k ∧ B k ≤ 255
def skP (B : Nat → Int) (L : Nat) : Nat → Nat → Nat
  | 0, p => p
  | d + 1, p => if p < L ∧ B p = 32 then skP B L d (p + 1) else p
def nxP (B : Nat → Int) (L p : Nat) : Nat := skP B L (L - p) p
def chP (B : Nat → Int) (L p : Nat) : Int := if p < L then B p else 0
theorem nxP_b {B : Nat → Int} {L p : Nat} (h : p < L) (e : B p = 32) : nxP B L p = nxP B L (p + 1) := by
  unfold nxP
  have e1 : L - p = (L - (p + 1)) + 1 := by omega
  rw [e1]
  show (if p < L ∧ B p = 32 then _ else _) = _
  rw [if_pos ⟨h, e⟩]
theorem nxP_o {B : Nat → Int} {L p : Nat} (h : ¬ (p < L ∧ B p = 32)) : nxP B L p = p := by
  unfold nxP
  cases e : L - p with
  | zero => rfl
  | succ d =>
    show (if p < L ∧ B p = 32 then _ else _) = _
    rw [if_neg h]
theorem skP_r {B : Nat → Int} {L : Nat} : ∀ d p : Nat, p ≤ L → d = L - p → p ≤ skP B L d p ∧ skP B L d p ≤ L ∧ ¬ (skP B L d p < L ∧ B (skP B L d p) = 32)
  | 0, p, h, e => ⟨Nat.le_refl _, h, fun q => by have := q.1; show False; have z : skP B L 0 p = p := rfl; rw [z] at this; omega⟩
  | d + 1, p, h, e => by
    show p ≤ (if p < L ∧ B p = 32 then skP B L d (p + 1) else p) ∧ (if p < L ∧ B p = 32 then skP B L d (p + 1) else p) ≤ L ∧ ¬ ((if p < L ∧ B p = 32 then skP B L d (p + 1) else p) < L ∧ B (if p < L ∧ B p = 32 then skP B L d (p + 1) else p) = 32)
    by_cases c : p < L ∧ B p = 32
    · rw [if_pos c]
      obtain ⟨h1, h2, h3⟩ := skP_r (B := B) (L := L) d (p + 1) (by omega) (by omega)
      exact ⟨by omega, h2, h3⟩
    · rw [if_neg c]
      exact ⟨Nat.le_refl _, h, c⟩
theorem nxP_r {B : Nat → Int} {L p : Nat} (h : p ≤ L) : p ≤ nxP B L p ∧ nxP B L p ≤ L ∧ ¬ (nxP B L p < L ∧ B (nxP B L p) = 32) := skP_r (L - p) p h rfl
theorem nxP_nx {B : Nat → Int} {L p : Nat} (h : p ≤ L) : nxP B L (nxP B L p) = nxP B L p := nxP_o (nxP_r h).2.2
theorem chP_lt {B : Nat → Int} {L p : Nat} (h : ¬ chP B L p = 0) : p < L := by
  by_cases c : p < L
  · exact c
  · exact absurd (if_neg c) h
theorem chP_b {B : Nat → Int} {L p : Nat} (b : BOK B L) : 0 ≤ chP B L p ∧ chP B L p ≤ 255 := by
  unfold chP
  by_cases c : p < L
  · rw [if_pos c]; have := b.2 p c; omega
  · rw [if_neg c]; omega
theorem chP_0 {B : Nat → Int} {L p : Nat} (b : BOK B L) : chP B L p = 0 ↔ ¬ p < L := by
  unfold chP
  by_cases c : p < L
  · rw [if_pos c]; have := b.2 p c; exact ⟨fun q => by omega, fun q => absurd c q⟩
  · rw [if_neg c]; exact ⟨fun _ => c, fun _ => rfl⟩
def bnP {α β : Type} (r : Nat × Option α) (K : Nat → α → Nat × Option β) : Nat × Option β := match r.2 with
  | none => (r.1, none)
  | some x => K r.1 x
theorem bnP_n {α β : Type} {w : Nat} {K : Nat → α → Nat × Option β} : bnP (w, none) K = (w, none) := rfl
theorem bnP_s {α β : Type} {p : Nat} {x : α} {K : Nat → α → Nat × Option β} : bnP (p, some x) K = K p x := rfl
def clmp (x : Int) : Int := if (if x < 1000000 then x else 1000000) < (-1000000) then (-1000000) else (if x < 1000000 then x else 1000000)
def opV (s a b : Int) : Int := if s = 43 then clmp (a + b) else if s = 45 then clmp (a - b) else if s = 42 then clmp (a * b) else if s = 47 then (if b = 0 then clmp 0 else clmp (a.tdiv b)) else if s = 61 then (if a = b then 1 else 0) else if s = 60 then (if a < b then 1 else 0) else if s = 62 then (if b < a then 1 else 0) else if s = 38 then (if a = 0 then 0 else if b = 0 then 0 else 1) else (if a = 0 then (if b = 0 then 0 else 1) else 1)
def cbP (s : Int) (x y : Pl) : Pl := (x.1 ++ y.1 ++ [s], fun v => opV s (x.2 v) (y.2 v))
def isD (s : Int) : Prop := 48 ≤ s ∧ s ≤ 57
def isC (s : Int) : Prop := s = 61 ∨ s = 60 ∨ s = 62
def isDd (s : Int) : Decidable (isD s) := by unfold isD; infer_instance
def isCd (s : Int) : Decidable (isC s) := by unfold isC; infer_instance
def ifD {α : Type} (s : Int) (x y : α) : α := @ite α (isD s) (isDd s) x y
def ifC {α : Type} (s : Int) (x y : α) : α := @ite α (isC s) (isCd s) x y
theorem ifD_1 {α : Type} {s : Int} {x y : α} (h : isD s) : ifD s x y = x := @if_pos _ (isDd s) h α x y
theorem ifD_0 {α : Type} {s : Int} {x y : α} (h : ¬ isD s) : ifD s x y = y := @if_neg _ (isDd s) h α x y
theorem ifC_1 {α : Type} {s : Int} {x y : α} (h : isC s) : ifC s x y = x := @if_pos _ (isCd s) h α x y
theorem ifC_0 {α : Type} {s : Int} {x y : α} (h : ¬ isC s) : ifC s x y = y := @if_neg _ (isCd s) h α x y
def ltI (s : Int) : Int := if s = 103 then 0 else if s = 104 then 1 else if s = 108 then 2 else if s = 98 then 3 else if s = 110 then 4 else if s = 100 then 5 else -1
section G
variable (B : Nat → Int) (L : Nat)
def dgP : Nat → Nat → Int → Nat × Int
  | 0, p, v => (p, v)
  | k + 1, p, v => ifD (chP B L p) (dgP k (p + 1) (10 * v + chP B L p - 48)) (p, v)
def nuG (m : Nat) (lo hi : Int) (q : Nat) : Nat × Option Int := ifD (chP B L q) (ifD (chP B L (dgP B L m q 0).1) ((dgP B L m q 0).1, none) (if (dgP B L m q 0).2 < lo ∨ hi < (dgP B L m q 0).2 then ((dgP B L m q 0).1 - 1, none) else ((dgP B L m q 0).1, some (dgP B L m q 0).2))) (q, none)
def nuP (q : Nat) : Rs := bnP (nuG B L 4 0 9999 q) (fun p v => (p, some ([1000 + v], fun _ => v)))
def clsP (c : Int) (p : Nat) (x : Pl) : Rs := if chP B L (nxP B L p) = c then (nxP B L p + 1, some x) else (nxP B L p, none)
def atI (inn : Option (Nat → Rs)) (q : Nat) : Rs := match inn with
  | none => (q, none)
  | some X => bnP (X (q + 1)) (clsP B L 93)
def atP (inn : Option (Nat → Rs)) (p : Nat) : Rs := if chP B L (nxP B L p) = 91 then atI B L inn (nxP B L p) else ifD (chP B L (nxP B L p)) (nuP B L (nxP B L p)) (if ltI (chP B L (nxP B L p)) < 0 then (nxP B L p, none) else (nxP B L p + 1, some ([500 + ltI (chP B L (nxP B L p))], fun v => v (ltI (chP B L (nxP B L p))))))
/-- a row of things with signs between -/
def rwL (s1 s2 : Int) (X : Nat → Rs) : Nat → Nat → Pl → Rs
  | 0, p, _ => (p, none)
  | d + 1, p, x => if chP B L (nxP B L p) = s1 ∨ chP B L (nxP B L p) = s2 then bnP (X (nxP B L p + 1)) (fun p' y => rwL s1 s2 X d p' (cbP (chP B L (nxP B L p)) x y)) else (nxP B L p, some x)
def teP (inn : Option (Nat → Rs)) (p : Nat) : Rs := bnP (atP B L inn p) (rwL B L 42 47 (atP B L inn) (L + 1))
def suP (inn : Option (Nat → Rs)) (p : Nat) : Rs := bnP (teP B L inn p) (rwL B L 43 45 (teP B L inn) (L + 1))
def suA : Nat → Nat → Rs
  | 0 => suP B L none
  | e + 1 => suP B L (some (suA e))
def cmP (S : Nat → Rs) (p : Nat) (x : Pl) : Rs := ifC (chP B L (nxP B L p)) (bnP (S (nxP B L p + 1)) (fun p' y => (p', some (cbP (chP B L (nxP B L p)) x y)))) (nxP B L p, none)
def neU (nest : Option ((Nat → Rs) × (Nat → Rs))) (q : Nat) : Rs := match nest with
  | none => (q, none)
  | some X => bnP (X.2 (q + 1)) (fun p' x => (p', some (x.1 ++ [33], fun v => 1 - x.2 v)))
def neC (nest : Option ((Nat → Rs) × (Nat → Rs))) (q : Nat) : Rs := match nest with
  | none => (q, none)
  | some X => bnP (X.1 (q + 1)) (clsP B L 41)
def unP (S : Nat → Rs) (nest : Option ((Nat → Rs) × (Nat → Rs))) (p : Nat) : Rs := if chP B L (nxP B L p) = 33 then neU nest (nxP B L p) else if chP B L (nxP B L p) = 40 then neC B L nest (nxP B L p) else bnP (S (nxP B L p)) (cmP B L S)
/-- units with & between, then truths with | between, behind a first unit -/
def paP (U : Nat → Rs) (r : Rs) : Rs := bnP r (rwL B L 38 38 U (L + 1))
def coP (U : Nat → Rs) (r : Rs) : Rs := bnP (paP B L U r) (rwL B L 124 124 (fun p => paP B L U (U p)) (L + 1))
def unA : Nat → Nat → Rs
  | 0 => unP B L (suA B L 0) none
  | e + 1 => unP B L (suA B L (e + 1)) (some (fun p => coP B L (unA e) (unA e p), unA e))
abbrev Pw : Type := List Int × ((Int → Int) → Option Int)
def cl2 (r : Rs) : Nat × Option Pw := bnP r (fun p x => if chP B L (nxP B L p) = 63 then bnP (suA B L 6 (nxP B L p + 1)) (fun p' y => (p', some (x.1 ++ [63] ++ y.1 ++ [59], fun v => if x.2 v = 0 then none else some (y.2 v)))) else (nxP B L p, none))
def cl1 (q : Nat) : Nat × Option Pw := if chP B L q = 33 ∨ chP B L q = 40 then cl2 B L (coP B L (unA B L 6) (unA B L 6 q)) else bnP (suA B L 6 q) (fun p x => ifC (chP B L (nxP B L p)) (cl2 B L (coP B L (unA B L 6) (cmP B L (suA B L 6) p x))) (nxP B L p, some (x.1 ++ [59], fun v => some (x.2 v))))
def clP (p : Nat) : Nat × Option Pw := if chP B L (nxP B L p) = 121 then (if chP B L (nxP B L (nxP B L p + 1)) = 58 then cl1 B L (nxP B L (nxP B L (nxP B L p + 1) + 1)) else (nxP B L (nxP B L p + 1), none)) else (nxP B L p, none)
def orV (x y : Option Int) : Option Int := match x with
  | none => y
  | some z => some z
def laL : Nat → Nat → Nat × Option Pw
  | 0, p => (p, none)
  | d + 1, p => bnP (clP B L p) (fun p' x => if chP B L (nxP B L p') = 0 then (nxP B L p', some x) else if chP B L (nxP B L p') = 59 then bnP (laL d (nxP B L p' + 1)) (fun p2 y => (p2, some (x.1 ++ y.1, fun v => orV (x.2 v) (y.2 v)))) else (nxP B L p', none))
def laP : Nat × Option Pw := laL B L (L + 1) 0
end G
/-! the class's reader -/
theorem up_id {h : Hp} {a i v : Int} (e : h a i = v) : up h a i v = h := by
  funext b j
  unfold up
  by_cases c : b = a ∧ j = i
  · rw [if_pos c, c.1, c.2, e]
  · rw [if_neg c]
theorem up_up {h : Hp} {a i v w : Int} : up (up h a i v) a i w = up h a i w := by
  funext b j
  unfold up
  by_cases c : b = a ∧ j = i
  · rw [if_pos c, if_pos c]
  · rw [if_neg c, if_neg c, if_neg c]
theorem SH21 : SH 21 = (8, 0) := by decide +kernel
theorem SH22 : SH 22 = (100, 240) := by decide +kernel
def PTp (h : Hp) (B : Nat → Int) (L p : Nat) : Prop := h 21 1 = (L : Int) ∧ h 21 2 = (p : Int) ∧ p ≤ L ∧ ∀ k : Nat, k < L → h 22 (k : Int) = B k
section C
variable {B : Nat → Int} {L p : Nat} {h : Hp}
theorem PTp.mv (T : PTp h B L p) {q : Nat} (hq : q ≤ L) : PTp (up h 21 2 (q : Int)) B L q := ⟨by rw [up_off (by decide)]; exact T.1, up_at, hq, fun k hk => by rw [up_ne (by decide)]; exact T.2.2.2 k hk⟩
theorem next_it (b : BOK B L) : ∀ (d M p i : Nat) (h : Hp), L - p = d → d < M → i ≤ p → PTp h B L p → itr (fun k s => Tp_next_b2_body k s.1 s.2.1 s.2.2) M (h, 21, (i : Int)) = some (chP B L (nxP B L p), up h 21 2 ((nxP B L p : Nat) : Int)) := by
  have L240 := b.1
  intro d
  induction d with
  | zero =>
    intro M p i h hd hM hi T
    obtain ⟨t1, t2, t3, t4⟩ := id T
    obtain ⟨M, rfl⟩ : ∃ M', M = M' + 1 := ⟨M - 1, by omega⟩
    obtain rfl : p = L := by omega
    rw [itr_s]
    show Tp_next_b2_body _ h 21 (i : Int) = _
    have e1 : nxP B p p = p := nxP_o (by omega)
    have e2 : chP B p p = 0 := if_neg (by omega)
    unfold Tp_next_b2_body
    rw [e1, e2, up_id t2, t1, t2, w32_n (x := (p : Int)) (by omega) (by omega), w32_n (x := (i : Int)) (by omega) (by omega), cC_s SH21 rfl, if_neg (show ¬ (p : Int) < 0 by omega), if_neg (show ¬ (p : Int) < (p : Int) by omega)]
    by_cases c : (i : Int) < 240
    · rw [if_pos c]
    · rw [if_neg c]
  | succ d ih =>
    intro M p i h hd hM hi T
    obtain ⟨t1, t2, t3, t4⟩ := id T
    obtain ⟨M, rfl⟩ : ∃ M', M = M' + 1 := ⟨M - 1, by omega⟩
    rw [itr_s]
    have hb := b.2 p (by omega)
    show Tp_next_b2_body _ h 21 (i : Int) = _
    unfold Tp_next_b2_body
    rw [if_pos (by rw [w32_n (by omega) (by omega)]; omega), cC_s SH21 rfl, t1, t2, w32_n (x := (p : Int)) (by omega) (by omega), w32_n (x := (L : Int)) (by omega) (by omega), if_neg (by omega), if_pos (by omega), if_pos (by omega), cX_s SH22 (by omega) (by omega) (by omega), rd_ge (by decide), t4 p (by omega), w32_n (x := B p) (by omega) (by omega)]
    by_cases c : B p = 32
    · rw [if_pos c, pu_s, nxP_b (by omega) c]
      have T2 : PTp (up h 21 2 ((p : Int) + 1)) B L (p + 1) := T.mv (q := p + 1) (by omega)
      have key := ih M (p + 1) (i + 1) _ (by omega) (by omega) (by omega) T2
      rw [up_up] at key
      exact key
    · have e1 : nxP B L p = p := nxP_o (fun q => c q.2)
      have e2 : chP B L p = B p := if_pos (by omega)
      rw [if_neg c, cX_s SH22 (by omega) (by omega) (by omega), e1, e2, up_id t2]
theorem Tp_next_e (b : BOK B L) (T : PTp h B L p) : Tp_next h 21 = some (chP B L (nxP B L p), up h 21 2 ((nxP B L p : Nat) : Int)) := next_it b (L - p) FU p 0 h rfl (FU_gt (by have := b.1; omega)) (by omega) T
theorem Tp_here_e (b : BOK B L) (T : PTp h B L p) : Tp_here h 21 = some (chP B L p, h) := by
  obtain ⟨t1, t2, t3, t4⟩ := id T
  have L240 := b.1
  unfold Tp_here
  rw [cC_s SH21 rfl, t1, t2, w32_n (x := (p : Int)) (by omega) (by omega), w32_n (x := (L : Int)) (by omega) (by omega), if_neg (by omega)]
  unfold chP
  by_cases c : p < L
  · rw [if_pos (by omega), if_pos (by omega), cX_s SH22 (by omega) (by omega) (by omega), rd_ge (by decide), t4 p c, if_pos c]
  · rw [if_neg (by omega), if_neg c]
theorem Tp_fail_e (h : Hp) : Tp_fail h 21 = some (0, up h 21 3 (h 21 2)) := by
  unfold Tp_fail
  rw [cC_s SH21 rfl, pu_s]
theorem Tp_isD1 {s : Int} (b : 0 ≤ s ∧ s ≤ 255) (q : isD s) : Tp_isDigit h s = some (1, h) := by
  obtain ⟨q1, q2⟩ := q
  unfold Tp_isDigit
  rw [w32_n b.1 (by omega), if_neg (by omega), if_neg (by omega)]
theorem Tp_isD0 {s : Int} (b : 0 ≤ s ∧ s ≤ 255) (q : ¬ isD s) : Tp_isDigit h s = some (0, h) := by
  unfold Tp_isDigit
  rw [w32_n b.1 (by omega)]
  by_cases c : s < 48
  · rw [if_pos c]
  · rw [if_neg c, if_pos (Int.not_le.mp (fun z => q ⟨by omega, z⟩))]
theorem dgP_r (b : BOK B L) : ∀ (d q : Nat) (v : Int), q ≤ L → q ≤ (dgP B L d q v).1 ∧ (dgP B L d q v).1 ≤ L ∧ (dgP B L d q v).1 ≤ q + d
  | 0, q, v, hq => ⟨Nat.le_refl _, hq, Nat.le_refl _⟩
  | d + 1, q, v, hq => by
    show q ≤ (ifD (chP B L q) (dgP B L d (q + 1) (10 * v + chP B L q - 48)) (q, v)).1 ∧ (ifD (chP B L q) (dgP B L d (q + 1) (10 * v + chP B L q - 48)) (q, v)).1 ≤ L ∧ (ifD (chP B L q) (dgP B L d (q + 1) (10 * v + chP B L q - 48)) (q, v)).1 ≤ q + (d + 1)
    by_cases c : isD (chP B L q)
    · have hl := chP_lt (B := B) (L := L) (p := q) (fun e => by rw [e] at c; have := c.1; omega)
      rw [ifD_1 c]
      obtain ⟨h1, h2, h3⟩ := dgP_r b d (q + 1) (10 * v + chP B L q - 48) (by omega)
      exact ⟨by omega, h2, by omega⟩
    · rw [ifD_0 c]
      exact ⟨Nat.le_refl _, hq, by show q ≤ q + (d + 1); omega⟩
theorem dgP_v : ∀ (d q : Nat) (v T : Int), 0 ≤ v → v + 1 ≤ T → 0 ≤ (dgP B L d q v).2 ∧ (dgP B L d q v).2 + 1 ≤ T * 10 ^ d
  | 0, q, v, T, h0, h1 => ⟨h0, by show v + 1 ≤ T * 10 ^ 0; rw [Int.pow_zero, Int.mul_one]; exact h1⟩
  | d + 1, q, v, T, h0, h1 => by
    have e : T * 10 ^ (d + 1) = T * 10 * 10 ^ d := by rw [Int.pow_succ, Int.mul_assoc, Int.mul_comm (10 ^ d) 10]
    rw [e]
    show 0 ≤ (ifD (chP B L q) (dgP B L d (q + 1) (10 * v + chP B L q - 48)) (q, v)).2 ∧ (ifD (chP B L q) (dgP B L d (q + 1) (10 * v + chP B L q - 48)) (q, v)).2 + 1 ≤ T * 10 * 10 ^ d
    by_cases c : isD (chP B L q)
    · rw [ifD_1 c]
      obtain ⟨c1, c2⟩ := c
      exact dgP_v d (q + 1) _ (T * 10) (by omega) (by omega)
    · rw [ifD_0 c]
      refine ⟨h0, ?_⟩
      have p0 : (0 : Int) < 10 ^ d := Int.pow_pos (by decide)
      have p1 : (1 : Int) ≤ 10 ^ d := p0
      have p2 : T * 10 * 1 ≤ T * 10 * 10 ^ d := Int.mul_le_mul_of_nonneg_left p1 (by omega)
      show v + 1 ≤ T * 10 * 10 ^ d
      omega
/-- the class reads a number -/
theorem num_it (b : BOK B L) {m : Nat} {lo hi : Int} (hm : m ≤ 4) : ∀ (d M i q : Nat) (v T : Int) (h : Hp), i + d = m → d < M → PTp h B L q → 0 ≤ v → v + 1 ≤ T → T * 10 ^ d ≤ 100000 → itr (fun k s => Tp_number_b12_body k s.1 s.2.1 s.2.2.1 s.2.2.2.1 s.2.2.2.2.1 s.2.2.2.2.2.1 s.2.2.2.2.2.2.1 s.2.2.2.2.2.2.2) M (h, 21, (m : Int), lo, hi, chP B L q, v, (i : Int)) = Tp_number_b61 (up h 21 2 (((dgP B L d q v).1 : Nat) : Int)) 21 lo hi (chP B L (dgP B L d q v).1) (dgP B L d q v).2 ((i + ((dgP B L d q v).1 - q) : Nat) : Int) := by
  have L240 := b.1
  intro d
  induction d with
  | zero =>
    intro M i q v T h hi' hM P v0 v1 hT
    obtain ⟨M, rfl⟩ : ∃ M', M = M' + 1 := ⟨M - 1, by omega⟩
    rw [itr_s]
    show Tp_number_b12_body _ h 21 (m : Int) lo hi (chP B L q) v (i : Int) = Tp_number_b61 (up h 21 2 (q : Int)) 21 lo hi (chP B L q) v ((i + (q - q) : Nat) : Int)
    unfold Tp_number_b12_body
    rw [if_neg (by rw [w32_n (by omega) (by omega), w32_n (by omega) (by omega)]; omega), up_id P.2.1, Nat.sub_self, Nat.add_zero]
  | succ d ih =>
    intro M i q v T h hi' hM P v0 v1 hT
    obtain ⟨M, rfl⟩ : ∃ M', M = M' + 1 := ⟨M - 1, by omega⟩
    have cb := chP_b (p := q) b
    rw [itr_s]
    show Tp_number_b12_body _ h 21 (m : Int) lo hi (chP B L q) v (i : Int) = Tp_number_b61 (up h 21 2 (((ifD (chP B L q) (dgP B L d (q + 1) (10 * v + chP B L q - 48)) (q, v)).1 : Nat) : Int)) 21 lo hi (chP B L (ifD (chP B L q) (dgP B L d (q + 1) (10 * v + chP B L q - 48)) (q, v)).1) (ifD (chP B L q) (dgP B L d (q + 1) (10 * v + chP B L q - 48)) (q, v)).2 ((i + ((ifD (chP B L q) (dgP B L d (q + 1) (10 * v + chP B L q - 48)) (q, v)).1 - q) : Nat) : Int)
    unfold Tp_number_b12_body
    rw [if_pos (by rw [w32_n (by omega) (by omega), w32_n (by omega) (by omega)]; omega)]
    by_cases c : isD (chP B L q)
    · have hl := chP_lt (B := B) (L := L) (p := q) (fun e => by rw [e] at c; have := c.1; omega)
      have P2 : PTp (up h 21 2 ((q : Int) + 1)) B L (q + 1) := P.mv (q := q + 1) (by omega)
      obtain ⟨r1, -, -⟩ := dgP_r b d (q + 1) (10 * v + chP B L q - 48) (by omega)
      have e5 : v * 10 + chP B L q - 48 = 10 * v + chP B L q - 48 := by omega
      have e : T * 10 ^ (d + 1) = T * 10 * 10 ^ d := by rw [Int.pow_succ, Int.mul_assoc, Int.mul_comm (10 ^ d) 10]
      rw [ifD_1 c, Tp_isD1 cb c, cl_s, if_neg (show ¬ w32 1 = 0 by decide), e5, bd_s, cC_s SH21 rfl, pu_s, P.2.1, Tp_here_e b P2, cl_s]
      have key := ih M (i + 1) (q + 1) (10 * v + chP B L q - 48) (T * 10) _ (by omega) (by omega) P2 (by have := c.1; omega) (by have := c.2; omega) (by rw [← e]; exact hT)
      rw [up_up] at key
      refine key.trans ?_
      have e6 : i + 1 + ((dgP B L d (q + 1) (10 * v + chP B L q - 48)).1 - (q + 1)) = i + ((dgP B L d (q + 1) (10 * v + chP B L q - 48)).1 - q) := by omega
      rw [e6]
    · rw [ifD_0 c, Tp_isD0 cb c, cl_s, if_pos (show w32 0 = 0 by decide), up_id P.2.1]
      show _ = Tp_number_b61 h 21 lo hi (chP B L q) v ((i + (q - q) : Nat) : Int)
      rw [Nat.sub_self, Nat.add_zero]
theorem Tp_number_e (b : BOK B L) (P : PTp h B L p) {m : Nat} (m1 : 1 ≤ m) (m4 : m ≤ 4) {lo hi : Int} (l0 : ir lo) (h0 : ir hi) : (∃ w, nuG B L m lo hi (nxP B L p) = (w, none) ∧ w ≤ L ∧ Tp_number h 21 (m : Int) lo hi = some (-1, up (up h 21 2 (w : Int)) 21 3 (w : Int))) ∨ (∃ q v, nuG B L m lo hi (nxP B L p) = (q, some v) ∧ nxP B L p < q ∧ q ≤ L ∧ 0 ≤ v ∧ v ≤ 9999 ∧ lo ≤ v ∧ v ≤ hi ∧ Tp_number h 21 (m : Int) lo hi = some (v, up h 21 2 (q : Int))) := by
  have L240 := b.1
  obtain ⟨n1, n2, n3⟩ := nxP_r (B := B) P.2.2.1
  have P2 := P.mv n2
  have T4 : (1 : Int) * 10 ^ m ≤ 10000 := by
    have : m = 1 ∨ m = 2 ∨ m = 3 ∨ m = 4 := by omega
    rcases this with rfl | rfl | rfl | rfl <;> decide
  have key := num_it b (m := m) (lo := lo) (hi := hi) m4 m FU 0 (nxP B L p) 0 1 _ (by omega) (FU_gt (by omega)) P2 (by omega) (by omega) (by omega)
  have e0 : Tp_number h 21 (m : Int) lo hi = Tp_number_b61 (up (up h 21 2 ((nxP B L p : Nat) : Int)) 21 2 (((dgP B L m (nxP B L p) 0).1 : Nat) : Int)) 21 lo hi (chP B L (dgP B L m (nxP B L p) 0).1) (dgP B L m (nxP B L p) 0).2 ((0 + ((dgP B L m (nxP B L p) 0).1 - nxP B L p) : Nat) : Int) := by
    unfold Tp_number
    rw [cC_s SH21 rfl, Tp_next_e b P, cl_s]
    exact key
  rw [up_up] at e0
  generalize nxP B L p = q at *
  obtain ⟨r1, r2, r3⟩ := dgP_r b m q 0 n2
  obtain ⟨v0, v1⟩ := dgP_v (B := B) (L := L) m q 0 1 (by omega) (by omega)
  have cb := chP_b (p := (dgP B L m q 0).1) b
  unfold nuG
  unfold Tp_number_b61 at e0
  by_cases c : isD (chP B L q)
  · have hl := chP_lt (B := B) (L := L) (p := q) (fun e => by rw [e] at c; have := c.1; omega)
    have r4 : q < (dgP B L m q 0).1 := by
      obtain ⟨m', rfl⟩ : ∃ m', m = m' + 1 := ⟨m - 1, by omega⟩
      show q < (ifD (chP B L q) (dgP B L m' (q + 1) (10 * 0 + chP B L q - 48)) (q, 0)).1
      rw [ifD_1 c]
      have := (dgP_r b m' (q + 1) (10 * 0 + chP B L q - 48) (by omega)).1
      omega
    generalize dgP B L m q 0 = dd at *
    obtain ⟨q', v⟩ := dd
    dsimp only at *
    rw [ifD_1 c]
    rw [if_neg (show ¬ w32 ((0 + (q' - q) : Nat) : Int) = 0 by rw [w32_n (by omega) (by omega)]; omega)] at e0
    have F : ∀ (w : Nat) (g : Hp), g 21 2 = (w : Int) → cl (Tp_fail g 21) (fun r9 h10 => some ((-1 : Int), h10)) = some (-1, up g 21 3 (w : Int)) := by
      intro w g hg
      rw [Tp_fail_e, hg, cl_s]
    by_cases c2 : isD (chP B L q')
    · rw [ifD_1 c2]
      rw [Tp_isD1 cb c2, cl_s, if_neg (show ¬ w32 1 = 0 by decide)] at e0
      unfold Tp_number_b74 at e0
      rw [cC_s SH21 rfl, F q' _ up_at] at e0
      exact Or.inl ⟨q', rfl, r2, e0⟩
    · rw [ifD_0 c2]
      rw [Tp_isD0 cb c2, cl_s, if_pos (show w32 0 = 0 by decide), w32_n (x := v) v0 (by omega), ri l0, ri h0] at e0
      have b93 : Tp_number_b93 (up h 21 2 (q' : Int)) 21 = some (-1, up (up h 21 2 ((q' - 1 : Nat) : Int)) 21 3 ((q' - 1 : Nat) : Int)) := by
        unfold Tp_number_b93
        have e1 : ((q' - 1 : Nat) : Int) = (q' : Int) - 1 := by omega
        rw [cC_s SH21 rfl, up_at, up_up, ← e1, pu_s, F (q' - 1) _ up_at]
      by_cases c3 : v < lo ∨ hi < v
      · rw [if_pos c3]
        refine Or.inl ⟨q' - 1, rfl, by omega, ?_⟩
        rw [e0, b93]
        by_cases c4 : v < lo
        · rw [if_pos c4]
        · rw [if_neg c4, if_pos (by omega)]
      · rw [if_neg c3]
        refine Or.inr ⟨q', v, rfl, r4, r2, v0, by omega, by omega, by omega, ?_⟩
        rw [e0, if_neg (by omega), if_neg (by omega)]
  · rw [ifD_0 c]
    have e5 : dgP B L m q 0 = (q, 0) := by
      obtain ⟨m', rfl⟩ : ∃ m', m = m' + 1 := ⟨m - 1, by omega⟩
      show ifD (chP B L q) (dgP B L m' (q + 1) (10 * 0 + chP B L q - 48)) (q, 0) = (q, 0)
      rw [ifD_0 c]
    rw [e5] at e0
    refine Or.inl ⟨q, rfl, n2, ?_⟩
    rw [e0, if_pos (show w32 ((0 + (q - q) : Nat) : Int) = 0 by rw [Nat.sub_self]; decide)]
    unfold Tp_number_b74
    rw [cC_s SH21 rfl, Tp_fail_e, cl_s, up_at]
end C
end PureLex
