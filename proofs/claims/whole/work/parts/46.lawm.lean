section PureLawM
/-! the reference reads a law: the same places; what it answers is what the grammar's payload says -/
theorem SH2001 : SH 2001 = (101, 240) := by decide +kernel
theorem SH2002 : SH 2002 = (101, 960) := by decide +kernel
theorem SH2004 : SH 2004 = (100, 128) := by decide +kernel
def ROk (R o : Int) : Prop := (R = 2001 ∧ o = 0) ∨ (R = 2002 ∧ 0 ≤ o ∧ o ≤ 720)
def lcI (i : Int) : Int := if i = 0 then 103 else if i = 1 then 104 else if i = 2 then 108 else if i = 3 then 98 else if i = 4 then 110 else 100
def envM (h : Hp) : Int → Int := fun i => h 2004 (lcI i)
def EBv (v : Int → Int) : Prop := ∀ i : Int, 0 ≤ i → i < 6 → 0 ≤ v i ∧ v i ≤ 1000
def PM (h : Hp) (R o : Int) (B : Nat → Int) (L p : Nat) (dp : Int) : Prop := h 2000 5 = R ∧ h 2000 8 = o ∧ h 2000 9 = (L : Int) ∧ h 2000 10 = (p : Int) ∧ p ≤ L ∧ h 2000 11 = -1 ∧ h 2000 12 = dp ∧ ∀ k : Nat, k < L → h R (o + (k : Int)) = w8 (B k)
def MTm (x k : Int) : Prop := x = 2000 ∧ (k = 10 ∨ k = 11 ∨ k = 12)
def V1 (x : Int) : Prop := -1000000 ≤ x ∧ x ≤ 1000000
def V2 (x : Int) : Prop := x = 0 ∨ x = 1
def MRs (V : Int → Prop) (R o : Int) (B : Nat → Int) (L : Nat) (dp : Int) (p : Nat) (r : Rs) (h : Hp) (x : Int) (h' : Hp) : Prop := On MTm h h' ∧ ((∃ w : Nat, r = (w, none) ∧ w ≤ L ∧ h' 2000 11 = (w : Int)) ∨ ∃ (q : Nat) (y : Pl), r = (q, some y) ∧ (EBv (envM h) → x = y.2 (envM h) ∧ V x) ∧ p < q ∧ PM h' R o B L q dp)
def mcV (c : Int) : Int := if c = 0 then -1 else c
theorem mc_x {c x : Int} (b : 0 ≤ c ∧ c ≤ 255) (hx : 1 ≤ x) : w32 (mcV c) = x ↔ c = x := by
  unfold mcV
  by_cases e : c = 0
  · rw [if_pos e, w32_m1]; omega
  · rw [if_neg e, w32_n b.1 (by omega)]
theorem mc_0 {c : Int} (b : 0 ≤ c ∧ c ≤ 255) : w32 (mcV c) = -1 ↔ c = 0 := by
  unfold mcV
  by_cases e : c = 0
  · rw [if_pos e, w32_m1]; exact ⟨fun _ => e, fun _ => rfl⟩
  · rw [if_neg e, w32_n b.1 (by omega)]; omega
theorem w8_b : ∀ b : Nat, b < 256 → 0 < b → (w32 (w8 (b : Int)) = 32 ↔ b = 32) ∧ iand (w8 (b : Int)) 255 = (b : Int) ∧ (w32 (w8 (b : Int)) < 48 ∨ 57 < w32 (w8 (b : Int)) ↔ ¬ (48 ≤ b ∧ b ≤ 57)) ∧ (48 ≤ b → b ≤ 57 → w8 (b : Int) = (b : Int)) := by decide +kernel
theorem w8_i {x : Int} (h0 : 1 ≤ x) (h1 : x ≤ 255) : (w32 (w8 x) = 32 ↔ x = 32) ∧ iand (w8 x) 255 = x ∧ (w32 (w8 x) < 48 ∨ 57 < w32 (w8 x) ↔ ¬ isD x) ∧ (isD x → w8 x = x) := by
  obtain ⟨n, rfl⟩ : ∃ n : Nat, x = (n : Int) := ⟨x.toNat, by omega⟩
  obtain ⟨q1, q2, q3, q4⟩ := w8_b n (by omega) (by omega)
  refine ⟨q1.trans ⟨fun e => by omega, fun e => by omega⟩, q2, q3.trans ?_, fun d => q4 (by have := d.1; omega) (by have := d.2; omega)⟩
  unfold isD
  omega
section M
variable {V : Int → Prop} {B : Nat → Int} {L p q : Nat} {h h1 : Hp} {R o dp : Int} {r : Rs}
theorem ROk.sh (ro : ROk R o) : ∃ n, SH R = (101, n) ∧ n ≤ 10000 ∧ 0 ≤ o ∧ o + 240 ≤ (n : Int) ∧ 20 ≤ R ∧ R ≠ 2000 := by
  rcases ro with ⟨rfl, rfl⟩ | ⟨rfl, h0, h1⟩
  · exact ⟨240, SH2001, by omega, by omega, by omega, by omega, by omega⟩
  · exact ⟨960, SH2002, by omega, by omega, by omega, by omega, by omega⟩
theorem mt_a {v : Int} {h : Hp} : On MTm h (up h 2000 10 v) := On.up ⟨rfl, Or.inl rfl⟩
theorem mt_f {v : Int} {h : Hp} : On MTm h (up h 2000 11 v) := On.up ⟨rfl, Or.inr (Or.inl rfl)⟩
theorem mt_d {v : Int} {h : Hp} : On MTm h (up h 2000 12 v) := On.up ⟨rfl, Or.inr (Or.inr rfl)⟩
theorem env_on (F : On MTm h h1) : envM h1 = envM h := funext fun i => F 2004 _ (fun q => by have := q.1; omega)
theorem PM.mv (P : PM h R o B L p dp) (ro : ROk R o) (hq : q ≤ L) : PM (up h 2000 10 (q : Int)) R o B L q dp := by
  obtain ⟨n, -, -, -, -, -, rn⟩ := ro.sh
  obtain ⟨p1, p2, p3, p4, p5, p6, p7, p8⟩ := P
  exact ⟨by rw [up_off (by decide)]; exact p1, by rw [up_off (by decide)]; exact p2, by rw [up_off (by decide)]; exact p3, up_at, hq, by rw [up_off (by decide)]; exact p6, by rw [up_off (by decide)]; exact p7, fun k hk => by rw [up_ne rn]; exact p8 k hk⟩
theorem PM.sd (P : PM h R o B L p dp) (ro : ROk R o) {d : Int} : PM (up h 2000 12 d) R o B L p d := by
  obtain ⟨n, -, -, -, -, -, rn⟩ := ro.sh
  obtain ⟨p1, p2, p3, p4, p5, p6, p7, p8⟩ := P
  exact ⟨by rw [up_off (by decide)]; exact p1, by rw [up_off (by decide)]; exact p2, by rw [up_off (by decide)]; exact p3, by rw [up_off (by decide)]; exact p4, p5, by rw [up_off (by decide)]; exact p6, up_at, fun k hk => by rw [up_ne rn]; exact p8 k hk⟩
theorem look43 (ro : ROk R o) (b : BOK B L) (P : PM h R o B L p dp) : Md_look_b43 h 2000 = some (mcV (chP B L p), h) := by
  obtain ⟨n, sr, n1, o0, o1, r20, rn⟩ := ro.sh
  obtain ⟨p1, p2, p3, p4, p5, p6, p7, p8⟩ := P
  have L240 := b.1
  unfold Md_look_b43 mcV chP
  rw [cC_s SH2000' rfl, p1, p2, p3, p4, w32_n (x := (p : Int)) (by omega) (by omega), w32_n (x := (L : Int)) (by omega) (by omega)]
  by_cases c : p < L
  · have hb := b.2 p c
    rw [if_pos (by omega), cX_s sr (by omega) (by omega) n1, rd_ge r20, w32_n (by omega) (by omega), p8 p c, (w8_i hb.1 hb.2).2.1, if_pos c, if_neg (by omega)]
  · rw [if_neg (by omega), if_neg c, if_pos rfl]
theorem look_it (ro : ROk R o) (b : BOK B L) : ∀ (d M p : Nat) (h : Hp), L - p = d → d < M → PM h R o B L p dp → itr (fun k s => Md_look_b0_body k s.1 s.2) M (h, 2000) = some (mcV (chP B L (nxP B L p)), up h 2000 10 ((nxP B L p : Nat) : Int)) := by
  obtain ⟨n, sr, n1, o0, o1, r20, rn⟩ := ro.sh
  have L240 := b.1
  intro d
  induction d with
  | zero =>
    intro M p h hd hM P
    obtain ⟨M, rfl⟩ : ∃ M', M = M' + 1 := ⟨M - 1, by omega⟩
    have p5 := P.2.2.2.2.1
    obtain rfl : p = L := by omega
    have e1 : nxP B p p = p := nxP_o (by omega)
    rw [itr_s]
    show Md_look_b0_body _ h 2000 = _
    unfold Md_look_b0_body
    rw [cC_s SH2000' rfl, look43 ro b P, P.2.2.1, P.2.2.2.1, if_neg (by omega), e1, up_id P.2.2.2.1]
  | succ d ih =>
    intro M p h hd hM P
    obtain ⟨M, rfl⟩ : ∃ M', M = M' + 1 := ⟨M - 1, by omega⟩
    have p5 := P.2.2.2.2.1
    have hb := b.2 p (by omega)
    have w8p := w8_i hb.1 hb.2
    rw [itr_s]
    show Md_look_b0_body _ h 2000 = _
    unfold Md_look_b0_body
    rw [cC_s SH2000' rfl, look43 ro b P, P.2.2.1, P.2.2.2.1, P.1, P.2.1, w32_n (x := (p : Int)) (by omega) (by omega), w32_n (x := (L : Int)) (by omega) (by omega), if_pos (by omega), cX_s sr (by omega) (by omega) n1, rd_ge r20, w32_n (x := o + (p : Int)) (by omega) (by omega), P.2.2.2.2.2.2.2 p (by omega)]
    by_cases c : B p = 32
    · rw [if_pos (w8p.1.mpr c), pu_s, nxP_b (by omega) c]
      have P2 : PM (up h 2000 10 ((p : Int) + 1)) R o B L (p + 1) dp := P.mv ro (q := p + 1) (by omega)
      have key := ih M (p + 1) _ (by omega) (by omega) P2
      rw [up_up] at key
      exact key
    · have e1 : nxP B L p = p := nxP_o (fun q => c q.2)
      rw [if_neg (fun z => c (w8p.1.mp z)), e1, up_id P.2.2.2.1]
theorem Md_look_e (ro : ROk R o) (b : BOK B L) (P : PM h R o B L p dp) : Md_look h 2000 = some (mcV (chP B L (nxP B L p)), up h 2000 10 ((nxP B L p : Nat) : Int)) := look_it ro b (L - p) FU p h rfl (FU_gt (by have := b.1; omega)) P
theorem Md_isD (ro : ROk R o) (b : BOK B L) (P : PM h R o B L p dp) : Md_isDigit h 2000 = some (ifD (chP B L p) 1 0, h) := by
  obtain ⟨n, sr, n1, o0, o1, r20, rn⟩ := ro.sh
  obtain ⟨p1, p2, p3, p4, p5, p6, p7, p8⟩ := P
  have L240 := b.1
  unfold Md_isDigit chP
  rw [cC_s SH2000' rfl, p1, p2, p3, p4, w32_n (x := (p : Int)) (by omega) (by omega), w32_n (x := (L : Int)) (by omega) (by omega)]
  by_cases c : p < L
  · have hb := b.2 p c
    have w8p := (w8_i hb.1 hb.2).2.2.1
    rw [if_pos (by omega), cX_s sr (by omega) (by omega) n1, cX_s sr (by omega) (by omega) n1, rd_ge r20, w32_n (x := o + (p : Int)) (by omega) (by omega), p8 p c, if_pos c]
    by_cases e : isD (B p)
    · rw [ifD_1 e, if_neg (fun z => w8p.mp (Or.inl z) e), if_neg (fun z => w8p.mp (Or.inr z) e)]
    · rw [ifD_0 e]
      rcases w8p.mpr e with z | z
      · rw [if_pos z]
      · by_cases z2 : w32 (w8 (B p)) < 48
        · rw [if_pos z2]
        · rw [if_neg z2, if_pos z]
  · rw [if_neg (by omega), if_neg c, ifD_0 (fun z => by have := z.1; omega)]
theorem Md_fails_1 (P : PM h R o B L p dp) : Md_fails h 2000 = some (0, up h 2000 11 (p : Int)) := by
  unfold Md_fails
  rw [cC_s SH2000' rfl, P.2.2.2.2.2.1, if_pos (show w32 (-1) = -1 by decide), pu_s, P.2.2.2.1]
theorem Md_fails_2 {w : Nat} (b : BOK B L) (hw : w ≤ L) (e : h 2000 11 = (w : Int)) : Md_fails h 2000 = some (0, h) := by
  have L240 := b.1
  unfold Md_fails
  rw [cC_s SH2000' rfl, e, if_neg (by rw [w32_n (by omega) (by omega)]; omega)]
theorem fl_1 (P : PM h R o B L p dp) : w32 (h 2000 11) = -1 := by rw [P.2.2.2.2.2.1]; decide
theorem fl_2 {w : Nat} (b : BOK B L) (hw : w ≤ L) (e : h 2000 11 = (w : Int)) : ¬ w32 (h 2000 11) = -1 := by
  have L240 := b.1
  rw [e, w32_n (by omega) (by omega)]; omega
theorem takes_1 (ro : ROk R o) (b : BOK B L) (P : PM h R o B L p dp) {x : Int} (hx : 1 ≤ x ∧ x ≤ 127) : (chP B L (nxP B L p) = x ∧ Md_takes h 2000 x = some (1, up h 2000 10 ((nxP B L p + 1 : Nat) : Int))) ∨ (¬ chP B L (nxP B L p) = x ∧ Md_takes h 2000 x = some (0, up (up h 2000 10 ((nxP B L p : Nat) : Int)) 2000 11 ((nxP B L p : Nat) : Int))) := by
  have cb := chP_b (p := nxP B L p) b
  have n2 := (nxP_r (B := B) P.2.2.2.2.1).2.1
  unfold Md_takes
  rw [cC_s SH2000' rfl, if_pos (fl_1 P), Md_look_e ro b P, cl_s, w32_n (x := x) (by omega) (by omega)]
  by_cases c : chP B L (nxP B L p) = x
  · rw [if_pos ((mc_x cb hx.1).mpr c), pu_s, up_at, up_up]
    exact Or.inl ⟨c, rfl⟩
  · rw [if_neg (fun z => c ((mc_x cb hx.1).mp z))]
    unfold Md_takes_b16
    rw [cC_s SH2000' rfl, Md_fails_1 (P.mv ro n2), cl_s]
    exact Or.inr ⟨c, rfl⟩
theorem takes_2 {w : Nat} (b : BOK B L) (hw : w ≤ L) (e : h 2000 11 = (w : Int)) (x : Int) : Md_takes h 2000 x = some (0, h) := by
  unfold Md_takes Md_takes_b16
  rw [cC_s SH2000' rfl, if_neg (fl_2 b hw e), cC_s SH2000' rfl, Md_fails_2 b hw e, cl_s]
  rfl
theorem goes_0 (P : PM h R o B L p 6) : Md_goesIn h 2000 = some (0, up h 2000 11 (p : Int)) := by
  unfold Md_goesIn
  rw [cC_s SH2000' rfl, P.2.2.2.2.2.2.1, if_pos (show w32 6 = 6 by decide), Md_fails_1 P, cl_s]
  rfl
theorem goes_1 (P : PM h R o B L p dp) (d0 : 0 ≤ dp) (d6 : dp < 6) : Md_goesIn h 2000 = some (1, up (up h 2000 12 (dp + 1)) 2000 10 ((p : Int) + 1)) := by
  unfold Md_goesIn
  rw [cC_s SH2000' rfl, P.2.2.2.2.2.2.1, if_neg (by rw [w32_n d0 (by omega)]; omega), pu_s, pu_s, up_off (by decide), P.2.2.2.1]
/-! answers -/
theorem wp_MR {X : Option (Int × Hp)} {K : Int → Hp → Option (Int × Hp)} {Q : Int → Hp → Prop} (W : wp X (MRs V R o B L dp p r h)) (k0 : ∀ (x : Int) (w : Nat) (h' : Hp), r = (w, none) → w ≤ L → On MTm h h' → h' 2000 11 = (w : Int) → wp (K x h') Q) (k1 : ∀ (x : Int) (q : Nat) (y : Pl) (h' : Hp), r = (q, some y) → On MTm h h' → (EBv (envM h) → x = y.2 (envM h) ∧ V x) → p < q → PM h' R o B L q dp → wp (K x h') Q) : wp (cl X K) Q := by
  refine wp_cl W ?_
  rintro x h' ⟨F, ⟨w, e, hw, e3⟩ | ⟨q, y, e, hx, hq, P⟩⟩
  · exact k0 x w h' e hw F e3
  · exact k1 x q y h' e F hx hq P
theorem MR_0 {x : Int} {w : Nat} (F : On MTm h h1) (hw : w ≤ L) (e3 : h1 2000 11 = (w : Int)) (e : r = (w, none)) : wp (some (x, h1)) (MRs V R o B L dp p r h) := wp_i ⟨F, Or.inl ⟨w, e, hw, e3⟩⟩
theorem MR_1 {x : Int} {y : Pl} (F : On MTm h h1) (hx : EBv (envM h) → x = y.2 (envM h) ∧ V x) (hq : p < q) (P : PM h1 R o B L q dp) (e : r = (q, some y)) : wp (some (x, h1)) (MRs V R o B L dp p r h) := wp_i ⟨F, Or.inr ⟨q, y, e, hx, hq, P⟩⟩
def MSp (V : Int → Prop) (R o : Int) (B : Nat → Int) (L : Nat) (dp : Int) (X : Nat → Rs) (T : Hp → Option (Int × Hp)) : Prop := ∀ (h : Hp) (p : Nat), PM h R o B L p dp → wp (T h) (MRs V R o B L dp p (X p) h)
/-- a text's sign: where it stands in one of the words -/
def spF (a c : Int) : Nat → Nat → Int
  | 0, _ => -1
  | d + 1, i => if sch a (i : Int) = c then (i : Int) else spF a c d (i + 1)
theorem sln_w : ∀ a : Nat, a < 7 → w32 (sln (10 + (a : Int))) = sln (10 + (a : Int)) ∧ sln (10 + (a : Int)) = ((sln (10 + (a : Int))).toNat : Int) ∧ sln (10 + (a : Int)) < 40 ∧ ∀ i : Nat, i < 40 → w32 (sch (10 + (a : Int)) (i : Int)) = sch (10 + (a : Int)) (i : Int) := by decide +kernel
theorem spot_it {a : Nat} (ha : a < 7) {c : Int} (hc : w32 c = c) (h : Hp) : ∀ (d M i : Nat), i + d = (sln (10 + (a : Int))).toNat → d < M → itr (fun k s => Md_spotOf_b2_body k s.1 s.2.1 s.2.2.1 s.2.2.2) M (h, 10 + (a : Int), c, (i : Int)) = some (spF (10 + (a : Int)) c d i, h) := by
  obtain ⟨w1, w2, w3, w4⟩ := sln_w a ha
  intro d
  induction d with
  | zero =>
    intro M i hi hM
    obtain ⟨M, rfl⟩ : ∃ M', M = M' + 1 := ⟨M - 1, by omega⟩
    rw [itr_s]
    show Md_spotOf_b2_body _ h (10 + (a : Int)) c (i : Int) = some (-1, h)
    unfold Md_spotOf_b2_body cS
    rw [if_pos (by omega), w1, if_neg (by rw [w32_n (by omega) (by omega)]; omega)]
  | succ d ih =>
    intro M i hi hM
    obtain ⟨M, rfl⟩ : ∃ M', M = M' + 1 := ⟨M - 1, by omega⟩
    have wi := w32_n (x := (i : Int)) (by omega) (by omega)
    rw [itr_s]
    show Md_spotOf_b2_body _ h (10 + (a : Int)) c (i : Int) = some (if sch (10 + (a : Int)) (i : Int) = c then (i : Int) else spF (10 + (a : Int)) c d (i + 1), h)
    unfold Md_spotOf_b2_body cS cT
    rw [if_pos (by omega), w1, wi, if_pos (by omega), if_pos (by omega), w4 i (by omega), hc]
    by_cases e : sch (10 + (a : Int)) (i : Int) = c
    · rw [if_pos e, if_pos e]
    · rw [if_neg e, if_neg e]
      exact ih M (i + 1) (by omega) (by omega)
theorem Md_spotOf_e {a : Nat} (ha : a < 7) {c : Int} (hc : w32 c = c) (h : Hp) : Md_spotOf h (10 + (a : Int)) c = some (spF (10 + (a : Int)) c (sln (10 + (a : Int))).toNat 0, h) := spot_it ha hc h _ FU 0 (by omega) (FU_gt (by have := (sln_w a ha).2.2.1; omega))
theorem among_it {a : Nat} (ha : a < 7) {c : Int} (hc : w32 c = c) (h : Hp) : ∀ (d M i : Nat), i + d = (sln (10 + (a : Int))).toNat → d < M → itr (fun k s => Md_isAmong_b2_body k s.1 s.2.1 s.2.2.1 s.2.2.2) M (h, 10 + (a : Int), c, (i : Int)) = some (if spF (10 + (a : Int)) c d i < 0 then 0 else 1, h) := by
  obtain ⟨w1, w2, w3, w4⟩ := sln_w a ha
  intro d
  induction d with
  | zero =>
    intro M i hi hM
    obtain ⟨M, rfl⟩ : ∃ M', M = M' + 1 := ⟨M - 1, by omega⟩
    rw [itr_s]
    show Md_isAmong_b2_body _ h (10 + (a : Int)) c (i : Int) = some (if (-1 : Int) < 0 then 0 else 1, h)
    unfold Md_isAmong_b2_body cS
    rw [if_pos (by omega), w1, if_neg (by rw [w32_n (by omega) (by omega)]; omega), if_pos (show (-1 : Int) < 0 by decide)]
  | succ d ih =>
    intro M i hi hM
    obtain ⟨M, rfl⟩ : ∃ M', M = M' + 1 := ⟨M - 1, by omega⟩
    have wi := w32_n (x := (i : Int)) (by omega) (by omega)
    rw [itr_s]
    show Md_isAmong_b2_body _ h (10 + (a : Int)) c (i : Int) = some (if (if sch (10 + (a : Int)) (i : Int) = c then (i : Int) else spF (10 + (a : Int)) c d (i + 1)) < 0 then 0 else 1, h)
    unfold Md_isAmong_b2_body cS cT
    rw [if_pos (by omega), w1, wi, if_pos (by omega), if_pos (by omega), w4 i (by omega), hc]
    by_cases e : sch (10 + (a : Int)) (i : Int) = c
    · rw [if_pos e, if_pos e, if_neg (by omega)]
    · rw [if_neg e, if_neg e]
      exact ih M (i + 1) (by omega) (by omega)
theorem Md_isAmong_e {a : Nat} (ha : a < 7) {c : Int} (hc : w32 c = c) (h : Hp) : Md_isAmong h (10 + (a : Int)) c = some (if spF (10 + (a : Int)) c (sln (10 + (a : Int))).toNat 0 < 0 then 0 else 1, h) := among_it ha hc h _ FU 0 (by omega) (FU_gt (by have := (sln_w a ha).2.2.1; omega))
theorem sp12 : ∀ c : Nat, c < 256 → spF 12 (c : Int) 6 0 = ltI (c : Int) ∧ w32 (c : Int) = (c : Int) ∧ (0 ≤ ltI (c : Int) → (c : Int) = lcI (ltI (c : Int)) ∧ c < 128 ∧ ltI (c : Int) < 6) := by decide +kernel
theorem sp12m : spF 12 (-1) 6 0 = -1 ∧ ltI 0 = -1 := by decide +kernel
theorem among12 {c : Int} (b : 0 ≤ c ∧ c ≤ 255) (h : Hp) : Md_isAmong h 12 (mcV c) = some (if ltI c < 0 then 0 else 1, h) := by
  have key := fun hc => Md_isAmong_e (a := 2) (by omega) (c := mcV c) hc h
  unfold mcV at key ⊢
  by_cases e : c = 0
  · rw [if_pos e] at key ⊢
    rw [e, sp12m.2]
    have k2 := key w32_m1
    have e2 : spF (10 + ((2 : Nat) : Int)) (-1) (sln (10 + ((2 : Nat) : Int))).toNat 0 = -1 := sp12m.1
    rw [e2] at k2
    exact k2
  · rw [if_neg e] at key ⊢
    obtain ⟨n, rfl⟩ : ∃ n : Nat, c = (n : Int) := ⟨c.toNat, by omega⟩
    obtain ⟨s1, s2, -⟩ := sp12 n (by omega)
    have k2 := key s2
    have e2 : spF (10 + ((2 : Nat) : Int)) (n : Int) (sln (10 + ((2 : Nat) : Int))).toNat 0 = ltI (n : Int) := s1
    rw [e2] at k2
    exact k2
end M
end PureLawM
