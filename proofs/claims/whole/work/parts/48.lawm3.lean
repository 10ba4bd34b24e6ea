section PureLawO
/-! the reference reads terms and sums, conditions, clauses, a whole law -/
theorem clc {α : Type} (x : Option (Int × Hp)) {F G : Int → Hp → Option α} (hh : ∀ r h, F r h = G r h) : cl x F = cl x G := by
  have : F = G := funext fun r => funext fun h => hh r h
  rw [this]
def wiV (z : Int) : Int := if w64 (if w64 z < 1000000 then z else 1000000) < (-1000000) then (-1000000) else (if w64 z < 1000000 then z else 1000000)
theorem within_e (h : Hp) (z : Int) : Md_within h z = some (wiV z, h) := rfl
theorem clmp_b (z : Int) : -1000000 ≤ clmp z ∧ clmp z ≤ 1000000 := by
  unfold clmp
  by_cases c : z < 1000000
  · rw [if_pos c]
    by_cases d : z < -1000000
    · rw [if_pos d]; omega
    · rw [if_neg d]; omega
  · rw [if_neg c, if_neg (by decide)]; omega
theorem wiV_e {z : Int} (h0 : -4000000000000 ≤ z) (h1 : z ≤ 4000000000000) : wiV z = clmp z := by
  unfold wiV clmp
  rw [w64_id (x := z) (by omega) (by omega)]
  by_cases c : z < 1000000
  · rw [if_pos c, w64_id (x := z) (by omega) (by omega)]
  · rw [if_neg c]
    rfl
theorem mul_b {x y : Int} (hx : V1 x) (hy : V1 y) : -1000000000000 ≤ x * y ∧ x * y ≤ 1000000000000 := by
  obtain ⟨x0, x1⟩ := hx
  obtain ⟨y0, y1⟩ := hy
  have k1 : 0 ≤ (1000000 - x) * (1000000 + y) := Int.mul_nonneg (by omega) (by omega)
  have k2 : 0 ≤ (1000000 + x) * (1000000 - y) := Int.mul_nonneg (by omega) (by omega)
  have k3 : 0 ≤ (1000000 - x) * (1000000 - y) := Int.mul_nonneg (by omega) (by omega)
  have k4 : 0 ≤ (1000000 + x) * (1000000 + y) := Int.mul_nonneg (by omega) (by omega)
  simp only [Int.sub_mul, Int.add_mul, Int.mul_add, Int.mul_sub] at k1 k2 k3 k4
  omega
theorem div_b {x : Int} (hx : V1 x) (y : Int) : -1000000 ≤ x.tdiv y ∧ x.tdiv y ≤ 1000000 := by
  obtain ⟨x0, x1⟩ := hx
  have e : (x.tdiv y).natAbs = x.natAbs / y.natAbs := Int.natAbs_tdiv x y
  have l := Nat.div_le_self x.natAbs y.natAbs
  omega
theorem w32_V {x : Int} (hx : V1 x) : w32 x = x := w32_id (by have := hx.1; omega) (by have := hx.2; omega)
theorem w64_V {x : Int} (hx : V1 x) : w64 x = x := w64_id (by have := hx.1; omega) (by have := hx.2; omega)
theorem lcm0 (v : Int) : w32 (lcm v 0) = 0 ↔ w64 v = 0 := by
  have z : w64 0 = 0 := by decide
  unfold lcm
  rw [z]
  by_cases c : 0 < w64 v
  · rw [if_pos c]; exact ⟨fun e => absurd e (by decide), fun e => by omega⟩
  · rw [if_neg c]
    by_cases d : w64 v = 0
    · rw [if_pos d]; exact ⟨fun _ => d, fun _ => by decide⟩
    · rw [if_neg d]; exact ⟨fun e => absurd e (by decide), fun e => absurd e d⟩
section M
variable {V : Int → Prop} {B : Nat → Int} {L p q : Nat} {h h1 : Hp} {R o dp : Int} {r : Rs}
theorem te_end (b : BOK B L) {kf : Hp × Int → Option (Int × Hp)} (k : Hp × Int × Int → Option (Int × Hp)) (h : Hp) (x : Int) (w : Nat) (hw : w ≤ L) (e : h 2000 11 = (w : Int)) : Md_term_b5_body kf k h 2000 x = some (x, h) := by
  unfold Md_term_b5_body
  rw [cC_s SH2000' rfl, if_neg (fl_2 b hw e)]
theorem te_hb (ro : ROk R o) (b : BOK B L) {kf : Hp × Int → Option (Int × Hp)} (k : Hp × Int × Int → Option (Int × Hp)) (h : Hp) (p : Nat) (x : Int) (P : PM h R o B L p dp) : (¬ (chP B L (nxP B L p) = 42 ∨ chP B L (nxP B L p) = 47) → ∃ z, (V1 x → z = x) ∧ Md_term_b5_body kf k h 2000 x = some (z, up h 2000 10 ((nxP B L p : Nat) : Int))) ∧ ((chP B L (nxP B L p) = 42 ∨ chP B L (nxP B L p) = 47) → ∃ G : Int → Int, (∀ y, V1 x → V1 y → G y = opV (chP B L (nxP B L p)) x y ∧ V1 (G y)) ∧ Md_term_b5_body kf k h 2000 x = cl (Md_atom kf (up h 2000 10 ((nxP B L p + 1 : Nat) : Int)) 2000) (fun y h8 => k (h8, 2000, G y))) := by
  have cb := chP_b (p := nxP B L p) b
  have n2 := (nxP_r (B := B) P.2.2.2.2.1).2.1
  have P2 := P.mv ro n2
  have nn := nxP_nx (B := B) P.2.2.2.2.1
  have lk := Md_look_e ro b P2
  rw [nn, up_up] at lk
  have m42 := mc_x (x := 42) cb (by decide)
  have m47 := mc_x (x := 47) cb (by decide)
  unfold Md_term_b5_body
  rw [cC_s SH2000' rfl, if_pos (fl_1 P), Md_look_e ro b P, cl_s, lk, cl_s]
  refine ⟨fun c => ⟨x, fun _ => rfl, ?_⟩, fun c => ?_⟩
  · rw [if_neg (fun z => c (Or.inl (m42.mp z))), if_neg (fun z => c (Or.inr (m47.mp z)))]
  · unfold Md_term_b31 Md_term_b45 Md_term_b87
    rw [cC_s SH2000' rfl, lk, cl_s]
    rcases c with c | c
    · rw [if_pos (m42.mpr c), if_pos (m42.mpr c), cC_s SH2000' rfl, pu_s, up_at, up_up, c]
      refine ⟨fun y => wiV (w32 x * w32 y), fun y hx hy => ?_, ?_⟩
      · have mb := mul_b hx hy
        show wiV (w32 x * w32 y) = opV 42 x y ∧ V1 (wiV (w32 x * w32 y))
        rw [w32_V hx, w32_V hy, wiV_e (by omega) (by omega)]
        exact ⟨rfl, clmp_b _⟩
      · refine clc _ (fun y h8 => ?_)
        rw [bd_s, if_neg (show ¬ w32 1 = 0 by decide), within_e, cl_s]
    · rw [if_neg (fun z => by have := m42.mp z; omega), if_pos (m47.mpr c), if_neg (fun z => by have := m42.mp z; omega), cC_s SH2000' rfl, pu_s, up_at, up_up, c]
      refine ⟨fun y => if w32 (lcm (w32 y) 0) = 0 then wiV 0 else wiV ((w64 (w32 x)).tdiv (w64 (w32 y))), fun y hx hy => ?_, ?_⟩
      · have db := div_b hx y
        have hl := lcm0 y
        rw [w64_V hy] at hl
        show (if w32 (lcm (w32 y) 0) = 0 then wiV 0 else wiV ((w64 (w32 x)).tdiv (w64 (w32 y)))) = opV 47 x y ∧ V1 (if w32 (lcm (w32 y) 0) = 0 then wiV 0 else wiV ((w64 (w32 x)).tdiv (w64 (w32 y))))
        rw [w32_V hx, w32_V hy, w64_V hx, w64_V hy]
        show _ = (if y = 0 then clmp 0 else clmp (x.tdiv y)) ∧ _
        by_cases z : y = 0
        · rw [if_pos (hl.mpr z), if_pos z, wiV_e (by decide) (by decide)]
          exact ⟨rfl, clmp_b _⟩
        · rw [if_neg (fun e => z (hl.mp e)), if_neg z, wiV_e (by omega) (by omega)]
          exact ⟨rfl, clmp_b _⟩
      · refine clc _ (fun y h8 => ?_)
        dsimp only
        rw [bd_s, if_pos (show w32 0 = 0 by decide)]
        by_cases z : w32 (lcm (w32 y) 0) = 0
        · rw [if_pos z, if_pos z, within_e, cl_s]
        · have cz : cDl (α := Int × Hp) (w32 y) = fun A => A := funext fun A => if_neg (fun e => z ((lcm0 _).mpr e))
          rw [if_neg z, if_neg z, cz, within_e, cl_s]
theorem term_m (ro : ROk R o) (b : BOK B L) {inn : Option (Nat → Rs)} {kf : Hp × Int → Option (Int × Hp)} (I : InM R o B L inn kf dp) : MSp V1 R o B L dp (teP B L inn) (fun h => Md_term kf h 2000) := by
  intro h p P
  show wp (Md_term kf h 2000) _
  have L240 := b.1
  unfold Md_term teP
  rw [cC_s SH2000' rfl]
  refine wp_MR (atom_m ro b I h p P) ?_ ?_
  · intro x w h' e hw F e3
    rw [e, bnP_n]
    have e5 : Md_term_b5 kf h' 2000 x = some (x, h') := by
      unfold Md_term_b5
      have : FU = 999999 + 1 := rfl
      rw [this, itr_s]
      exact te_end b _ h' x w hw e3
    rw [e5]
    exact MR_0 F hw e3 rfl
  · intro x q y h' e F hx hq P2
    rw [e, bnP_s]
    have key := rwm_it (V := V1) (dp := dp) (Bd := fun k s => Md_term_b5_body kf k s.1 s.2.1 s.2.2) ro b (s1 := 42) (s2 := 47) (by decide) (by decide) (atom_m ro b I) (fun k h x w hw e => ⟨x, te_end b k h x w hw e⟩) (fun k h p x P => te_hb ro b k h p x P) (L + 1) FU q h' x y (by omega) (FU_gt (by omega)) hq F hx P2
    exact key
theorem su_end (b : BOK B L) {kf : Hp × Int → Option (Int × Hp)} (k : Hp × Int × Int → Option (Int × Hp)) (h : Hp) (x : Int) (w : Nat) (hw : w ≤ L) (e : h 2000 11 = (w : Int)) : Md_sum_b5_body kf k h 2000 x = some (x, h) := by
  unfold Md_sum_b5_body
  rw [cC_s SH2000' rfl, if_neg (fl_2 b hw e)]
theorem su_hb (ro : ROk R o) (b : BOK B L) {kf : Hp × Int → Option (Int × Hp)} (k : Hp × Int × Int → Option (Int × Hp)) (h : Hp) (p : Nat) (x : Int) (P : PM h R o B L p dp) : (¬ (chP B L (nxP B L p) = 43 ∨ chP B L (nxP B L p) = 45) → ∃ z, (V1 x → z = x) ∧ Md_sum_b5_body kf k h 2000 x = some (z, up h 2000 10 ((nxP B L p : Nat) : Int))) ∧ ((chP B L (nxP B L p) = 43 ∨ chP B L (nxP B L p) = 45) → ∃ G : Int → Int, (∀ y, V1 x → V1 y → G y = opV (chP B L (nxP B L p)) x y ∧ V1 (G y)) ∧ Md_sum_b5_body kf k h 2000 x = cl (Md_term kf (up h 2000 10 ((nxP B L p + 1 : Nat) : Int)) 2000) (fun y h8 => k (h8, 2000, G y))) := by
  have cb := chP_b (p := nxP B L p) b
  have n2 := (nxP_r (B := B) P.2.2.2.2.1).2.1
  have P2 := P.mv ro n2
  have nn := nxP_nx (B := B) P.2.2.2.2.1
  have lk := Md_look_e ro b P2
  rw [nn, up_up] at lk
  have m43 := mc_x (x := 43) cb (by decide)
  have m45 := mc_x (x := 45) cb (by decide)
  unfold Md_sum_b5_body
  rw [cC_s SH2000' rfl, if_pos (fl_1 P), Md_look_e ro b P, cl_s, lk, cl_s]
  refine ⟨fun c => ⟨x, fun _ => rfl, ?_⟩, fun c => ?_⟩
  · rw [if_neg (fun z => c (Or.inl (m43.mp z))), if_neg (fun z => c (Or.inr (m45.mp z)))]
  · unfold Md_sum_b31 Md_sum_b45 Md_sum_b77
    rw [cC_s SH2000' rfl, lk, cl_s]
    rcases c with c | c
    · rw [if_pos (m43.mpr c), if_pos (m43.mpr c), cC_s SH2000' rfl, pu_s, up_at, up_up, c]
      refine ⟨fun y => wiV (w32 x + w32 y), fun y hx hy => ?_, ?_⟩
      · have x0 := hx.1
        have x1 := hx.2
        have y0 := hy.1
        have y1 := hy.2
        show wiV (w32 x + w32 y) = opV 43 x y ∧ V1 (wiV (w32 x + w32 y))
        rw [w32_V hx, w32_V hy, wiV_e (by omega) (by omega)]
        exact ⟨rfl, clmp_b _⟩
      · refine clc _ (fun y h8 => ?_)
        rw [bd_s, if_neg (show ¬ w32 1 = 0 by decide), within_e, cl_s]
    · rw [if_neg (fun z => by have := m43.mp z; omega), if_pos (m45.mpr c), if_neg (fun z => by have := m43.mp z; omega), cC_s SH2000' rfl, pu_s, up_at, up_up, c]
      refine ⟨fun y => wiV (w32 x - w32 y), fun y hx hy => ?_, ?_⟩
      · have x0 := hx.1
        have x1 := hx.2
        have y0 := hy.1
        have y1 := hy.2
        show wiV (w32 x - w32 y) = opV 45 x y ∧ V1 (wiV (w32 x - w32 y))
        rw [w32_V hx, w32_V hy, wiV_e (by omega) (by omega)]
        exact ⟨rfl, clmp_b _⟩
      · refine clc _ (fun y h8 => ?_)
        rw [bd_s, if_pos (show w32 0 = 0 by decide), within_e, cl_s]
theorem sum_m (ro : ROk R o) (b : BOK B L) {inn : Option (Nat → Rs)} {kf : Hp × Int → Option (Int × Hp)} (I : InM R o B L inn kf dp) : MSp V1 R o B L dp (suP B L inn) (fun h => Md_sum_body kf h 2000) := by
  intro h p P
  show wp (Md_sum_body kf h 2000) _
  have L240 := b.1
  unfold Md_sum_body suP
  rw [cC_s SH2000' rfl]
  refine wp_MR (term_m ro b I h p P) ?_ ?_
  · intro x w h' e hw F e3
    rw [e, bnP_n]
    have e5 : Md_sum_b5 kf h' 2000 x = some (x, h') := by
      unfold Md_sum_b5
      have : FU = 999999 + 1 := rfl
      rw [this, itr_s]
      exact su_end b _ h' x w hw e3
    rw [e5]
    exact MR_0 F hw e3 rfl
  · intro x q y h' e F hx hq P2
    rw [e, bnP_s]
    have key := rwm_it (V := V1) (dp := dp) (Bd := fun k s => Md_sum_b5_body kf k s.1 s.2.1 s.2.2) ro b (s1 := 43) (s2 := 45) (by decide) (by decide) (term_m ro b I) (fun k h x w hw e => ⟨x, su_end b k h x w hw e⟩) (fun k h p x P => su_hb ro b k h p x P) (L + 1) FU q h' x y (by omega) (FU_gt (by omega)) hq F hx P2
    exact key
theorem suA_m (ro : ROk R o) (b : BOK B L) : ∀ (e N : Nat), e < N → e ≤ 6 → MSp V1 R o B L (6 - (e : Int)) (suA B L e) (fun h => itr (fun k s => Md_sum_body k s.1 s.2) N (h, 2000))
  | 0, N, hN, he => by
    obtain ⟨N, rfl⟩ : ∃ N', N = N' + 1 := ⟨N - 1, by omega⟩
    exact sum_m ro b (inn := none) (kf := itr (fun k s => Md_sum_body k s.1 s.2) N) (dp := 6 - ((0 : Nat) : Int)) ⟨by omega, Or.inl ⟨rfl, by omega⟩⟩
  | e + 1, N, hN, he => by
    obtain ⟨N, rfl⟩ : ∃ N', N = N' + 1 := ⟨N - 1, by omega⟩
    have ih := suA_m ro b e N (by omega) (by omega)
    have e6 : 6 - ((e + 1 : Nat) : Int) + 1 = 6 - (e : Int) := by omega
    refine sum_m ro b (inn := some (suA B L e)) (kf := itr (fun k s => Md_sum_body k s.1 s.2) N) (dp := 6 - ((e + 1 : Nat) : Int)) ⟨by omega, Or.inr ⟨_, rfl, by omega, ?_⟩⟩
    rw [e6]
    exact ih
theorem suR_m (ro : ROk R o) (b : BOK B L) {e : Nat} (he : e ≤ 6) : MSp V1 R o B L (6 - (e : Int)) (suA B L e) (fun h => Md_sum h 2000) := suA_m ro b e RF (by have := RF_12; omega) he
/-! comparisons and conditions -/
theorem sign1 {x : Int} (b : 0 ≤ x ∧ x ≤ 255) (q : isC x) : Md_isSign h (mcV x) = some (1, h) := by
  unfold Md_isSign
  rcases q with e | e | e
  · rw [if_pos ((mc_x b (by decide)).mpr e)]
  · rw [if_neg (fun z => by have := (mc_x b (by decide)).mp z; omega), if_pos ((mc_x b (by decide)).mpr e)]
  · rw [if_neg (fun z => by have := (mc_x b (by decide)).mp z; omega), if_neg (fun z => by have := (mc_x b (by decide)).mp z; omega), if_pos ((mc_x b (by decide)).mpr e)]
theorem sign0 {x : Int} (b : 0 ≤ x ∧ x ≤ 255) (q : ¬ isC x) : Md_isSign h (mcV x) = some (0, h) := by
  unfold Md_isSign
  rw [if_neg (fun z => q (Or.inl ((mc_x b (by decide)).mp z))), if_neg (fun z => q (Or.inr (Or.inl ((mc_x b (by decide)).mp z)))), if_neg (fun z => q (Or.inr (Or.inr ((mc_x b (by decide)).mp z))))]
def cmV (c a b : Int) : Int := if c = 61 then (if w32 a = w32 b then 1 else 0) else if c = 60 then (if w32 a < w32 b then 1 else 0) else (if w32 b < w32 a then 1 else 0)
theorem cmV_e {c a b : Int} (hc : isC c) (ha : V1 a) (hb : V1 b) : cmV c a b = opV c a b ∧ V2 (cmV c a b) := by
  unfold cmV opV V2
  rw [w32_V ha, w32_V hb]
  rcases hc with e | e | e
  · subst e
    refine ⟨rfl, ?_⟩
    by_cases z : a = b
    · exact Or.inr (if_pos z)
    · exact Or.inl (if_neg z)
  · subst e
    refine ⟨rfl, ?_⟩
    by_cases z : a < b
    · exact Or.inr (if_pos z)
    · exact Or.inl (if_neg z)
  · subst e
    refine ⟨rfl, ?_⟩
    by_cases z : b < a
    · exact Or.inr (if_pos z)
    · exact Or.inl (if_neg z)
theorem b12_m (ro : ROk R o) (b : BOK B L) {S : Nat → Rs} (hS : MSp V1 R o B L dp S (fun h => Md_sum h 2000)) {h0 : Hp} {p0 : Nat} {x : Pl} {v : Int} (F : On MTm h0 h) (hv : EBv (envM h0) → v = x.2 (envM h0) ∧ V1 v) (hp : p0 < p) (P : PM h R o B L p dp) (e : r = cmP B L S p x) : wp (Md_compares_b12 h 2000 v) (MRs V2 R o B L dp p0 r h0) := by
  obtain ⟨n1, n2, n3⟩ := nxP_r (B := B) P.2.2.2.2.1
  have cb := chP_b (p := nxP B L p) b
  unfold cmP at e
  unfold Md_compares_b12
  rw [cC_s SH2000' rfl, if_pos (fl_1 P), Md_look_e ro b P, cl_s]
  by_cases c1 : isC (chP B L (nxP B L p))
  · have hl := chP_lt (B := B) (L := L) (p := nxP B L p) (by rcases c1 with z | z | z <;> omega)
    rw [ifC_1 c1] at e
    rw [sign1 cb c1, cl_s, if_neg (show ¬ w32 1 = 0 by decide), pu_s, up_at, up_up]
    refine wp_MR (hS _ _ (P.mv ro (q := nxP B L p + 1) (by omega))) ?_ ?_
    · intro y w h' e2 hw F2 e3
      rw [e2, bnP_n] at e
      have G : ∀ z : Int, wp (some (z, h')) (MRs V2 R o B L dp p0 r h0) := fun z => MR_0 ((F.tr mt_a).tr F2) hw e3 e
      refine wp_if (fun _ => wp_if (fun _ => G _) (fun _ => G _)) (fun _ => wp_if (fun _ => wp_if (fun _ => G _) (fun _ => G _)) (fun _ => wp_if (fun _ => G _) (fun _ => G _)))
    · intro y q z h' e2 F2 hy hq P2
      rw [e2, bnP_s] at e
      have e7 : envM (up h 2000 10 ((nxP B L p : Int) + 1)) = envM h0 := (env_on mt_a).trans (env_on F)
      rw [e7] at hy
      have et : (if w32 (mcV (chP B L (nxP B L p))) = 61 then if w32 v = w32 y then some ((1 : Int), h') else some (0, h') else if w32 (mcV (chP B L (nxP B L p))) = 60 then if w32 v < w32 y then some (1, h') else some (0, h') else if w32 y < w32 v then some (1, h') else some (0, h')) = some (cmV (chP B L (nxP B L p)) v y, h') := by
        have sp : ∀ (Pq : Prop) [Decidable Pq], (if Pq then some ((1 : Int), h') else some (0, h')) = some (if Pq then 1 else 0, h') := by
          intro Pq _
          by_cases z : Pq
          · rw [if_pos z, if_pos z]
          · rw [if_neg z, if_neg z]
        unfold cmV
        rw [sp, sp, sp]
        by_cases z1 : chP B L (nxP B L p) = 61
        · rw [if_pos ((mc_x cb (by decide)).mpr z1), if_pos z1]
        · rw [if_neg (fun z => z1 ((mc_x cb (by decide)).mp z)), if_neg z1]
          by_cases z2 : chP B L (nxP B L p) = 60
          · rw [if_pos ((mc_x cb (by decide)).mpr z2), if_pos z2]
          · rw [if_neg (fun z => z2 ((mc_x cb (by decide)).mp z)), if_neg z2]
      rw [et]
      refine MR_1 (y := cbP (chP B L (nxP B L p)) x z) ((F.tr mt_a).tr F2) (fun E => ?_) (by omega) P2 e
      obtain ⟨v1, v2⟩ := hv E
      obtain ⟨y1, y2⟩ := hy E
      obtain ⟨g1, g2⟩ := cmV_e c1 v2 y2
      refine ⟨?_, g2⟩
      show _ = opV (chP B L (nxP B L p)) (x.2 (envM h0)) (z.2 (envM h0))
      rw [g1, v1, y1]
  · rw [ifC_0 c1] at e
    rw [sign0 cb c1, cl_s, if_pos (show w32 0 = 0 by decide), Md_fails_1 (P.mv ro n2), cl_s]
    exact MR_0 ((F.tr mt_a).tr mt_f) n2 up_at e
theorem pa_end (b : BOK B L) {kf : Hp × Int → Option (Int × Hp)} (k : Hp × Int × Int → Option (Int × Hp)) (h : Hp) (x : Int) (w : Nat) (hw : w ≤ L) (e : h 2000 11 = (w : Int)) : Md_part_b18_body kf k h 2000 x = some (x % 2, h) := by
  unfold Md_part_b18_body
  rw [cC_s SH2000' rfl, if_neg (fl_2 b hw e)]
theorem pa_hb (ro : ROk R o) (b : BOK B L) {kf : Hp × Int → Option (Int × Hp)} (k : Hp × Int × Int → Option (Int × Hp)) (h : Hp) (p : Nat) (x : Int) (P : PM h R o B L p dp) : (¬ (chP B L (nxP B L p) = 38 ∨ chP B L (nxP B L p) = 38) → ∃ z, (V2 x → z = x) ∧ Md_part_b18_body kf k h 2000 x = some (z, up h 2000 10 ((nxP B L p : Nat) : Int))) ∧ ((chP B L (nxP B L p) = 38 ∨ chP B L (nxP B L p) = 38) → ∃ G : Int → Int, (∀ y, V2 x → V2 y → G y = opV (chP B L (nxP B L p)) x y ∧ V2 (G y)) ∧ Md_part_b18_body kf k h 2000 x = cl (kf (up h 2000 10 ((nxP B L p + 1 : Nat) : Int), 2000)) (fun y h8 => k (h8, 2000, G y))) := by
  have cb := chP_b (p := nxP B L p) b
  have m38 := mc_x (x := 38) cb (by decide)
  unfold Md_part_b18_body
  rw [cC_s SH2000' rfl, if_pos (fl_1 P), Md_look_e ro b P, cl_s]
  refine ⟨fun c => ⟨x % 2, fun v => by rcases v with z | z <;> rw [z] <;> rfl, ?_⟩, fun c => ?_⟩
  · rw [if_neg (fun z => c (Or.inl (m38.mp z)))]
  · have c : chP B L (nxP B L p) = 38 := c.elim id id
    rw [if_pos (m38.mpr c), pu_s, up_at, up_up, c]
    refine ⟨fun y => if w32 x = 0 then 0 else if w32 y = 0 then 0 else 1, fun y hx hy => ?_, clc _ (fun y h8 => ?_)⟩
    · rcases hx with hx | hx <;> rcases hy with hy | hy <;> subst hx <;> subst hy <;> exact ⟨by decide, by unfold V2; decide⟩
    · dsimp only
      by_cases z : w32 x = 0
      · rw [if_pos z, if_pos z]
      · rw [if_neg z, if_neg z]
        by_cases z2 : w32 y = 0
        · rw [if_pos z2, if_pos z2]
        · rw [if_neg z2, if_neg z2]
theorem co_end (b : BOK B L) {kf : Hp × Int → Option (Int × Hp)} (k : Hp × Int × Int → Option (Int × Hp)) (h : Hp) (x : Int) (w : Nat) (hw : w ≤ L) (e : h 2000 11 = (w : Int)) : Md_condition_b7_body kf k h 2000 x = some (x % 2, h) := by
  unfold Md_condition_b7_body
  rw [cC_s SH2000' rfl, if_neg (fl_2 b hw e)]
theorem co_hb (ro : ROk R o) (b : BOK B L) {kf : Hp × Int → Option (Int × Hp)} (k : Hp × Int × Int → Option (Int × Hp)) (h : Hp) (p : Nat) (x : Int) (P : PM h R o B L p dp) : (¬ (chP B L (nxP B L p) = 124 ∨ chP B L (nxP B L p) = 124) → ∃ z, (V2 x → z = x) ∧ Md_condition_b7_body kf k h 2000 x = some (z, up h 2000 10 ((nxP B L p : Nat) : Int))) ∧ ((chP B L (nxP B L p) = 124 ∨ chP B L (nxP B L p) = 124) → ∃ G : Int → Int, (∀ y, V2 x → V2 y → G y = opV (chP B L (nxP B L p)) x y ∧ V2 (G y)) ∧ Md_condition_b7_body kf k h 2000 x = cl (Md_part kf (up h 2000 10 ((nxP B L p + 1 : Nat) : Int)) 2000 0 0) (fun y h8 => k (h8, 2000, G y))) := by
  have cb := chP_b (p := nxP B L p) b
  have m124 := mc_x (x := 124) cb (by decide)
  unfold Md_condition_b7_body
  rw [cC_s SH2000' rfl, if_pos (fl_1 P), Md_look_e ro b P, cl_s]
  refine ⟨fun c => ⟨x % 2, fun v => by rcases v with z | z <;> rw [z] <;> rfl, ?_⟩, fun c => ?_⟩
  · rw [if_neg (fun z => c (Or.inl (m124.mp z)))]
  · have c : chP B L (nxP B L p) = 124 := c.elim id id
    rw [if_pos (m124.mpr c), pu_s, up_at, up_up, c]
    refine ⟨fun y => if w32 x = 0 then (if w32 y = 0 then 0 else 1) else 1, fun y hx hy => ?_, clc _ (fun y h8 => ?_)⟩
    · rcases hx with hx | hx <;> rcases hy with hy | hy <;> subst hx <;> subst hy <;> exact ⟨by decide, by unfold V2; decide⟩
    · dsimp only
      by_cases z : w32 x = 0
      · rw [if_pos z, if_pos z]
        by_cases z2 : w32 y = 0
        · rw [if_pos z2, if_pos z2]
        · rw [if_neg z2, if_neg z2]
      · rw [if_neg z, if_neg z]
theorem pa_m (ro : ROk R o) (b : BOK B L) {kf : Hp × Int → Option (Int × Hp)} {U : Nat → Rs} (hU : MSp V2 R o B L dp U (fun h => kf (h, 2000))) {X : Option (Int × Hp)} {r0 : Rs} (W : wp X (MRs V2 R o B L dp p r0 h)) : wp (cl X (fun x h' => Md_part_b18 kf h' 2000 x)) (MRs V2 R o B L dp p (paP B L U r0) h) := by
  have L240 := b.1
  unfold paP
  refine wp_MR W ?_ ?_
  · intro x w h' e hw F e3
    rw [e, bnP_n]
    have e5 : Md_part_b18 kf h' 2000 x = some (x % 2, h') := by
      unfold Md_part_b18
      have : FU = 999999 + 1 := rfl
      rw [this, itr_s]
      exact pa_end b _ h' x w hw e3
    rw [e5]
    exact MR_0 F hw e3 rfl
  · intro x q y h' e F hx hq P2
    rw [e, bnP_s]
    have key := rwm_it (V := V2) (dp := dp) (Bd := fun k s => Md_part_b18_body kf k s.1 s.2.1 s.2.2) ro b (s1 := 38) (s2 := 38) (by decide) (by decide) hU (fun k h x w hw e => ⟨x % 2, pa_end b k h x w hw e⟩) (fun k h p x P => pa_hb ro b k h p x P) (L + 1) FU q h' x y (by omega) (FU_gt (by omega)) hq F hx P2
    exact key
theorem part_U (ro : ROk R o) (b : BOK B L) {kf : Hp × Int → Option (Int × Hp)} {U : Nat → Rs} (hU : MSp V2 R o B L dp U (fun h => kf (h, 2000))) : MSp V2 R o B L dp (fun p => paP B L U (U p)) (fun h => Md_part kf h 2000 0 0) := by
  intro h p P
  show wp (Md_part kf h 2000 0 0) _
  unfold Md_part
  rw [if_pos (show w32 0 = 0 by decide), cC_s SH2000' rfl]
  exact pa_m ro b hU (hU h p P)
theorem co_m (ro : ROk R o) (b : BOK B L) {kf : Hp × Int → Option (Int × Hp)} {U : Nat → Rs} (hU : MSp V2 R o B L dp U (fun h => kf (h, 2000))) {h0 : Hp} {a1 a2 : Int} {r0 : Rs} (W : wp (Md_part kf h 2000 a1 a2) (MRs V2 R o B L dp p (paP B L U r0) h0)) : wp (Md_condition kf h 2000 a1 a2) (MRs V2 R o B L dp p (coP B L U r0) h0) := by
  have L240 := b.1
  unfold Md_condition coP
  rw [cC_s SH2000' rfl]
  refine wp_MR W ?_ ?_
  · intro x w h' e hw F e3
    rw [e, bnP_n]
    have e5 : Md_condition_b7 kf h' 2000 x = some (x % 2, h') := by
      unfold Md_condition_b7
      have : FU = 999999 + 1 := rfl
      rw [this, itr_s]
      exact co_end b _ h' x w hw e3
    rw [e5]
    exact MR_0 F hw e3 rfl
  · intro x q y h' e F hx hq P2
    rw [e, bnP_s]
    have key := rwm_it (V := V2) (dp := dp) (Bd := fun k s => Md_condition_b7_body kf k s.1 s.2.1 s.2.2) ro b (s1 := 124) (s2 := 124) (by decide) (by decide) (part_U ro b hU) (fun k h x w hw e => ⟨x % 2, co_end b k h x w hw e⟩) (fun k h p x P => co_hb ro b k h p x P) (L + 1) FU q h' x y (by omega) (FU_gt (by omega)) hq F hx P2
    exact key
end M
end PureLawO
