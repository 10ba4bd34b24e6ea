section PureLawQ
/-! the reference reads units, clauses, a whole law -/
section M
variable {B : Nat → Int} {L p q : Nat} {h h1 : Hp} {R o dp : Int} {r : Rs}
def InN (R o : Int) (B : Nat → Int) (L : Nat) (nest : Option ((Nat → Rs) × (Nat → Rs))) (kf : Hp × Int → Option (Int × Hp)) (dp : Int) : Prop := 0 ≤ dp ∧ ((nest = none ∧ dp = 6) ∨ ∃ X, nest = some X ∧ dp < 6 ∧ MSp V2 R o B L (dp + 1) X.2 (fun h => kf (h, 2000)) ∧ MSp V2 R o B L (dp + 1) X.1 (fun h => Md_condition kf h 2000 0 0))
theorem unit_m (ro : ROk R o) (b : BOK B L) {S : Nat → Rs} (hS : MSp V1 R o B L dp S (fun h => Md_sum h 2000)) {nest : Option ((Nat → Rs) × (Nat → Rs))} {kf : Hp × Int → Option (Int × Hp)} (I : InN R o B L nest kf dp) : MSp V2 R o B L dp (unP B L S nest) (fun h => Md_unit_body kf h 2000) := by
  intro h p P
  show wp (Md_unit_body kf h 2000) _
  obtain ⟨d0, I⟩ := I
  obtain ⟨n1, n2, n3⟩ := nxP_r (B := B) P.2.2.2.2.1
  have cb := chP_b (p := nxP B L p) b
  have P2 := P.mv ro n2
  unfold Md_unit_body unP
  rw [cC_s SH2000' rfl, Md_look_e ro b P, cl_s]
  by_cases c1 : chP B L (nxP B L p) = 33
  · have hl := chP_l c1 (by decide)
    rw [if_pos ((mc_x cb (by decide)).mpr c1), if_pos c1]
    unfold neU
    rcases I with ⟨rfl, rfl⟩ | ⟨X, rfl, d6, S1, S2⟩
    · rw [goes_0 P2, cl_s, if_pos (show w32 0 = 0 by decide)]
      exact MR_0 (mt_a.tr mt_f) n2 up_at rfl
    · have P3 : PM (up (up (up h 2000 10 ((nxP B L p : Nat) : Int)) 2000 12 (dp + 1)) 2000 10 ((nxP B L p : Int) + 1)) R o B L (nxP B L p + 1) (dp + 1) := (P2.sd ro).mv ro (q := nxP B L p + 1) (by omega)
      have F3 : On MTm h (up (up (up h 2000 10 ((nxP B L p : Nat) : Int)) 2000 12 (dp + 1)) 2000 10 ((nxP B L p : Int) + 1)) := (mt_a.tr mt_d).tr mt_a
      rw [goes_1 P2 d0 d6, cl_s, if_neg (show ¬ w32 1 = 0 by decide)]
      refine wp_MR (S1 _ _ P3) ?_ ?_
      · intro x w h' e hw F e3
        rw [pu_s]
        have G : ∀ z : Int, wp (some (z, up h' 2000 12 (h' 2000 12 - 1))) (MRs V2 R o B L dp p (bnP (X.2 (nxP B L p + 1)) (fun p' x => (p', some (x.1 ++ [33], fun v => 1 - x.2 v)))) h) := fun z => MR_0 ((F3.tr F).tr mt_d) hw (by rw [up_off (by decide)]; exact e3) (by rw [e]; rfl)
        exact wp_if (fun _ => G _) (fun _ => G _)
      · intro x q y h' e F hx hq P4
        rw [env_on F3] at hx
        have ed : dp + 1 - 1 = dp := by omega
        rw [pu_s, P4.2.2.2.2.2.2.1, ed]
        have G : ∀ z : Int, (V2 x → z = 1 - x) → wp (some (z, up h' 2000 12 dp)) (MRs V2 R o B L dp p (bnP (X.2 (nxP B L p + 1)) (fun p' x => (p', some (x.1 ++ [33], fun v => 1 - x.2 v)))) h) := fun z hz => MR_1 (y := (y.1 ++ [33], fun v => 1 - y.2 v)) ((F3.tr F).tr mt_d) (fun E => by
          obtain ⟨v1, v2⟩ := hx E
          rw [hz v2]
          refine ⟨?_, ?_⟩
          · show 1 - x = 1 - y.2 (envM h)
            rw [v1]
          · unfold V2 at v2 ⊢
            omega) (by omega) (P4.sd ro) (by rw [e]; rfl)
        refine wp_if (fun z => G _ (fun v => ?_)) (fun z => G _ (fun v => ?_))
        · rcases v with v | v
          · omega
          · subst v; exact absurd z (by decide)
        · rcases v with v | v
          · subst v; exact absurd (show w32 0 = 0 by decide) z
          · omega
  · rw [if_neg (fun z => c1 ((mc_x cb (by decide)).mp z)), if_neg c1]
    by_cases c2 : chP B L (nxP B L p) = 40
    · have hl := chP_l c2 (by decide)
      rw [if_pos ((mc_x cb (by decide)).mpr c2), if_pos c2]
      unfold neC
      rcases I with ⟨rfl, rfl⟩ | ⟨X, rfl, d6, S1, S2⟩
      · rw [goes_0 P2, cl_s, if_pos (show w32 0 = 0 by decide)]
        exact MR_0 (mt_a.tr mt_f) n2 up_at rfl
      · have P3 : PM (up (up (up h 2000 10 ((nxP B L p : Nat) : Int)) 2000 12 (dp + 1)) 2000 10 ((nxP B L p : Int) + 1)) R o B L (nxP B L p + 1) (dp + 1) := (P2.sd ro).mv ro (q := nxP B L p + 1) (by omega)
        have F3 : On MTm h (up (up (up h 2000 10 ((nxP B L p : Nat) : Int)) 2000 12 (dp + 1)) 2000 10 ((nxP B L p : Int) + 1)) := (mt_a.tr mt_d).tr mt_a
        rw [goes_1 P2 d0 d6, cl_s, if_neg (show ¬ w32 1 = 0 by decide)]
        refine wp_MR (S2 _ _ P3) ?_ ?_
        · intro x w h' e hw F e3
          rw [takes_2 b hw e3, cl_s, if_pos (show w32 0 = 0 by decide)]
          exact MR_0 (F3.tr F) hw e3 (by dsimp only; rw [e]; rfl)
        · intro x q y h' e F hx hq P4
          rw [env_on F3] at hx
          refine cls_m ro b (v := x % 2) (x := 41) (y := y) ⟨by decide, by decide⟩ (F3.tr F) (fun E => ?_) (by omega) P4 (by dsimp only; rw [e]; rfl) _ (fun h => by rw [if_neg (show ¬ w32 1 = 0 by decide), pu_s]) (fun h => ⟨0, by rw [if_pos (show w32 0 = 0 by decide)]⟩)
          obtain ⟨v1, v2⟩ := hx E
          have e2 : x % 2 = x := by rcases v2 with z | z <;> rw [z] <;> rfl
          rw [e2]
          exact ⟨v1, v2⟩
    · rw [if_neg (fun z => c2 ((mc_x cb (by decide)).mp z)), if_neg c2]
      have W : wp (Md_compares (up h 2000 10 ((nxP B L p : Nat) : Int)) 2000 0 0) (MRs V2 R o B L dp p (bnP (S (nxP B L p)) (cmP B L S)) h) := by
        unfold Md_compares
        rw [if_pos (show w32 0 = 0 by decide), cC_s SH2000' rfl]
        refine wp_MR (hS _ _ P2) ?_ ?_
        · intro x w h' e hw F e3
          rw [e, bnP_n]
          unfold Md_compares_b12
          rw [cC_s SH2000' rfl, if_neg (fl_2 b hw e3)]
          exact MR_0 (mt_a.tr F) hw e3 rfl
        · intro x q y h' e F hx hq P4
          rw [env_on mt_a] at hx
          rw [e, bnP_s]
          exact b12_m ro b hS (mt_a.tr F) hx (by omega) P4 rfl
      refine wp_MR W ?_ ?_
      · intro x w h' e hw F e3
        exact MR_0 F hw e3 e
      · intro x q y h' e F hx hq P4
        refine MR_1 F (fun E => ?_) hq P4 e
        obtain ⟨v1, v2⟩ := hx E
        have e2 : x % 2 = x := by rcases v2 with z | z <;> rw [z] <;> rfl
        rw [e2]
        exact ⟨v1, v2⟩
theorem unA_m (ro : ROk R o) (b : BOK B L) : ∀ (e N : Nat), e < N → e ≤ 6 → MSp V2 R o B L (6 - (e : Int)) (unA B L e) (fun h => itr (fun k s => Md_unit_body k s.1 s.2) N (h, 2000))
  | 0, N, hN, he => by
    obtain ⟨N, rfl⟩ : ∃ N', N = N' + 1 := ⟨N - 1, by omega⟩
    exact unit_m ro b (suR_m ro b (e := 0) he) (nest := none) (kf := itr (fun k s => Md_unit_body k s.1 s.2) N) (dp := 6 - ((0 : Nat) : Int)) ⟨by omega, Or.inl ⟨rfl, by omega⟩⟩
  | e + 1, N, hN, he => by
    obtain ⟨N, rfl⟩ : ∃ N', N = N' + 1 := ⟨N - 1, by omega⟩
    have ih := unA_m ro b e N (by omega) (by omega)
    have e6 : 6 - ((e + 1 : Nat) : Int) + 1 = 6 - (e : Int) := by omega
    refine unit_m ro b (suR_m ro b (e := e + 1) he) (nest := some (fun p => coP B L (unA B L e) (unA B L e p), unA B L e)) (kf := itr (fun k s => Md_unit_body k s.1 s.2) N) (dp := 6 - ((e + 1 : Nat) : Int)) ⟨by omega, Or.inr ⟨_, rfl, by omega, ?_, ?_⟩⟩
    · rw [e6]
      exact ih
    · rw [e6]
      intro h p P
      exact co_m ro b ih (part_U ro b ih h p P)
theorem unR_m (ro : ROk R o) (b : BOK B L) : MSp V2 R o B L 0 (unA B L 6) (fun h => Md_unit_f (h, 2000)) := unA_m ro b 6 RF (by have := RF_12; omega) (by omega)
theorem su6_m (ro : ROk R o) (b : BOK B L) : MSp V1 R o B L 0 (suA B L 6) (fun h => Md_sum h 2000) := suR_m ro b (e := 6) (by omega)
/-! clauses -/
def MTc (x k : Int) : Prop := x = 2000 ∧ (k = 10 ∨ k = 11 ∨ k = 12 ∨ k = 14 ∨ k = 17)
theorem mtc {h h' : Hp} (F : On MTm h h') : On MTc h h' := F.w (fun x k q => ⟨q.1, by have := q.2; omega⟩)
theorem envc (F : On MTc h h1) : envM h1 = envM h := funext fun i => F 2004 _ (fun q => by have := q.1; omega)
def FA (h : Hp) (acc : Option Int) : Prop := (acc = none ∧ h 2000 17 = 0 ∧ h 2000 14 = 0) ∨ ∃ z, acc = some z ∧ h 2000 17 = 1 ∧ h 2000 14 = z
theorem FA.on {acc : Option Int} (A : FA h acc) (F : On MTm h h1) : FA h1 acc := by
  unfold FA at A ⊢
  rw [F 2000 17 (fun q => by have := q.2; omega), F 2000 14 (fun q => by have := q.2; omega)]
  exact A
def MCs (R o : Int) (B : Nat → Int) (L : Nat) (p : Nat) (t : Nat × Option Pw) (acc : Option Int) (h : Hp) (x : Int) (h' : Hp) : Prop := On MTc h h' ∧ ((∃ w : Nat, t = (w, none) ∧ w ≤ L ∧ h' 2000 11 = (w : Int)) ∨ ∃ (q : Nat) (y : Pw), t = (q, some y) ∧ p < q ∧ PM h' R o B L q 0 ∧ (EBv (envM h) → FA h acc → FA h' (orV acc (y.2 (envM h)))))
variable {t : Nat × Option Pw} {acc : Option Int}
theorem Mc_0 {x : Int} {w : Nat} (F : On MTc h h1) (hw : w ≤ L) (e3 : h1 2000 11 = (w : Int)) (e : t = (w, none)) : wp (some (x, h1)) (MCs R o B L p t acc h) := wp_i ⟨F, Or.inl ⟨w, e, hw, e3⟩⟩
/-- a clause's end: whether it is the first that holds -/
theorem b134_m (ro : ROk R o) (F : On MTm h h1) (h13 : h 2000 13 = 121) (hp : p < q) (P : PM h1 R o B L q 0) {y : Pw} (e : t = (q, some y)) {c v : Int} (hv : EBv (envM h) → y.2 (envM h) = if c = 0 then none else some v) (hc : EBv (envM h) → V2 c) : wp (Md_clause_b134 h1 2000 (mcV 121) c v) (MCs R o B L p t acc h) := by
  obtain ⟨nn, sr, nn1, o0, o1, r20, rn⟩ := ro.sh
  have e13 : h1 2000 13 = 121 := by rw [F 2000 13 (fun q => by have := q.2; omega)]; exact h13
  unfold Md_clause_b134
  rw [cC_s SH2000' rfl, if_pos (fl_1 P), e13]
  by_cases c17 : w32 (h1 2000 17) = 0
  · rw [if_pos c17, if_pos (show w32 (mcV 121) = w32 121 by decide)]
    by_cases cc : w32 c = 0
    · rw [if_pos cc]
      refine wp_i ⟨mtc F, Or.inr ⟨q, y, e, hp, P, fun E A => ?_⟩⟩
      have A2 := A.on F
      have c0 : c = 0 := by
        rcases hc E with z | z
        · exact z
        · subst z; exact absurd cc (by decide)
      rw [hv E, if_pos c0]
      rcases A2 with ⟨rfl, q2⟩ | ⟨z, rfl, q2, q3⟩
      · exact Or.inl ⟨rfl, q2⟩
      · exact Or.inr ⟨z, rfl, q2, q3⟩
    · rw [if_neg cc, pu_s, pu_s]
      refine wp_i ⟨(mtc F).tr ((On.up ⟨rfl, by omega⟩).tr (On.up ⟨rfl, by omega⟩)), Or.inr ⟨q, y, e, hp, ?_, fun E A => ?_⟩⟩
      · obtain ⟨p1, p2, p3, p4, p5, p6, p7, p8⟩ := P
        exact ⟨by rw [up_off (by decide), up_off (by decide)]; exact p1, by rw [up_off (by decide), up_off (by decide)]; exact p2, by rw [up_off (by decide), up_off (by decide)]; exact p3, by rw [up_off (by decide), up_off (by decide)]; exact p4, p5, by rw [up_off (by decide), up_off (by decide)]; exact p6, by rw [up_off (by decide), up_off (by decide)]; exact p7, fun k hk => by rw [up_ne rn, up_ne rn]; exact p8 k hk⟩
      · have A2 := A.on F
        have c1 : ¬ c = 0 := fun z => cc (by rw [z]; decide)
        rw [hv E, if_neg c1]
        rcases A2 with ⟨rfl, q2⟩ | ⟨z, rfl, q2, q3⟩
        · exact Or.inr ⟨v, rfl, by rw [up_off (by decide), up_at], up_at⟩
        · rw [q2] at c17
          exact absurd c17 (by decide)
  · rw [if_neg c17]
    refine wp_i ⟨mtc F, Or.inr ⟨q, y, e, hp, P, fun E A => ?_⟩⟩
    have A2 := A.on F
    rcases A2 with ⟨rfl, q2, -⟩ | ⟨z, rfl, q2, q3⟩
    · rw [q2] at c17
      exact absurd (show w32 0 = 0 by decide) c17
    · exact Or.inr ⟨z, rfl, q2, q3⟩
theorem b134_0 {c v x1 : Int} {w : Nat} (b : BOK B L) (F : On MTm h h1) (hw : w ≤ L) (e3 : h1 2000 11 = (w : Int)) (e : t = (w, none)) : wp (Md_clause_b134 h1 2000 x1 c v) (MCs R o B L p t acc h) := by
  unfold Md_clause_b134
  rw [cC_s SH2000' rfl, if_neg (fl_2 b hw e3)]
  exact Mc_0 (mtc F) hw e3 e
/-- behind a clause's condition -/
theorem cl2_m (ro : ROk R o) (b : BOK B L) {r0 : Rs} {X : Option (Int × Hp)} (h13 : h 2000 13 = 121) (W : wp X (MRs V2 R o B L 0 p r0 h)) (e : t = cl2 B L r0) : wp (cl X (fun r19 h20 => cl (Md_takes h20 2000 63) (fun r22 h23 => if w32 r22 = 0 then some (0, h23) else cl (Md_sum h23 2000) (fun r25 h26 => Md_clause_b134 h26 2000 (mcV 121) r19 r25)))) (MCs R o B L p t acc h) := by
  unfold cl2 at e
  refine wp_MR W ?_ ?_
  · intro x w h' e2 hw F e3
    rw [e2, bnP_n] at e
    rw [takes_2 b hw e3, cl_s, if_pos (show w32 0 = 0 by decide)]
    exact Mc_0 (mtc F) hw e3 e
  · intro x q y h' e2 F hx hq P
    rw [e2, bnP_s] at e
    obtain ⟨n1, n2, n3⟩ := nxP_r (B := B) P.2.2.2.2.1
    rcases takes_1 ro b P (x := 63) ⟨by decide, by decide⟩ with ⟨c1, e1⟩ | ⟨c1, e1⟩
    · have hl := chP_l c1 (by decide)
      rw [if_pos c1] at e
      rw [e1, cl_s, if_neg (show ¬ w32 1 = 0 by decide)]
      refine wp_MR (su6_m ro b _ _ (P.mv ro (q := nxP B L q + 1) (by omega))) ?_ ?_
      · intro x2 w h2 e4 hw F2 e5
        rw [e4, bnP_n] at e
        exact b134_0 b ((F.tr mt_a).tr F2) hw e5 e
      · intro x2 q2 y2 h2 e4 F2 hx2 hq2 P2
        rw [e4, bnP_s] at e
        have e7 : envM (up h' 2000 10 ((nxP B L q + 1 : Nat) : Int)) = envM h := (env_on mt_a).trans (env_on F)
        rw [e7] at hx2
        refine b134_m ro ((F.tr mt_a).tr F2) h13 (by omega) P2 e (fun E => ?_) (fun E => (hx E).2)
        show (if y.2 (envM h) = 0 then none else some (y2.2 (envM h))) = if x = 0 then none else some x2
        rw [(hx E).1, (hx2 E).1]
    · rw [if_neg c1] at e
      rw [e1, cl_s, if_pos (show w32 0 = 0 by decide)]
      exact Mc_0 (mtc ((F.tr mt_a).tr mt_f)) n2 up_at e
theorem among11 {c : Int} (b : 0 ≤ c ∧ c ≤ 255) (h : Hp) : Md_isAmong h 11 (mcV c) = some (if c = 121 then 1 else 0, h) := by
  have hc : w32 (mcV c) = mcV c := by
    unfold mcV
    by_cases e : c = 0
    · rw [if_pos e]; decide
    · rw [if_neg e]; exact w32_n b.1 (by omega)
  have key := Md_isAmong_e (a := 1) (by omega) (c := mcV c) hc h
  have e1 : sch 11 0 = 121 := by decide +kernel
  have e2 : (sln 11).toNat = 1 := by decide +kernel
  have e3 : spF 11 (mcV c) 1 0 = if sch 11 ((0 : Nat) : Int) = mcV c then ((0 : Nat) : Int) else -1 := rfl
  have e4 : spF (10 + ((1 : Nat) : Int)) (mcV c) (sln (10 + ((1 : Nat) : Int))).toNat 0 = spF 11 (mcV c) 1 0 := by
    show spF 11 (mcV c) (sln 11).toNat 0 = _
    rw [e2]
  have e5 : sch 11 ((0 : Nat) : Int) = 121 := e1
  rw [e4, e3, e5] at key
  have key2 : Md_isAmong h 11 (mcV c) = some (if (if 121 = mcV c then ((0 : Nat) : Int) else -1) < 0 then 0 else 1, h) := key
  rw [key2]
  have e6 := mc_x (x := 121) b (by decide)
  rw [hc] at e6
  by_cases z : c = 121
  · rw [if_pos z, if_pos (e6.mpr z).symm, if_neg (by decide)]
  · have n0 : ¬ (121 = mcV c) := fun e => z (e6.mp e.symm)
    rw [if_neg z, if_neg n0, if_pos (show (-1 : Int) < 0 by decide)]
theorem clause_m (ro : ROk R o) (b : BOK B L) (P : PM h R o B L p 0) (h13 : h 2000 13 = 121) : wp (Md_clause h 2000) (MCs R o B L p (clP B L p) acc h) := by
  obtain ⟨n1, n2, n3⟩ := nxP_r (B := B) P.2.2.2.2.1
  have cb := chP_b (p := nxP B L p) b
  have P1 := P.mv ro n2
  unfold Md_clause clP
  rw [cC_s SH2000' rfl, Md_look_e ro b P, cl_s, among11 cb, cl_s]
  by_cases c1 : chP B L (nxP B L p) = 121
  · have hl := chP_l c1 (by decide)
    have P2 := P1.mv ro (q := nxP B L p + 1) (by omega)
    obtain ⟨m1, m2, m3⟩ := nxP_r (B := B) P2.2.2.2.2.1
    rw [if_pos c1, if_pos c1, if_neg (show ¬ w32 1 = 0 by decide), pu_s, up_at, c1]
    have eu : ((nxP B L p : Nat) : Int) + 1 = ((nxP B L p + 1 : Nat) : Int) := by omega
    rw [eu]
    rcases takes_1 ro b P2 (x := 58) ⟨by decide, by decide⟩ with ⟨c2, e2⟩ | ⟨c2, e2⟩
    · have hl2 := chP_l c2 (by decide)
      have P3 := P2.mv ro (q := nxP B L (nxP B L p + 1) + 1) (by omega)
      obtain ⟨k1, k2, k3⟩ := nxP_r (B := B) P3.2.2.2.2.1
      have P4 := P3.mv ro k2
      rw [if_pos c2, e2, cl_s, if_neg (show ¬ w32 1 = 0 by decide), Md_look_e ro b P3, cl_s]
      have F4 : On MTm h (up (up (up (up h 2000 10 ((nxP B L p : Nat) : Int)) 2000 10 ((nxP B L p + 1 : Nat) : Int)) 2000 10 ((nxP B L (nxP B L p + 1) + 1 : Nat) : Int)) 2000 10 ((nxP B L (nxP B L (nxP B L p + 1) + 1) : Nat) : Int)) := ((mt_a.tr mt_a).tr mt_a).tr mt_a
      have pk : p < nxP B L (nxP B L (nxP B L p + 1) + 1) := by omega
      generalize nxP B L (nxP B L (nxP B L p + 1) + 1) = q at *
      generalize up (up (up (up h 2000 10 ((nxP B L p : Nat) : Int)) 2000 10 ((nxP B L p + 1 : Nat) : Int)) 2000 10 ((nxP B L (nxP B L p + 1) + 1 : Nat) : Int)) 2000 10 (q : Int) = h4 at *
      have cq := chP_b (p := q) b
      have e13 : h4 2000 13 = 121 := by rw [F4 2000 13 (fun q => by have := q.2; omega)]; exact h13
      unfold cl1
      have none1 : wp (Md_clause_b64 h4 2000 (mcV 121)) (MCs R o B L p (cl2 B L (coP B L (unA B L 6) (unA B L 6 q))) acc h) := by
        unfold Md_clause_b64
        rw [cC_s SH2000' rfl]
        refine cl2_m ro b h13 (r0 := coP B L (unA B L 6) (unA B L 6 q)) ?_ rfl
        have W := co_m ro b (unR_m ro b) (part_U ro b (unR_m ro b) h4 q P4)
        refine wp_m W ?_
        rintro x h' ⟨F, ⟨w, e, hw, e3⟩ | ⟨q2, y, e, hx, hq, P5⟩⟩
        · exact ⟨F4.tr F, Or.inl ⟨w, e, hw, e3⟩⟩
        · rw [env_on F4] at hx
          exact ⟨F4.tr F, Or.inr ⟨q2, y, e, hx, by omega, P5⟩⟩
      by_cases d1 : chP B L q = 33
      · rw [if_pos ((mc_x cq (by decide)).mpr d1), if_pos (Or.inl d1)]
        exact none1
      · rw [if_neg (fun z => d1 ((mc_x cq (by decide)).mp z))]
        by_cases d2 : chP B L q = 40
        · rw [if_pos ((mc_x cq (by decide)).mpr d2), if_pos (Or.inr d2)]
          exact none1
        · rw [if_neg (fun z => d2 ((mc_x cq (by decide)).mp z)), if_neg (fun e => e.elim d1 d2)]
          refine wp_MR (su6_m ro b _ _ P4) ?_ ?_
          · intro x w h' e hw F e3
            rw [e, bnP_n, if_neg (fl_2 b hw e3)]
            exact b134_0 b (F4.tr F) hw e3 rfl
          · intro x q2 y h' e F hx hq P5
            rw [env_on F4] at hx
            obtain ⟨j1, j2, j3⟩ := nxP_r (B := B) P5.2.2.2.2.1
            have cb2 := chP_b (p := nxP B L q2) b
            have P6 := P5.mv ro j2
            rw [e, bnP_s, if_pos (fl_1 P5), Md_look_e ro b P5, cl_s]
            by_cases d3 : isC (chP B L (nxP B L q2))
            · rw [sign1 cb2 d3, cl_s, if_neg (show ¬ w32 1 = 0 by decide), ifC_1 d3]
              have ec : cmP B L (suA B L 6) q2 y = cmP B L (suA B L 6) (nxP B L q2) y := by
                unfold cmP
                rw [nxP_nx P5.2.2.2.2.1]
              rw [ec]
              refine cl2_m ro b h13 (r0 := coP B L (unA B L 6) (cmP B L (suA B L 6) (nxP B L q2) y)) ?_ rfl
              refine co_m ro b (unR_m ro b) ?_
              unfold Md_part
              rw [if_neg (show ¬ w32 1 = 0 by decide), cC_s SH2000' rfl]
              refine pa_m ro b (unR_m ro b) ?_
              unfold Md_compares
              rw [if_neg (show ¬ w32 1 = 0 by decide)]
              exact b12_m ro b (su6_m ro b) ((F4.tr F).tr mt_a) hx (by omega) P6 rfl
            · rw [sign0 cb2 d3, cl_s, if_pos (show w32 0 = 0 by decide), ifC_0 d3]
              refine b134_m ro ((F4.tr F).tr mt_a) h13 (by omega) P6 rfl (fun E => ?_) (fun E => Or.inr rfl)
              show some (y.2 (envM h)) = _
              rw [if_neg (by decide), (hx E).1]
    · rw [if_neg c2, e2, cl_s, if_pos (show w32 0 = 0 by decide)]
      exact Mc_0 (mtc (((mt_a.tr mt_a).tr mt_a).tr mt_f)) m2 up_at rfl
  · rw [if_neg c1, if_neg c1, if_pos (show w32 0 = 0 by decide), Md_fails_1 P1, cl_s]
    exact Mc_0 (mtc (mt_a.tr mt_f)) n2 up_at rfl
theorem orV_a (x y z : Option Int) : orV (orV x y) z = orV x (orV y z) := by
  cases x with
  | none => rfl
  | some a => rfl
theorem goT_it (ro : ROk R o) (b : BOK B L) {h0 : Hp} : ∀ (f M p : Nat) (h : Hp) (acc : Option Int), L < p + f → f < M → On MTc h0 h → PM h R o B L p 0 → h 2000 13 = 121 → (EBv (envM h0) → FA h acc) → wp (cl (Md_clause h 2000) (fun _ h10 => itr (fun k s => Md_goThrough_b32_body k s.1 s.2) M (h10, 2000))) (fun _ h' => On MTc h0 h' ∧ ((∃ w : Nat, laL B L f p = (w, none) ∧ w ≤ L ∧ h' 2000 11 = (w : Int)) ∨ ∃ (q : Nat) (y : Pw), laL B L f p = (q, some y) ∧ h' 2000 11 = -1 ∧ (EBv (envM h0) → FA h' (orV acc (y.2 (envM h0)))))) := by
  intro f
  induction f with
  | zero =>
    intro M p h acc h1 h2 F P e13 A
    have := P.2.2.2.2.1
    omega
  | succ f ih =>
    intro M p h acc h1 h2 F P e13 A
    have el : laL B L (f + 1) p = bnP (clP B L p) (fun p' x => if chP B L (nxP B L p') = 0 then (nxP B L p', some x) else if chP B L (nxP B L p') = 59 then bnP (laL B L f (nxP B L p' + 1)) (fun p2 y => (p2, some (x.1 ++ y.1, fun v => orV (x.2 v) (y.2 v)))) else (nxP B L p', none)) := rfl
    rw [el]
    obtain ⟨M, rfl⟩ : ∃ M', M = M' + 1 := ⟨M - 1, by omega⟩
    refine wp_cl (clause_m ro b P e13 (acc := acc)) ?_
    rintro x h' ⟨F2, ⟨w, e, hw, e3⟩ | ⟨q, y, e, hq, P2, A2⟩⟩
    · rw [e, bnP_n, itr_s]
      show wp (Md_goThrough_b32_body _ h' 2000) _
      unfold Md_goThrough_b32_body Md_goThrough_b66
      rw [cC_s SH2000' rfl, if_neg (fl_2 b hw e3), cC_s SH2000' rfl, if_neg (fl_2 b hw e3)]
      exact wp_i ⟨F.tr F2, Or.inl ⟨w, rfl, hw, e3⟩⟩
    · rw [envc F] at A2
      obtain ⟨j1, j2, j3⟩ := nxP_r (B := B) P2.2.2.2.2.1
      have cb := chP_b (p := nxP B L q) b
      have P3 := P2.mv ro j2
      rw [e, bnP_s, itr_s]
      show wp (Md_goThrough_b32_body _ h' 2000) _
      unfold Md_goThrough_b32_body
      rw [cC_s SH2000' rfl, if_pos (fl_1 P2), Md_look_e ro b P2, cl_s]
      by_cases d1 : chP B L (nxP B L q) = 59
      · have hl := chP_l d1 (by decide)
        rw [if_pos ((mc_x cb (by decide)).mpr d1), pu_s, up_at, up_up, if_neg (by omega), if_pos d1]
        have e13' : (up h' 2000 10 ((nxP B L q : Int) + 1)) 2000 13 = 121 := by rw [up_off (by decide), F2 2000 13 (fun q => by have := q.2; omega)]; exact e13
        have FM : On MTm h' (up h' 2000 10 ((nxP B L q : Int) + 1)) := mt_a
        have W := ih M (nxP B L q + 1) (up h' 2000 10 ((nxP B L q : Int) + 1)) (orV acc (y.2 (envM h0))) (by omega) (by omega) ((F.tr F2).tr (mtc FM)) (P2.mv ro (q := nxP B L q + 1) (by omega)) e13' (fun E => (A2 E (A E)).on FM)
        refine wp_m W ?_
        rintro x2 h2 ⟨F5, ⟨w, e5, hw, e6⟩ | ⟨q2, z, e5, e6, A5⟩⟩
        · exact ⟨F5, Or.inl ⟨w, by rw [e5]; rfl, hw, e6⟩⟩
        · refine ⟨F5, Or.inr ⟨q2, (y.1 ++ z.1, fun v => orV (y.2 v) (z.2 v)), by rw [e5]; rfl, e6, fun E => ?_⟩⟩
          have := A5 E
          rw [orV_a] at this
          exact this
      · rw [if_neg (fun z => d1 ((mc_x cb (by decide)).mp z))]
        have lk := Md_look_e ro b P3
        rw [nxP_nx P2.2.2.2.2.1, up_up] at lk
        unfold Md_goThrough_b66
        rw [cC_s SH2000' rfl, if_pos (fl_1 P3), lk, cl_s, if_neg d1]
        have FM : On MTm h' (up h' 2000 10 ((nxP B L q : Nat) : Int)) := mt_a
        by_cases d2 : chP B L (nxP B L q) = 0
        · rw [if_pos ((mc_0 cb).mpr d2), if_pos d2]
          exact wp_i ⟨(F.tr F2).tr (mtc FM), Or.inr ⟨_, y, rfl, P3.2.2.2.2.2.1, fun E => (A2 E (A E)).on FM⟩⟩
        · rw [if_neg (fun z => d2 ((mc_0 cb).mp z)), if_neg d2, Md_fails_1 P3, cl_s]
          exact wp_i ⟨((F.tr F2).tr (mtc FM)).tr (mtc mt_f), Or.inl ⟨_, rfl, j2, up_at⟩⟩
def GTm (x k : Int) : Prop := x = 2000 ∧ (k = 5 ∨ (8 ≤ k ∧ k < 15) ∨ k = 17)
/-- a law gone through by the reference -/
theorem goThrough_e (ro : ROk R o) (b : BOK B L) (t : ∀ k : Nat, k < L → h R (o + (k : Int)) = w8 (B k)) : ∃ (x : Int) (h' : Hp), Md_goThrough h 2000 R o (L : Int) = some (x, h') ∧ On GTm h h' ∧ ((∃ w : Nat, laP B L = (w, none) ∧ w ≤ L ∧ h' 2000 11 = (w : Int)) ∨ ∃ (q : Nat) (y : Pw), laP B L = (q, some y) ∧ h' 2000 11 = -1 ∧ (EBv (envM h) → h' 2000 14 = (y.2 (envM h)).getD 0)) := by
  obtain ⟨nn, sr, nn1, o0, o1, r20, rn⟩ := ro.sh
  have L240 := b.1
  have W : wp (Md_goThrough h 2000 R o (L : Int)) (fun x h' => On GTm h h' ∧ ((∃ w : Nat, laP B L = (w, none) ∧ w ≤ L ∧ h' 2000 11 = (w : Int)) ∨ ∃ (q : Nat) (y : Pw), laP B L = (q, some y) ∧ h' 2000 11 = -1 ∧ (EBv (envM h) → h' 2000 14 = (y.2 (envM h)).getD 0))) := by
    unfold Md_goThrough Md_starts Md_goThrough_b32
    rw [cC_s SH2000' rfl, cC_s SH2000' rfl, pu_s, pu_s, pu_s, pu_s, pu_s, cl_s, pu_s, pu_s, pu_s, pu_s]
    generalize hh : up (up (up (up (up (up (up (up (up h 2000 5 R) 2000 8 o) 2000 9 (L : Int)) 2000 10 0) 2000 11 (-1)) 2000 13 121) 2000 12 0) 2000 17 0) 2000 14 0 = h2
    have F : On GTm h h2 := by
      rw [← hh]
      exact ((((((((On.up ⟨rfl, by omega⟩).tr (On.up ⟨rfl, by omega⟩)).tr (On.up ⟨rfl, by omega⟩)).tr (On.up ⟨rfl, by omega⟩)).tr (On.up ⟨rfl, by omega⟩)).tr (On.up ⟨rfl, by omega⟩)).tr (On.up ⟨rfl, by omega⟩)).tr (On.up ⟨rfl, by omega⟩)).tr (On.up ⟨rfl, by omega⟩)
    have P : PM h2 R o B L 0 0 := by
      rw [← hh]
      refine ⟨?_, ?_, ?_, ?_, by omega, ?_, ?_, fun k hk => ?_⟩
      · rw [up_off (by decide), up_off (by decide), up_off (by decide), up_off (by decide), up_off (by decide), up_off (by decide), up_off (by decide), up_off (by decide), up_at]
      · rw [up_off (by decide), up_off (by decide), up_off (by decide), up_off (by decide), up_off (by decide), up_off (by decide), up_off (by decide), up_at]
      · rw [up_off (by decide), up_off (by decide), up_off (by decide), up_off (by decide), up_off (by decide), up_off (by decide), up_at]
      · rw [up_off (by decide), up_off (by decide), up_off (by decide), up_off (by decide), up_off (by decide), up_at]; rfl
      · rw [up_off (by decide), up_off (by decide), up_off (by decide), up_off (by decide), up_at]
      · rw [up_off (by decide), up_off (by decide), up_at]
      · rw [up_ne rn, up_ne rn, up_ne rn, up_ne rn, up_ne rn, up_ne rn, up_ne rn, up_ne rn, up_ne rn]
        exact t k hk
    have e13 : h2 2000 13 = 121 := by
      rw [← hh, up_off (by decide), up_off (by decide), up_off (by decide), up_at]
    have A : FA h2 none := Or.inl ⟨rfl, by rw [← hh, up_off (by decide), up_at], by rw [← hh, up_at]⟩
    have ee : envM h2 = envM h := funext fun i => F 2004 _ (fun q => by have := q.1; omega)
    refine wp_m (goT_it ro b (L + 1) FU 0 h2 none (by omega) (FU_gt (by omega)) On.rf P e13 (fun _ => A)) ?_
    rintro x h' ⟨F5, ⟨w, e5, hw, e6⟩ | ⟨q2, z, e5, e6, A5⟩⟩
    · exact ⟨F.tr (F5.w (fun x k q => ⟨q.1, by have := q.2; omega⟩)), Or.inl ⟨w, e5, hw, e6⟩⟩
    · rw [ee] at A5
      refine ⟨F.tr (F5.w (fun x k q => ⟨q.1, by have := q.2; omega⟩)), Or.inr ⟨q2, z, e5, e6, fun E => ?_⟩⟩
      have e7 : orV none (z.2 (envM h)) = z.2 (envM h) := rfl
      rcases A5 E with ⟨z1, -, z3⟩ | ⟨v, z1, -, z3⟩
      · rw [e7] at z1
        rw [z1, z3]
        rfl
      · rw [e7] at z1
        rw [z1, z3]
        rfl
  obtain ⟨x, h', e, q⟩ := W
  exact ⟨x, h', e, q⟩
end M
end PureLawQ
