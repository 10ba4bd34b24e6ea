section PureLawN
/-! the reference reads atoms, terms, sums -/
section M
variable {V : Int → Prop} {B : Nat → Int} {L p q : Nat} {h h1 : Hp} {R o dp : Int} {r : Rs}
theorem w8_at (ro : ROk R o) (b : BOK B L) (P : PM h R o B L p dp) (hp : p < L) (c : isD (chP B L p)) {α : Type} (A : Option α) : cX 101 R (o + (p : Int)) A = A ∧ rd h R (w32 (o + (p : Int))) = chP B L p := by
  obtain ⟨n, sr, n1, o0, o1, r20, rn⟩ := ro.sh
  have L240 := b.1
  have hb := b.2 p hp
  have e : chP B L p = B p := if_pos hp
  rw [e] at c ⊢
  refine ⟨cX_s sr (by omega) (by omega) n1, ?_⟩
  rw [rd_ge r20, w32_n (by omega) (by omega), P.2.2.2.2.2.2.2 p hp]
  exact (w8_i hb.1 hb.2).2.2.2 c
/-- digits, one by one -/
theorem dg_it (ro : ROk R o) (b : BOK B L) {kf : Hp × Int → Option (Int × Hp)} : ∀ (d M i q : Nat) (v : Int) (h : Hp), i + d = 4 → d < M → PM h R o B L q dp → itr (fun k s => Md_atom_b90_body kf k s.1 s.2.1 s.2.2.1 s.2.2.2) M (h, 2000, v, (i : Int)) = ifD (chP B L (dgP B L d q v).1) (some (0, up (up h 2000 10 (((dgP B L d q v).1 : Nat) : Int)) 2000 11 (((dgP B L d q v).1 : Nat) : Int))) (some ((dgP B L d q v).2, up h 2000 10 (((dgP B L d q v).1 : Nat) : Int))) := by
  intro d
  induction d with
  | zero =>
    intro M i q v h hi hM P
    obtain ⟨M, rfl⟩ : ∃ M', M = M' + 1 := ⟨M - 1, by omega⟩
    rw [itr_s]
    show Md_atom_b90_body kf _ h 2000 v (i : Int) = ifD (chP B L q) (some (0, up (up h 2000 10 (q : Int)) 2000 11 (q : Int))) (some (v, up h 2000 10 (q : Int)))
    unfold Md_atom_b90_body
    rw [cC_s SH2000' rfl, Md_isD ro b P, cl_s, up_id P.2.2.2.1]
    by_cases c : isD (chP B L q)
    · rw [ifD_1 c, ifD_1 c, if_neg (show ¬ w32 1 = 0 by decide), if_pos (fl_1 P), if_pos (by rw [w32_n (by omega) (by omega)]; omega), Md_fails_1 P, cl_s]
    · rw [ifD_0 c, ifD_0 c, if_pos (show w32 0 = 0 by decide)]
  | succ d ih =>
    intro M i q v h hi hM P
    obtain ⟨M, rfl⟩ : ∃ M', M = M' + 1 := ⟨M - 1, by omega⟩
    have cb := chP_b (p := q) b
    rw [itr_s]
    show Md_atom_b90_body kf _ h 2000 v (i : Int) = ifD (chP B L (ifD (chP B L q) (dgP B L d (q + 1) (10 * v + chP B L q - 48)) (q, v)).1) (some (0, up (up h 2000 10 (((ifD (chP B L q) (dgP B L d (q + 1) (10 * v + chP B L q - 48)) (q, v)).1 : Nat) : Int)) 2000 11 (((ifD (chP B L q) (dgP B L d (q + 1) (10 * v + chP B L q - 48)) (q, v)).1 : Nat) : Int))) (some ((ifD (chP B L q) (dgP B L d (q + 1) (10 * v + chP B L q - 48)) (q, v)).2, up h 2000 10 (((ifD (chP B L q) (dgP B L d (q + 1) (10 * v + chP B L q - 48)) (q, v)).1 : Nat) : Int)))
    unfold Md_atom_b90_body
    rw [cC_s SH2000' rfl, Md_isD ro b P, cl_s]
    by_cases c : isD (chP B L q)
    · have hl := chP_lt (B := B) (L := L) (p := q) (fun e => by rw [e] at c; have := c.1; omega)
      have P2 : PM (up h 2000 10 ((q : Int) + 1)) R o B L (q + 1) dp := P.mv ro (q := q + 1) (by omega)
      have wa := fun (A : Option (Int × Hp)) => w8_at ro b P hl c A
      rw [ifD_1 c, ifD_1 c, if_neg (show ¬ w32 1 = 0 by decide), if_pos (fl_1 P), if_neg (by rw [w32_n (by omega) (by omega)]; omega), P.1, P.2.1, P.2.2.2.1, (wa _).1, (wa none).2, bd_s, pu_s]
      have key := ih M (i + 1) (q + 1) (10 * v + chP B L q - 48) _ (by omega) (by omega) P2
      rw [up_up] at key
      exact key
    · rw [ifD_0 c, ifD_0 c, if_pos (show w32 0 = 0 by decide), ifD_0 c, up_id P.2.2.2.1]
/-- deeper: a reader one level down, or none -/
def InM (R o : Int) (B : Nat → Int) (L : Nat) (inn : Option (Nat → Rs)) (kf : Hp × Int → Option (Int × Hp)) (dp : Int) : Prop := 0 ≤ dp ∧ ((inn = none ∧ dp = 6) ∨ ∃ X, inn = some X ∧ dp < 6 ∧ MSp V1 R o B L (dp + 1) X (fun h => kf (h, 2000)))
theorem cls_m (ro : ROk R o) (b : BOK B L) {x v : Int} (hx : 1 ≤ x ∧ x ≤ 127) {y : Pl} (F : On MTm h h1) (hv : EBv (envM h) → v = y.2 (envM h) ∧ V v) (hp : p < q) (P : PM h1 R o B L q (dp + 1)) (e : r = clsP B L x q y) (G : Int → Hp → Option (Int × Hp)) (hG : ∀ h, G 1 h = some (v, up h 2000 12 (h 2000 12 - 1))) (hG0 : ∀ h, ∃ z, G 0 h = some (z, h)) : wp (cl (Md_takes h1 2000 x) G) (MRs V R o B L dp p r h) := by
  obtain ⟨n1, n2, n3⟩ := nxP_r (B := B) P.2.2.2.2.1
  unfold clsP at e
  rcases takes_1 ro b P hx with ⟨c1, e1⟩ | ⟨c1, e1⟩
  · have hl := chP_l c1 hx.1
    rw [if_pos c1] at e
    have P2 := P.mv ro (q := nxP B L q + 1) (by omega)
    have ed : dp + 1 - 1 = dp := by omega
    rw [e1, cl_s, hG, P2.2.2.2.2.2.2.1, ed]
    exact MR_1 ((F.tr mt_a).tr mt_d) hv (by omega) (P2.sd ro) e
  · rw [if_neg c1] at e
    obtain ⟨z, hz⟩ := hG0 (up (up h1 2000 10 ((nxP B L q : Nat) : Int)) 2000 11 ((nxP B L q : Nat) : Int))
    rw [e1, cl_s, hz]
    exact MR_0 ((F.tr mt_a).tr mt_f) n2 up_at e
theorem nu_m (ro : ROk R o) (b : BOK B L) {kf : Hp × Int → Option (Int × Hp)} (F : On MTm h h1) (hp : p ≤ q) (P : PM h1 R o B L q dp) (c : isD (chP B L q)) (e : r = nuP B L q) : wp (Md_atom_b90 kf h1 2000 0 0) (MRs V1 R o B L dp p r h) := by
  have L240 := b.1
  have key := dg_it (kf := kf) ro b 4 FU 0 q 0 h1 (by omega) (FU_gt (by omega)) P
  have hl := chP_lt (B := B) (L := L) (p := q) (fun e => by rw [e] at c; have := c.1; omega)
  have r4 : q + 1 ≤ (dgP B L 4 q 0).1 := by
    show q + 1 ≤ (ifD (chP B L q) (dgP B L 3 (q + 1) (10 * 0 + chP B L q - 48)) (q, 0)).1
    rw [ifD_1 c]
    exact (dgP_r b 3 _ _ (by omega)).1
  obtain ⟨r1, r2, r3⟩ := dgP_r b 4 q 0 P.2.2.2.2.1
  obtain ⟨v0, v1⟩ := dgP_v (B := B) (L := L) 4 q 0 1 (by omega) (by omega)
  have T4 : (1 : Int) * 10 ^ 4 = 10000 := by decide
  rw [T4] at v1
  unfold nuP nuG at e
  rw [ifD_1 c] at e
  have e0 : Md_atom_b90 kf h1 2000 0 0 = _ := key
  rw [e0]
  generalize dgP B L 4 q 0 = dd at *
  obtain ⟨q', v⟩ := dd
  dsimp only at *
  by_cases c2 : isD (chP B L q')
  · rw [ifD_1 c2] at e ⊢
    exact MR_0 ((F.tr mt_a).tr mt_f) r2 up_at e
  · rw [ifD_0 c2] at e ⊢
    rw [if_neg (by omega), bnP_s] at e
    exact MR_1 (y := ([1000 + v], fun _ => v)) (F.tr mt_a) (fun _ => ⟨rfl, by unfold V1; omega⟩) (by omega) (P.mv ro r2) e
theorem atom_m (ro : ROk R o) (b : BOK B L) {inn : Option (Nat → Rs)} {kf : Hp × Int → Option (Int × Hp)} (I : InM R o B L inn kf dp) : MSp V1 R o B L dp (atP B L inn) (fun h => Md_atom kf h 2000) := by
  intro h p P
  obtain ⟨d0, I⟩ := I
  obtain ⟨n1, n2, n3⟩ := nxP_r (B := B) P.2.2.2.2.1
  have cb := chP_b (p := nxP B L p) b
  have P2 := P.mv ro n2
  show wp (Md_atom kf h 2000) _
  unfold Md_atom atP
  rw [cC_s SH2000' rfl, Md_look_e ro b P, cl_s, among12 cb, cl_s]
  by_cases c1 : chP B L (nxP B L p) = 91
  · have hl := chP_l c1 (by decide)
    rw [if_pos c1, c1, if_pos (show ltI 91 < 0 by decide), if_pos (show w32 0 = 0 by decide), if_pos (show w32 (mcV 91) = 91 by decide)]
    unfold atI
    rcases I with ⟨rfl, rfl⟩ | ⟨X, rfl, d6, S⟩
    · rw [goes_0 P2, cl_s, if_pos (show w32 0 = 0 by decide)]
      exact MR_0 (mt_a.tr mt_f) n2 up_at rfl
    · have P3 : PM (up (up (up h 2000 10 ((nxP B L p : Nat) : Int)) 2000 12 (dp + 1)) 2000 10 ((nxP B L p : Int) + 1)) R o B L (nxP B L p + 1) (dp + 1) := (P2.sd ro).mv ro (q := nxP B L p + 1) (by omega)
      have F3 : On MTm h (up (up (up h 2000 10 ((nxP B L p : Nat) : Int)) 2000 12 (dp + 1)) 2000 10 ((nxP B L p : Int) + 1)) := (mt_a.tr mt_d).tr mt_a
      rw [goes_1 P2 d0 d6, cl_s, if_neg (show ¬ w32 1 = 0 by decide)]
      refine wp_MR (S _ _ P3) ?_ ?_
      · intro x w h' e hw F e3
        rw [takes_2 b hw e3, cl_s, if_pos (show w32 0 = 0 by decide)]
        exact MR_0 (F3.tr F) hw e3 (by show bnP (X (nxP B L p + 1)) _ = _; rw [e]; rfl)
      · intro x q y h' e F hx hq P4
        rw [env_on F3] at hx
        exact cls_m ro b (v := x) (x := 93) ⟨by decide, by decide⟩ (F3.tr F) hx (by omega) P4 (by show bnP (X (nxP B L p + 1)) _ = _; rw [e]; rfl) _ (fun h => by rw [if_neg (show ¬ w32 1 = 0 by decide), pu_s]) (fun h => ⟨0, by rw [if_pos (show w32 0 = 0 by decide)]⟩)
  · rw [if_neg c1]
    have hm : ¬ w32 (mcV (chP B L (nxP B L p))) = 91 := fun z => c1 ((mc_x cb (by decide)).mp z)
    by_cases c2 : isD (chP B L (nxP B L p))
    · have l0 : ltI (chP B L (nxP B L p)) < 0 := by
        have : ∀ n : Nat, n < 58 → 48 ≤ n → ltI (n : Int) < 0 := by decide +kernel
        obtain ⟨c3, c4⟩ := c2
        obtain ⟨n, hn⟩ : ∃ n : Nat, chP B L (nxP B L p) = (n : Int) := ⟨(chP B L (nxP B L p)).toNat, by omega⟩
        rw [hn] at c3 c4 ⊢
        exact this n (by omega) (by omega)
      rw [if_pos l0, if_pos (show w32 0 = 0 by decide), if_neg hm, Md_isD ro b P2, cl_s, ifD_1 c2, if_neg (show ¬ w32 1 = 0 by decide), ifD_1 c2]
      exact nu_m ro b mt_a n1 P2 c2 rfl
    · rw [ifD_0 c2]
      by_cases c3 : ltI (chP B L (nxP B L p)) < 0
      · rw [if_pos c3, if_pos c3, if_pos (show w32 0 = 0 by decide), if_neg hm, Md_isD ro b P2, cl_s, ifD_0 c2, if_pos (show w32 0 = 0 by decide), Md_fails_1 P2, cl_s]
        have F4 : On MTm h (up (up h 2000 10 ((nxP B L p : Nat) : Int)) 2000 11 ((nxP B L p : Nat) : Int)) := mt_a.tr mt_f
        have e0 : Md_atom_b90 kf (up (up h 2000 10 ((nxP B L p : Nat) : Int)) 2000 11 ((nxP B L p : Nat) : Int)) 2000 0 0 = some (0, up (up h 2000 10 ((nxP B L p : Nat) : Int)) 2000 11 ((nxP B L p : Nat) : Int)) := by
          have hd : Md_isDigit (up (up h 2000 10 ((nxP B L p : Nat) : Int)) 2000 11 ((nxP B L p : Nat) : Int)) 2000 = some (0, up (up h 2000 10 ((nxP B L p : Nat) : Int)) 2000 11 ((nxP B L p : Nat) : Int)) := by
            obtain ⟨nn, sr, nn1, o0, o1, r20, rn⟩ := ro.sh
            have k := Md_isD ro b P2
            rw [ifD_0 c2] at k
            unfold Md_isDigit at k ⊢
            rw [cC_s SH2000' rfl] at k ⊢
            rw [up_off (i := 11) (by decide), up_off (i := 11) (by decide), up_off (i := 11) (by decide), up_off (i := 11) (by decide), P2.1, P2.2.1, P2.2.2.1, P2.2.2.2.1] at *
            have L240 := b.1
            by_cases z : w32 ((nxP B L p : Nat) : Int) < w32 (L : Int)
            · rw [w32_n (by omega) (by omega), w32_n (by omega) (by omega)] at z
              have hb := b.2 (nxP B L p) (by omega)
              have ec : chP B L (nxP B L p) = B (nxP B L p) := if_pos (by omega)
              rw [ec] at c2
              have w8p := (w8_i hb.1 hb.2).2.2.1
              rw [if_pos (by rw [w32_n (by omega) (by omega), w32_n (by omega) (by omega)]; omega), cX_s sr (by omega) (by omega) nn1, cX_s sr (by omega) (by omega) nn1, rd_ge r20, up_ne rn, w32_n (x := o + ((nxP B L p : Nat) : Int)) (by omega) (by omega), P2.2.2.2.2.2.2.2 (nxP B L p) (by omega)]
              rcases w8p.mpr c2 with z1 | z1
              · rw [if_pos z1]
              · by_cases z2 : w32 (w8 (B (nxP B L p))) < 48
                · rw [if_pos z2]
                · rw [if_neg z2, if_pos z1]
            · rw [if_neg z]
          unfold Md_atom_b90
          have : FU = 999999 + 1 := rfl
          rw [this, itr_s]
          show Md_atom_b90_body kf _ _ 2000 0 0 = _
          unfold Md_atom_b90_body
          rw [cC_s SH2000' rfl, hd, cl_s, if_pos (show w32 0 = 0 by decide)]
        rw [e0]
        exact MR_0 F4 n2 up_at rfl
      · have hl := chP_lt (B := B) (L := L) (p := nxP B L p) (fun z => c3 (by rw [z]; decide))
        obtain ⟨n, hn⟩ : ∃ n : Nat, chP B L (nxP B L p) = (n : Int) := ⟨(chP B L (nxP B L p)).toNat, by omega⟩
        obtain ⟨-, -, s3⟩ := sp12 n (by omega)
        rw [hn] at c3
        obtain ⟨e3, n128, l6⟩ := s3 (by omega)
        have n0 : ¬ (n : Int) = 0 := fun z => c3 (by rw [z]; decide)
        have em : mcV (n : Int) = (n : Int) := if_neg n0
        rw [hn, em, if_neg c3, if_neg c3, if_neg (show ¬ w32 1 = 0 by decide), pu_s, up_at, up_up, cX_s SH2004 (by omega) (by omega) (by omega), rd_ge (by decide), w32_n (x := (n : Int)) (by omega) (by omega)]
        refine MR_1 (y := ([500 + ltI (n : Int)], fun v => v (ltI (n : Int)))) mt_a (fun E => ?_) (by omega) (P.mv ro (q := nxP B L p + 1) (by omega)) rfl
        have ee : up h 2000 10 ((nxP B L p : Int) + 1) 2004 (n : Int) = envM h (ltI (n : Int)) := by
          rw [up_ne (by decide)]
          show h 2004 (n : Int) = h 2004 (lcI (ltI (n : Int)))
          rw [← e3]
        rw [ee]
        have := E (ltI (n : Int)) (by omega) l6
        exact ⟨rfl, by unfold V1; omega⟩
/-- a row of things with signs between, in the reference -/
theorem rwm_it (ro : ROk R o) (b : BOK B L) {Bd : (Hp × Int × Int → Option (Int × Hp)) → Hp × Int × Int → Option (Int × Hp)} {X : Nat → Rs} {T : Hp → Option (Int × Hp)} {s1 s2 : Int} (z1 : 1 ≤ s1) (z2 : 1 ≤ s2) (S : MSp V R o B L dp X T)
    (hend : ∀ (k : Hp × Int × Int → Option (Int × Hp)) (h : Hp) (x : Int) (w : Nat), w ≤ L → h 2000 11 = (w : Int) → ∃ z, Bd k (h, 2000, x) = some (z, h))
    (hb : ∀ (k : Hp × Int × Int → Option (Int × Hp)) (h : Hp) (p : Nat) (x : Int), PM h R o B L p dp → (¬ (chP B L (nxP B L p) = s1 ∨ chP B L (nxP B L p) = s2) → ∃ z, (V x → z = x) ∧ Bd k (h, 2000, x) = some (z, up h 2000 10 ((nxP B L p : Nat) : Int))) ∧ ((chP B L (nxP B L p) = s1 ∨ chP B L (nxP B L p) = s2) → ∃ G : Int → Int, (∀ y, V x → V y → G y = opV (chP B L (nxP B L p)) x y ∧ V (G y)) ∧ Bd k (h, 2000, x) = cl (T (up h 2000 10 ((nxP B L p + 1 : Nat) : Int))) (fun y h8 => k (h8, 2000, G y))))
    {h0 : Hp} {p0 : Nat} : ∀ (f M p : Nat) (h : Hp) (v : Int) (x : Pl), L < p + f → f < M → p0 < p → On MTm h0 h → (EBv (envM h0) → v = x.2 (envM h0) ∧ V v) → PM h R o B L p dp → wp (itr Bd M (h, 2000, v)) (MRs V R o B L dp p0 (rwL B L s1 s2 X f p x) h0) := by
  intro f
  induction f with
  | zero =>
    intro M p h v x h1 h2 h4 F hv P
    have := P.2.2.2.2.1
    omega
  | succ f ih =>
    intro M p h v x h1 h2 h4 F hv P
    obtain ⟨M, rfl⟩ : ∃ M', M = M' + 1 := ⟨M - 1, by omega⟩
    obtain ⟨n1, n2, n3⟩ := nxP_r (B := B) P.2.2.2.2.1
    obtain ⟨hb1, hb2⟩ := hb (itr Bd M) h p v P
    rw [itr_s]
    show wp _ (MRs V R o B L dp p0 (if chP B L (nxP B L p) = s1 ∨ chP B L (nxP B L p) = s2 then bnP (X (nxP B L p + 1)) (fun p' y => rwL B L s1 s2 X f p' (cbP (chP B L (nxP B L p)) x y)) else (nxP B L p, some x)) h0)
    by_cases c1 : chP B L (nxP B L p) = s1 ∨ chP B L (nxP B L p) = s2
    · have hl := chP_lt (B := B) (L := L) (p := nxP B L p) (by rcases c1 with e | e <;> omega)
      obtain ⟨G, hG, e0⟩ := hb2 c1
      rw [if_pos c1, e0]
      refine wp_MR (S _ _ (P.mv ro (q := nxP B L p + 1) (by omega))) ?_ ?_
      · intro y w h' e hw F2 e3
        rw [e, bnP_n]
        obtain ⟨M, rfl⟩ : ∃ M', M = M' + 1 := ⟨M - 1, by omega⟩
        obtain ⟨z, hz⟩ := hend (itr Bd M) h' (G y) w hw e3
        rw [itr_s, hz]
        exact MR_0 ((F.tr mt_a).tr F2) hw e3 rfl
      · intro y q z h' e F2 hy hq P2
        rw [e, bnP_s]
        have e7 : envM (up h 2000 10 ((nxP B L p + 1 : Nat) : Int)) = envM h0 := (env_on mt_a).trans (env_on F)
        rw [e7] at hy
        refine ih M q h' (G y) (cbP (chP B L (nxP B L p)) x z) (by omega) (by omega) (by omega) ((F.tr mt_a).tr F2) (fun E => ?_) P2
        obtain ⟨v1, v2⟩ := hv E
        obtain ⟨y1, y2⟩ := hy E
        obtain ⟨g1, g2⟩ := hG y v2 y2
        refine ⟨?_, g2⟩
        show _ = opV (chP B L (nxP B L p)) (x.2 (envM h0)) (z.2 (envM h0))
        rw [g1, v1, y1]
    · rw [if_neg c1]
      obtain ⟨z, hz, e0⟩ := hb1 c1
      rw [e0]
      refine MR_1 (F.tr mt_a) (fun E => ?_) (by omega) (P.mv ro n2) rfl
      obtain ⟨v1, v2⟩ := hv E
      rw [hz v2]
      exact ⟨v1, v2⟩
end M
end PureLawN
