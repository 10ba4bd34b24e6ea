section PurePerform
/-! PERFORM: a session's steps as acts -/
section C
variable {h : Hp} {n W lc sc fst acts : Nat} {f ru pd wd : Int → Int} {ly : Nat → Pw} {k : Int}
theorem stS_1 {t x y : Int} (e : t = 1) : stS n W ru pd wd f ly k t x y = (psR n (-1) f).1 := by
  unfold stS
  rw [if_neg (by omega), if_pos e]
/-- a step's offer and what the class then holds -/
theorem pf_o (X : Cx h n W lc sc ru pd wd ly k) (A : StA h 110 n f) {a : Int} {st : Sst} (iN : IsN a) (S : SsA h a st) (p1 : h 55 1 = (fst : Int)) (p2 : h 55 2 = (acts : Int)) (p4 : fst < 41) (p5 : acts ≤ 40) : ∃ h1, Ps_offer h 55 110 = some (0, h1) ∧ Fr (fun x => x = paA fst acts ∨ x = paA fst acts + 1 ∨ x = paA fst acts + 2 ∨ x = paA fst acts + 3) h h1 ∧ StA h1 (paA fst acts) n f ∧ Cx h1 n W lc sc ru pd wd ly k ∧ StA h1 110 n f ∧ SsA h1 a st ∧ h1 55 1 = (fst : Int) ∧ h1 55 2 = (acts : Int) := by
  obtain ⟨h1, e1, F1, S1⟩ := offer_e A p1 p2 p4 p5
  have b := paA_b fst acts
  have iN' := iN
  unfold IsN at iN'
  have F : On Tsl h h1 := F1.on (T := Tsl) (fun a q k => by unfold Tsl; omega)
  exact ⟨h1, e1, F1, S1, X.on (F.w (fun _ _ t => Or.inr (Or.inr t))), A.c (fun j _ _ => F 110 j (by unfold Tsl; omega)) (fun j j0 j1 => F.row (fun m => by unfold Tsl; omega)), S.on F (fun j => ⟨by unfold Tsl; omega, by unfold Tsl; omega⟩), by rw [F 55 1 (by unfold Tsl; omega)]; exact p1, by rw [F 55 2 (by unfold Tsl; omega)]; exact p2⟩
theorem pf_c (X : Cx h n W lc sc ru pd wd ly k) (n0 : 0 < n) (A : StA h 110 n f) (fb : FB W f) {a : Int} {st : Sst} (iN : IsN a) (S : SsA h a st) (sb : SsB st) (p1 : h 55 1 = (fst : Int)) (p2 : h 55 2 = (acts : Int)) (p4 : fst < 41) (p5 : acts ≤ 40) {i : Nat} (hi : i < st.1) {t x y : Int} (et : st.2 (3 * (i : Int) + 0) = t) (ex : st.2 (3 * (i : Int) + 1) = x) (ey : st.2 (3 * (i : Int) + 2) = y) (q : okS n W f t x y) : ∃ (h1 h' : Hp), (∀ K, Cc_perform_b25_body K h 20 a (i : Int) = K (h', 20, a, (i : Int) + 1)) ∧ Fr (fun x => x = paA fst acts ∨ x = paA fst acts + 1 ∨ x = paA fst acts + 2 ∨ x = paA fst acts + 3) h h1 ∧ StA h1 (paA fst acts) n f ∧ On (fun a j => Tac a j ∨ SC2 a j) h1 h' ∧ (∀ b : Int, 2000 ≤ b → h' b = h b) ∧ StA h' 110 n (stS n W ru pd wd f ly k t x y) ∧ h' 55 1 = ((if acts = 40 then (fst + 1) % 41 else fst : Nat) : Int) ∧ h' 55 2 = ((if acts = 40 then 40 else acts + 1 : Nat) : Int) ∧ (¬ t = 1 → ∀ v : Int, h' 61 v = h1 61 v) ∧ (t = 1 → ∃ v : Int, EN v (psC n (-1) f) (psR n (-1) f).2 (allD n (psR n (-1) f).1) ∧ ∀ z : Int, h' 61 z = if z = f 51 + 1 then v else h1 61 z) ∧ SsA h' a st := by
  obtain ⟨h1, e1, F1, S1, X1, A1, Sa1, y1, y2⟩ := pf_o X A iN S p1 p2 p4 p5
  have s16 := sb.1
  have n6 := A.2.2.2.1
  have b := paA_b fst acts
  have iN' := iN
  unfold IsN at iN'
  have tb : (0 ≤ st.2 (3 * (i : Int) + 0) ∧ st.2 (3 * (i : Int) + 0) ≤ 3) ∧ (-1 ≤ st.2 (3 * (i : Int) + 1) ∧ st.2 (3 * (i : Int) + 1) ≤ 9) ∧ (-1 ≤ st.2 (3 * (i : Int) + 2) ∧ st.2 (3 * (i : Int) + 2) ≤ 9) := sb.2 i hi
  have kk := stS_k (k := k) (ly := ly) X.1 A.2.2.2 fb q
  obtain ⟨h2, e2, F2, A2, w2⟩ := c_step1 X1 n0 A1 fb iN Sa1 sb hi (by rw [et, ex, ey]; exact q)
  rw [et] at w2 tb
  rw [et, ex, ey] at A2
  obtain ⟨h3, e3, F3, z1, z2⟩ := keep_e2 (h := h2) (fst := fst) (acts := acts) (by rw [F2 55 1 (by unfold InS WC; omega)]; exact y1) (by rw [F2 55 2 (by unfold InS WC; omega)]; exact y2) p4 p5
  have A3 : StA h3 110 n (stS n W ru pd wd f ly k t x y) := A2.c (fun j _ _ => F3 110 j (by omega)) (fun j j0 j1 => F3.row (fun m => by omega))
  have Sa2 : SsA h2 a st := Sa1.on F2 (fun j => ⟨by unfold InS WC; omega, by unfold InS WC; omega⟩)
  have Sa3 : SsA h3 a st := Sa2.on F3 (fun j => ⟨by omega, by omega⟩)
  have pe := part_e iN Sa3 s16 hi (j := 0) (by decide) (by decide)
  rw [et] at pe
  have T3 : On (fun a j => Tac a j ∨ SC2 a j) h1 h3 := (F2.w (fun a j u => u.elim (fun v => Or.inl (by unfold InS at v; unfold Tac; omega)) (fun v => Or.inr (Or.inl (wx_sc v))))).tr (F3.w (fun a j u => Or.inl (by unfold Tac; omega)))
  have H3 : ∀ c : Int, 2000 ≤ c → h3 c = h c := fun c c0 => by
    funext j
    rw [F3 c j (by omega), F2 c j (by unfold InS WC; omega), F1 c (by omega)]
  have r61 : ∀ v : Int, h3 61 v = h1 61 v := fun v => by rw [F3 61 v (by omega), F2 61 v (by unfold InS WC; omega)]
  by_cases c : t = 1
  · obtain ⟨x9, x10⟩ := w2 c
    have pc := psC_b (bed := -1) (f := f) n6
    obtain ⟨B, hB, B64⟩ := psB_b (bed := -1) (f := f) n6
    have k51 := kk.2.1 c
    have f51 := fb.2.2
    have g51 := kk.1.2.2
    obtain ⟨v, e4, en⟩ := write_e (s := psC n (-1) f) (b := (psR n (-1) f).2) A3 g51 ((F3 110 9 (by omega)).trans x9) ((F3 110 10 (by omega)).trans x10) ⟨pc.1, by omega⟩ (by rw [hB]; omega)
    rw [k51] at e4
    rw [stS_1 c] at en
    refine ⟨h1, up h3 61 (f 51 + 1) v, fun K => ?_, F1, S1, T3.tr (On.up (Or.inl (by unfold Tac; omega))), fun d d0 => by rw [up_off_row (by omega)]; exact H3 d d0, A3.c (fun _ _ _ => up_ne (by decide) _) (fun j j0 j1 => up_off_row (by omega)), by rw [up_ne (by decide)]; exact z1, by rw [up_ne (by decide)]; exact z2, fun u => absurd c u, fun _ => ⟨v, en, fun z => ?_⟩, Sa3.on (On.up (T := fun a k => a = 61) rfl) (fun j => ⟨by omega, by omega⟩)⟩
    · unfold Cc_perform_b25_body
      rw [cC_s (IsN_sh iN).1 rfl, S.1, w32_n (x := (i : Int)) (by omega) (by omega), w32_n (x := (st.1 : Int)) (by omega) (by omega), if_pos (by omega), cC_s SH20' rfl, cC_s SH55 rfl, e1, cl_s, e2, cl_s, if_neg wn1, e3, cl_s, pe, cl_s, w32_n (x := t) (by omega) (by omega), if_pos c, cC_s SH60 rfl, e4, cl_s]
    · by_cases u : z = f 51 + 1
      · rw [if_pos u, u, up_at]
      · rw [if_neg u, up_off u, r61]
  · refine ⟨h1, h3, fun K => ?_, F1, S1, T3, H3, A3, z1, z2, fun _ v => r61 v, fun u => absurd u c, Sa3⟩
    unfold Cc_perform_b25_body
    rw [cC_s (IsN_sh iN).1 rfl, S.1, w32_n (x := (i : Int)) (by omega) (by omega), w32_n (x := (st.1 : Int)) (by omega) (by omega), if_pos (by omega), cC_s SH20' rfl, cC_s SH55 rfl, e1, cl_s, e2, cl_s, if_neg wn1, e3, cl_s, pe, cl_s, w32_n (x := t) (by omega) (by omega), if_neg c]
/-- the reference's hand -/
theorem pf_m (X : Cx h n W lc sc ru pd wd ly k) (M : StM h 2032 n f) (Mm : MmI h lc ly) (fb : FB W f) (p42 : h 2000 42 = (acts : Int)) (p5 : acts ≤ 40) (l52 : h 2032 52 = min 60 (f 51)) {a1 : Int} {st : Sst} (sb : SsB st) (q0 : 0 ≤ a1) (q1 : a1 < 5) (e24 : ∀ j : Int, 0 ≤ j → j < 3 * (st.1 : Int) → h 2024 (48 * a1 + j) = st.2 j) (e25 : h 2025 a1 = (st.1 : Int)) {i : Nat} (hi : i < st.1) {t x y : Int} (et : st.2 (3 * (i : Int) + 0) = t) (ex : st.2 (3 * (i : Int) + 1) = x) (ey : st.2 (3 * (i : Int) + 2) = y) (q : okS n W f t x y) : ∃ h', (∀ K, Md_perform_b24_body K h 2000 a1 (i : Int) = K (h', 2000, a1, (i : Int) + 1)) ∧ On (fun a j => Tac a j ∨ SC2 a j) h h' ∧ (∀ b : Int, b < 2000 → h' b = h b) ∧ (∀ j, h' 2024 j = h 2024 j ∧ h' 2025 j = h 2025 j) ∧ StM h' 2032 n (stS n W ru pd wd f ly k t x y) ∧ MmI h' lc ly ∧ h' 2000 42 = ((if acts = 40 then 40 else acts + 1 : Nat) : Int) ∧ (acts < 40 → (∀ k : Int, k < 233 * (acts : Int) → h' 2041 k = h 2041 k) ∧ ∀ k : Int, 0 ≤ k → k < 233 → h' 2041 (233 * (acts : Int) + k) = h 2032 k) ∧ (acts = 40 → (∀ x : Int, 0 ≤ x → x < 9087 → h' 2041 x = h 2041 (x + 233)) ∧ ∀ k : Int, 0 ≤ k → k < 233 → h' 2041 (9087 + k) = h 2032 k) ∧ (¬ t = 1 → ∀ v : Int, 52 ≤ v → h' 2032 v = h 2032 v) ∧ (t = 1 → ∀ nt nt' : Int → Int, LG nt (h 2032) (f 51) → EN (nt' (f 51 + 1)) (psC n (-1) f) (psR n (-1) f).2 (allD n (psR n (-1) f).1) → (∀ i : Int, i ≤ f 51 → nt' i = nt i) → LG nt' (h' 2032) (f 51 + 1)) := by
  have s16 := sb.1
  have f51 := fb.2.2
  have tb : (0 ≤ st.2 (3 * (i : Int) + 0) ∧ st.2 (3 * (i : Int) + 0) ≤ 3) ∧ (-1 ≤ st.2 (3 * (i : Int) + 1) ∧ st.2 (3 * (i : Int) + 1) ≤ 9) ∧ (-1 ≤ st.2 (3 * (i : Int) + 2) ∧ st.2 (3 * (i : Int) + 2) ≤ 9) := sb.2 i hi
  rw [et, ex, ey] at tb
  have eT : 3 * (16 * a1 + (i : Int)) = 48 * a1 + (3 * (i : Int) + 0) := by omega
  have eT1 : 48 * a1 + (3 * (i : Int) + 0) + 1 = 48 * a1 + (3 * (i : Int) + 1) := by omega
  have eT2 : 48 * a1 + (3 * (i : Int) + 0) + 2 = 48 * a1 + (3 * (i : Int) + 2) := by omega
  have m0 := e24 (3 * (i : Int) + 0) (by omega) (by omega)
  have m1 := e24 (3 * (i : Int) + 1) (by omega) (by omega)
  have m2 := e24 (3 * (i : Int) + 2) (by omega) (by omega)
  rw [et] at m0
  rw [← eT1, ex] at m1
  rw [← eT2, ey] at m2
  have xc := (m_can X M fb m0 m1 m2 (by omega) (by omega) tb).1 q
  obtain ⟨h1, e1, F1, y42, r41, s41⟩ := remember_e (h := h) (acts := acts) p42 p5
  have X1 : Cx h1 n W lc sc ru pd wd ly k := X.on (F1.w (fun a j u => Or.inl (by unfold Tac; omega)))
  have M1 : StM h1 2032 n f := ⟨M.1, by rw [F1 2000 26 (by omega)]; exact M.2.1, by rw [mR_e (h := h) (fun k _ _ => F1 2032 k (by omega))]; exact M.2.2.1, M.2.2.2⟩
  have Mm1 : MmI h1 lc ly := MmI.e Mm (F1.e (fun a j u c => by unfold MmC at c; omega))
  obtain ⟨h2, e2, F2, M2, Mm2, l0, l1⟩ := m_go X1 M1 Mm1 fb (by rw [F1 2032 52 (by omega), l52]; omega) (by rw [F1 2024 _ (by omega)]; exact m0) (by rw [F1 2024 _ (by omega)]; exact m1) (by rw [F1 2024 _ (by omega)]; exact m2) (by omega) (by omega) q tb
  have w32 : ∀ j : Int, h1 2032 j = h 2032 j := fun j => F1 2032 j (by omega)
  have k41 : ∀ x : Int, h2 2041 x = h1 2041 x := fun x => F2 2041 x (by unfold Tgs MW; omega)
  refine ⟨h2, fun K => ?_, ?_, fun b b0 => ?_, fun j => ?_, M2, Mm2, ?_, ?_, ?_, fun u v v0 => ?_, fun u nt nt' lg en kk => lg_step (h := h1) (nt := nt) (lg.c (fun _ _ _ _ => rfl) (fun k _ => w32 k)) (by omega) (l1 u) en kk⟩
  · unfold Md_perform_b24_body
    rw [cC_s SH2000' rfl, cX_s SH2025 q0 (by omega) (by decide), rd_ge (by decide), w32_n (x := a1) q0 (by omega), e25, w32_n (x := (i : Int)) (by omega) (by omega), w32_n (x := (st.1 : Int)) (by omega) (by omega), if_pos (by omega), eT, xc, cl_s, if_neg wn1, e1, cl_s, e2, cl_s]
  · refine (F1.w (fun a j u => Or.inl (by unfold Tac; omega))).tr (F2.w (fun a j u => ?_))
    unfold Tgs MW at u
    unfold SC2
    rcases u with u | u | u | u | u | u | u
    · exact Or.inl (by unfold Tac; omega)
    · exact Or.inl (by unfold Tac; omega)
    · exact Or.inl (by unfold Tac; omega)
    · exact Or.inr (Or.inl (by unfold SCA; omega))
    · exact Or.inr (Or.inl (by unfold SCA; omega))
    · exact Or.inr (Or.inr (Or.inl u))
    · exact Or.inr (Or.inr (Or.inr u))
  · funext j
    rw [F2 b j (by unfold Tgs MW; omega), F1 b j (by omega)]
  · exact ⟨by rw [F2 2024 j (by unfold Tgs MW; omega), F1 2024 j (by omega)], by rw [F2 2025 j (by unfold Tgs MW; omega), F1 2025 j (by omega)]⟩
  · rw [F2 2000 42 (by unfold Tgs MW; omega)]; exact y42
  · intro u
    obtain ⟨t1, t2⟩ := r41 u
    exact ⟨fun k hk => by rw [k41, t1 k hk], fun k k0 k1 => by rw [k41, t2 k k0 k1]⟩
  · intro u
    obtain ⟨t1, t2⟩ := s41 u
    exact ⟨fun x x0 x1 => by rw [k41, t1 x x0 x1], fun k k0 k1 => by rw [k41, t2 k k0 k1]⟩
  · rw [l0 u v v0, w32]
end C
section Q
variable {n W lc sc : Nat} {ru pd wd : Int → Int} {ly : Nat → Pw} {k sn : Int}
theorem perfs (n0 : 0 < n) {a a1 : Int} {st : Sst} (iN : IsN a) (sb : SsB st) (q0 : 0 ≤ a1) (q1 : a1 < 5) : ∀ (m i : Nat) (h : Hp) (f : Int → Int) (fst acts : Nat), i + m = st.1 → StA h 110 n f → FB W f → Cx h n W lc sc ru pd wd ly k → SsA h a st → h 55 1 = (fst : Int) → h 55 2 = (acts : Int) → fst < 41 → acts ≤ 40 → ∀ N, m < N → ∃ (h' : Hp) (r : Int), itr (fun k s => Cc_perform_b25_body k s.1 s.2.1 s.2.2.1 s.2.2.2) N (h, 20, a, (i : Int)) = some (r, h') ∧ (∀ b : Int, 2000 ≤ b → h' b = h b) ∧ On (fun a j => Tac a j ∨ SC2 a j ∨ Tsl a j) h h' ∧ ∀ g : Hp, IvP (mx h g) n W lc sc ru pd wd f ly k sn → Cx g n W lc sc ru pd wd ly k → (∀ j : Int, 0 ≤ j → j < 3 * (st.1 : Int) → g 2024 (48 * a1 + j) = st.2 j) → g 2025 a1 = (st.1 : Int) → ∀ N', m < N' → ∃ (g' : Hp) (f' : Int → Int), itr (fun k s => Md_perform_b24_body k s.1 s.2.1 s.2.2.1 s.2.2.2) N' (g, 2000, a1, (i : Int)) = some (r, g') ∧ (∀ b : Int, b < 2000 → g' b = g b) ∧ IvP (mx h' g') n W lc sc ru pd wd f' ly k sn := by
  have s16 := sb.1
  intro m
  induction m with
  | zero =>
    intro i h f fst acts im A fb X S p1 p2 p4 p5 N hN
    obtain ⟨N, rfl⟩ : ∃ N' : Nat, N = N' + 1 := ⟨N - 1, by omega⟩
    refine ⟨h, (i : Int), ?_, fun _ _ => rfl, On.rf, fun g I Xg e24 e25 N' hN' => ?_⟩
    · rw [itr_s]
      show Cc_perform_b25_body _ h 20 a (i : Int) = _
      unfold Cc_perform_b25_body
      rw [cC_s (IsN_sh iN).1 rfl, S.1, w32_n (x := (i : Int)) (by omega) (by omega), w32_n (x := (st.1 : Int)) (by omega) (by omega), if_neg (by omega), show (st.1 : Int) = (i : Int) by omega]
    · obtain ⟨N', rfl⟩ : ∃ N2 : Nat, N' = N2 + 1 := ⟨N' - 1, by omega⟩
      refine ⟨g, f, ?_, fun _ _ => rfl, I⟩
      rw [itr_s]
      show Md_perform_b24_body _ g 2000 a1 (i : Int) = _
      unfold Md_perform_b24_body
      rw [cC_s SH2000' rfl, cX_s SH2025 q0 (by omega) (by decide), rd_ge (by decide), w32_n (x := a1) q0 (by omega), e25, w32_n (x := (i : Int)) (by omega) (by omega), w32_n (x := (st.1 : Int)) (by omega) (by omega), if_neg (by omega)]
  | succ m ih =>
    intro i h f fst acts im A fb X S p1 p2 p4 p5 N hN
    obtain ⟨N, rfl⟩ : ∃ N' : Nat, N = N' + 1 := ⟨N - 1, by omega⟩
    have hi : i < st.1 := by omega
    have b := paA_b fst acts
    have tb : (0 ≤ st.2 (3 * (i : Int) + 0) ∧ st.2 (3 * (i : Int) + 0) ≤ 3) ∧ (-1 ≤ st.2 (3 * (i : Int) + 1) ∧ st.2 (3 * (i : Int) + 1) ≤ 9) ∧ (-1 ≤ st.2 (3 * (i : Int) + 2) ∧ st.2 (3 * (i : Int) + 2) ≤ 9) := sb.2 i hi
    have ei : ((i : Int) + 1) = ((i + 1 : Nat) : Int) := by omega
    by_cases q : okS n W f (st.2 (3 * (i : Int) + 0)) (st.2 (3 * (i : Int) + 1)) (st.2 (3 * (i : Int) + 2))
    · obtain ⟨h1, hh, e1, F1, S1, Fc, H1, A', y1, y2, w0, w1, S'⟩ := pf_c X n0 A fb iN S sb p1 p2 p4 p5 hi rfl rfl rfl q
      have kk := stS_k (k := k) (ly := ly) X.1 A.2.2.2 fb q
      have F : On (fun a j => Tac a j ∨ SC2 a j ∨ Tsl a j) h hh := (F1.on (T := fun a j => Tac a j ∨ SC2 a j ∨ Tsl a j) (fun a u j => Or.inr (Or.inr (by unfold Tsl; omega)))).tr (Fc.w (fun a j u => u.elim Or.inl (fun v => Or.inr (Or.inl v))))
      have f41 : (if acts = 40 then (fst + 1) % 41 else fst) < 41 := by
        by_cases c : acts = 40
        · rw [if_pos c]; exact Nat.mod_lt _ (by decide)
        · rw [if_neg c]; exact p4
      have a40 : (if acts = 40 then 40 else acts + 1) ≤ 40 := by
        by_cases c : acts = 40
        · rw [if_pos c]; exact Nat.le_refl _
        · rw [if_neg c]; omega
      obtain ⟨h', r, e2, G2, Fh, R⟩ := ih (i + 1) hh _ _ _ (by omega) A' kk.1 (X.on F) S' y1 y2 f41 a40 N (by omega)
      refine ⟨h', r, ?_, fun c c0 => by rw [G2 c c0, H1 c c0], F.tr Fh, fun g I Xg e24 e25 N' hN' => ?_⟩
      · rw [itr_s]
        show Cc_perform_b25_body _ h 20 a (i : Int) = _
        rw [e1, ei]
        exact e2
      · obtain ⟨N', rfl⟩ : ∃ N2 : Nat, N' = N2 + 1 := ⟨N' - 1, by omega⟩
        have M : StM g 2032 n f := sm_mx (by decide) I.2.2.2.2.2.2.2.1.2.1
        have Mm : MmI g lc ly := MmI.e I.2.2.2.2.1 (fun a j c => by
          unfold MmC at c
          rw [mx_hi (by omega)])
        have Lg : LG (h 61) (g 2032) (f 51) := by
          have t := I.2.2.2.2.2.2.2.2.1
          rw [mx_lo (by decide), mx_hi (by decide)] at t
          exact t
        obtain ⟨PF, Xp⟩ := pax_of I (fst := fst) (acts := acts) (by rw [mx_lo (by decide)]; exact p1) (by rw [mx_lo (by decide)]; exact p2)
        have p42 : g 2000 42 = (acts : Int) := by
          have t := Xp.2.2.1
          rw [mx_hi (by decide)] at t
          exact t
        obtain ⟨g1, e3, G3, J3, K3, M3, Mm3, z42, r41, s41, l0, l1⟩ := pf_m Xg M Mm fb p42 p5 Lg.1 sb q0 q1 e24 e25 hi rfl rfl rfl q
        have r61 : ∀ v : Int, h1 61 v = h 61 v := fun v => by rw [F1 61 (by omega)]
        have lg : LG (hh 61) (g1 2032) (stS n W ru pd wd f ly k (st.2 (3 * (i : Int) + 0)) (st.2 (3 * (i : Int) + 1)) (st.2 (3 * (i : Int) + 2)) 51) := by
          by_cases c : st.2 (3 * (i : Int) + 0) = 1
          · obtain ⟨v, en, w⟩ := w1 c
            rw [kk.2.1 c]
            exact l1 c (h 61) (hh 61) Lg (by rw [w, if_pos rfl]; exact en) (fun z hz => by rw [w, if_neg (by omega), r61])
          · rw [kk.2.2 c]
            exact Lg.c (fun z _ _ _ => by rw [w0 c, r61]) (fun z hz => l0 c z hz)
        have he : f 51 ≤ stS n W ru pd wd f ly k (st.2 (3 * (i : Int) + 0)) (st.2 (3 * (i : Int) + 1)) (st.2 (3 * (i : Int) + 2)) 51 := by
          by_cases c : st.2 (3 * (i : Int) + 0) = 1
          · rw [kk.2.1 c]; omega
          · rw [kk.2.2 c]; exact Int.le_refl _
        have r61' : ∀ z : Int, z ≤ f 51 → hh 61 z = h1 61 z := fun z hz => by
          by_cases c : st.2 (3 * (i : Int) + 0) = 1
          · obtain ⟨v, en, w⟩ := w1 c
            rw [w, if_neg (by omega)]
          · exact w0 c z
        have Mm1 : MmI (mx hh g1) lc ly := MmI.e Mm3 (fun a j c => by
          unfold MmC at c
          rw [mx_hi (by omega)])
        have I1 := act_mx I p1 p2 F1 S1 Fc G3 Mm1 A' M3 kk.1 lg y1 y2 z42 r41 s41 r61' he
        obtain ⟨g', f', e4, G4, I4⟩ := R g1 I1 (Xg.on (G3.w (fun a j u => u.elim Or.inl (fun v => Or.inr (Or.inl v))))) (fun j j0 j1 => by rw [(K3 _).1]; exact e24 j j0 j1) (by rw [(K3 _).2]; exact e25) N' (by omega)
        refine ⟨g', f', ?_, fun c c0 => by rw [G4 c c0, J3 c c0], I4⟩
        rw [itr_s]
        show Md_perform_b24_body _ g 2000 a1 (i : Int) = _
        rw [e3, ei]
        exact e4
    · obtain ⟨h1, e1, F1, S1, X1, A1, Sa1, y1, y2⟩ := pf_o X A iN S p1 p2 p4 p5
      have e2 := c_step0 X1 n0 A1 fb iN Sa1 sb hi q
      refine ⟨h1, (i : Int), ?_, fun c c0 => F1 c (by omega), F1.on (T := fun a j => Tac a j ∨ SC2 a j ∨ Tsl a j) (fun a u j => Or.inr (Or.inr (by unfold Tsl; omega))), fun g I Xg e24 e25 N' hN' => ?_⟩
      · rw [itr_s]
        show Cc_perform_b25_body _ h 20 a (i : Int) = _
        unfold Cc_perform_b25_body
        rw [cC_s (IsN_sh iN).1 rfl, S.1, w32_n (x := (i : Int)) (by omega) (by omega), w32_n (x := (st.1 : Int)) (by omega) (by omega), if_pos (by omega), cC_s SH20' rfl, cC_s SH55 rfl, e1, cl_s, e2, cl_s, if_pos wz0]
      · obtain ⟨N', rfl⟩ : ∃ N2 : Nat, N' = N2 + 1 := ⟨N' - 1, by omega⟩
        have M : StM g 2032 n f := sm_mx (by decide) I.2.2.2.2.2.2.2.1.2.1
        obtain ⟨PF, Xp⟩ := pax_of I (fst := fst) (acts := acts) (by rw [mx_lo (by decide)]; exact p1) (by rw [mx_lo (by decide)]; exact p2)
        have eT : 3 * (16 * a1 + (i : Int)) = 48 * a1 + (3 * (i : Int) + 0) := by omega
        have eT1 : 48 * a1 + (3 * (i : Int) + 0) + 1 = 48 * a1 + (3 * (i : Int) + 1) := by omega
        have eT2 : 48 * a1 + (3 * (i : Int) + 0) + 2 = 48 * a1 + (3 * (i : Int) + 2) := by omega
        have m0 := e24 (3 * (i : Int) + 0) (by omega) (by omega)
        have m1 := e24 (3 * (i : Int) + 1) (by omega) (by omega)
        have m2 := e24 (3 * (i : Int) + 2) (by omega) (by omega)
        rw [← eT1] at m1
        rw [← eT2] at m2
        have xc := (m_can Xg M fb m0 m1 m2 (by omega) (by omega) tb).2 q
        refine ⟨g, f, ?_, fun _ _ => rfl, (act_open2 I Xp (mx_fr (g := g) F1)).1⟩
        rw [itr_s]
        show Md_perform_b24_body _ g 2000 a1 (i : Int) = _
        unfold Md_perform_b24_body
        rw [cC_s SH2000' rfl, cX_s SH2025 q0 (by omega) (by decide), rd_ge (by decide), w32_n (x := a1) q0 (by omega), e25, w32_n (x := (i : Int)) (by omega) (by omega), w32_n (x := (st.1 : Int)) (by omega) (by omega), if_pos (by omega), eT, xc, cl_s, if_pos wz0]
end Q
theorem So_perform : S_perform Inv := by
  intro h a1 I i1
  have I0 := I
  obtain ⟨n, W, lc, sc, ru, pd, wd, f, ly, k0, sn, J⟩ := I
  have J' := J
  obtain ⟨Tp, Ct, Lw, Lh, Mm, Ss, Sn, Nw, Lg, Td, Im, Pa, Gv, Rw⟩ := J'
  have Sm := SsI.t0 Ss
  have n6 := Ct.1.1.2.2
  have o26 : up h 2000 0 0 2000 26 = (n : Int) := by rw [up_off (by decide)]; exact Ct.2.1.1
  have no : ∃ (r2 : Int) (h2 : Hp), some ((-1 : Int), up h 2000 0 0) = some (r2, h2) ∧ w32 (-1) = w32 r2 ∧ Inv h2 := ⟨_, _, rfl, rfl, Inv.qs I0 t0_sc⟩
  unfold Cc_perform Md_perform
  rw [cC_s SH20' rfl]
  by_cases q : 0 ≤ a1 ∧ a1 < (sc : Int)
  · rw [(isS_1 Ss i1 q).1, cl_s, if_neg wn1]
    by_cases z : n = 0
    · rw [told0 Ct.1.1 z, cl_s, if_pos wz0]
      refine so_s ?_
      rw [cC_s SH2000' rfl, pu_s, (isS_1 Sm i1 q).2, cl_s, if_neg wn1, o26, w32_n (x := (n : Int)) (by omega) (by omega), if_pos (by omega)]
      exact no
    · have s4 := Ss.2.2.1
      obtain ⟨st, sb, s1, sa, m1, m2⟩ := Ss.2.2.2 a1.toNat (by omega)
      have ea : ((a1.toNat : Nat) : Int) = a1 := by omega
      rw [ea] at sa m1 m2
      have iN : IsN (1100 + 10 * a1) := ⟨by omega, by omega, by omega⟩
      obtain ⟨fst, acts, PF, Xp⟩ := Pa
      have X0 : Cx h n W lc sc ru pd wd ly k0 := ⟨Ct, Lw, Lh, Ss⟩
      obtain ⟨h', r, e1, G1, Fh, R⟩ := perfs (n := n) (W := W) (lc := lc) (sc := sc) (ru := ru) (pd := pd) (wd := wd) (ly := ly) (k := k0) (sn := sn) (a1 := a1) (by omega) iN sb q.1 (by omega) st.1 0 h f fst acts (by omega) Nw.1 Nw.2.2 X0 sa Xp.1 Xp.2.1 Xp.2.2.2.1 Xp.2.2.2.2.1 FU (FU_gt (by have := sb.1; omega))
      have e1' : itr (fun k s => Cc_perform_b25_body k s.1 s.2.1 s.2.2.1 s.2.2.2) FU (h, 20, 1100 + 10 * a1, 0) = some (r, h') := e1
      rw [told1 Ct.1.1 z, cl_s, if_neg wn1, sesAt_e h q.1 (by omega), cl_s]
      unfold Cc_perform_b25
      rw [e1']
      have Xg : Cx (up h' 2000 0 0) n W lc sc ru pd wd ly k0 := (X0.on Fh).on (On.up (Or.inl (by unfold Tac; omega)))
      have Ig : IvP (mx h (up h' 2000 0 0)) n W lc sc ru pd wd f ly k0 sn := J.qs (fun a k t => by
        by_cases c : a < 2000
        · rw [mx_lo c]
        · rw [mx_hi (by omega)]
          by_cases e : a = 2000
          · subst e
            rw [up_off (fun e => t (by unfold SCA; omega)), G1 2000 (by decide)]
          · rw [up_ne e, G1 a (by omega)])
      obtain ⟨g', f', e2, G2, I2⟩ := R (up h' 2000 0 0) Ig Xg (fun j j0 j1 => by rw [up_ne (by decide), G1 2024 (by decide)]; exact m2 j j0 j1) (by rw [up_ne (by decide), G1 2025 (by decide)]; exact m1) FU (FU_gt (by have := sb.1; omega))
      have o26' : up h' 2000 0 0 2000 26 = (n : Int) := by rw [up_off (by decide), G1 2000 (by decide)]; exact Ct.2.1.1
      have SsG : SsI (up h' 2000 0 0) sc := Xg.2.2.2
      refine so_s ⟨r, g', ?_, rfl, ⟨n, W, lc, sc, ru, pd, wd, f', ly, k0, sn, ?_⟩⟩
      · rw [cC_s SH2000' rfl, pu_s, (isS_1 SsG i1 q).2, cl_s, if_neg wn1, o26', w32_n (x := (n : Int)) (by omega) (by omega), if_neg (by omega)]
        unfold Md_perform_b24
        exact e2
      · rw [mx_re (h := h') (g := g') (fun a a0 => by rw [G2 a a0, up_off_row (by omega)])] at I2
        exact I2
  · rw [(isS_0 Ss i1 q).1, cl_s, if_pos wz0]
    refine so_s ?_
    rw [cC_s SH2000' rfl, pu_s, (isS_0 Sm i1 q).2, cl_s, if_pos wz0]
    exact no
end PurePerform
