section PureYears
/-! YEARS: one year on either side -/
def yrR (n : Nat) (sn s : Int) (f : Int → Int) : Int → Int := (psR n (-1) (siV n sn s f).2).1
def Tyc (a k : Int) : Prop := (110 ≤ a ∧ a ≤ 114) ∨ a = 61 ∨ (a = 55 ∧ (k = 1 ∨ k = 2)) ∨ (a = 20 ∧ k = 19)
def Tym (a k : Int) : Prop := (a = 2000 ∧ (k = 39 ∨ k = 40 ∨ k = 42 ∨ k = 43)) ∨ a = 2041 ∨ a = 2032 ∨ a = 2038
section P
variable {n : Nat} {f : Int → Int} {sn s : Int}
theorem siV_hi (n0 : 0 < n) (n6 : n ≤ 6) {k : Int} (hk : 36 ≤ k) : (siV n sn s f).2 k = f k := by
  have d2 := drV_b (lcg (lcg s)) (m := (n : Int)) (by omega) (by omega)
  have d3 := drV_b (lcg (lcg (lcg s))) (m := (n : Int)) (by omega) (by omega)
  unfold siV
  by_cases c : drV (lcg s) 10 < sn
  · rw [if_pos c]
    by_cases z : drV (lcg (lcg s)) n = drV (lcg (lcg (lcg s))) n
    · rw [if_pos z]
    · rw [if_neg z]
      exact owe_hi d2.1 (by omega) d3.1 (by omega) hk
  · rw [if_neg c]
theorem yrR_k (n0 : 0 < n) (n6 : n ≤ 6) : yrR n sn s f 48 = f 48 ∧ yrR n sn s f 49 = f 49 ∧ yrR n sn s f 51 = f 51 + 1 := by
  obtain ⟨p1, p2, p3⟩ := psR_k (f := (siV n sn s f).2) n6 (-1)
  unfold yrR
  rw [p1, p2, p3, siV_hi n0 n6 (by decide), siV_hi n0 n6 (by decide), siV_hi n0 n6 (by decide)]
  exact ⟨rfl, rfl, rfl⟩
end P
section C
variable {h : Hp} {n fst acts : Nat} {f : Int → Int} {sn : Int}
theorem yr_c (A : StA h 110 n f) (n0 : 0 < n) (h8 : h 20 8 = sn) (s0 : 0 ≤ sn ∧ sn ≤ 9) (p1 : h 55 1 = (fst : Int)) (p2 : h 55 2 = (acts : Int)) (p4 : fst < 41) (p5 : acts ≤ 40) (e0 : 0 ≤ f 51 ∧ f 51 < 999) {x1 x4 : Int} (hx : w32 x4 < w32 x1) : ∃ (h1 h' : Hp) (v : Int), (∀ K, Cc_years_b43_body K h 20 x1 x4 = K (h', 20, x1, x4 + 1)) ∧ Fr (fun x => x = paA fst acts ∨ x = paA fst acts + 1 ∨ x = paA fst acts + 2 ∨ x = paA fst acts + 3) h h1 ∧ StA h1 (paA fst acts) n f ∧ On Tyc h1 h' ∧ h' 20 19 = (siV n sn (h 20 19) f).1 ∧ StA h' 110 n (yrR n sn (h 20 19) f) ∧ h' 55 1 = ((if acts = 40 then (fst + 1) % 41 else fst : Nat) : Int) ∧ h' 55 2 = ((if acts = 40 then 40 else acts + 1 : Nat) : Int) ∧ EN v (psC n (-1) (siV n sn (h 20 19) f).2) (psR n (-1) (siV n sn (h 20 19) f).2).2 (allD n (yrR n sn (h 20 19) f)) ∧ ∀ x : Int, h' 61 x = if x = f 51 + 1 then v else h1 61 x := by
  have n6 := A.2.2.2.1
  have s7 := (IsS_sh A.1).1
  obtain ⟨h1, e1, F1, S1⟩ := offer_e A p1 p2 p4 p5
  have b := paA_b fst acts
  have q1 : ∀ a k : Int, (a < 200 ∨ 610 ≤ a) → h1 a k = h a k := fun a k q => by rw [F1 a (by omega)]
  have A1 : StA h1 110 n f := A.c (fun k _ _ => q1 110 k (by omega)) (fun j j0 j1 => funext fun k => q1 _ k (by omega))
  obtain ⟨h2, e2, F2, y1, y2⟩ := keep_e2 (h := h1) (fst := fst) (acts := acts) (by rw [q1 55 1 (by omega)]; exact p1) (by rw [q1 55 2 (by omega)]; exact p2) p4 p5
  have A2 : StA h2 110 n f := A1.c (fun k _ _ => F2 110 k (by omega)) (fun j j0 j1 => F2.row (fun k => by omega))
  have s19 : h2 20 19 = h 20 19 := by rw [F2 20 19 (by omega), q1 20 19 (by omega)]
  obtain ⟨h3, e3, F3, y19, A3⟩ := c_sinA (h := h2) A2 n0 (sn := sn) (by rw [F2 20 8 (by omega), q1 20 8 (by omega)]; exact h8) s0
  rw [s19] at y19 A3
  have k51 : (siV n sn (h 20 19) f).2 51 = f 51 := siV_hi n0 n6 (by decide)
  unfold yrR
  generalize hf1 : (siV n sn (h 20 19) f).2 = f1 at A3 k51
  obtain ⟨h4, e4, F4, A4, -, x9, x10⟩ := St_pass_e A3 (bed := -1) ir_m1
  have pk := psR_k (f := f1) n6 (-1)
  have pc := psC_b (bed := -1) (f := f1) n6
  obtain ⟨B, hB, B64⟩ := psB_b (bed := -1) (f := f1) n6
  obtain ⟨v, e5, en⟩ := write_e A4 (by rw [pk.2.2]; omega) x9 x10 ⟨pc.1, by omega⟩ (by rw [hB]; omega)
  rw [pk.2.2, k51] at e5
  have r4 : ∀ a : Int, ¬ (110 ≤ a ∧ a ≤ 114) → h4 a = h3 a := fun a q => F4 a (fun t => q (by unfold InS at t; omega))
  have Fc : On Tyc h1 (up h4 61 (f 51 + 1) v) := (((F2.w (fun a k t => by unfold Tyc; omega)).tr (F3.w (fun a k t => by unfold Tyc; omega))).tr (F4.on (fun a t k => by unfold InS at t; unfold Tyc; omega))).tr (On.up (by unfold Tyc; omega))
  refine ⟨h1, up h4 61 (f 51 + 1) v, v, fun K => ?_, F1, S1, Fc, ?_, A4.c (fun k _ _ => up_ne (by decide) k) (fun j j0 j1 => up_off_row (by omega)), ?_, ?_, en, fun x => ?_⟩
  · unfold Cc_years_b43_body
    rw [if_pos hx, cC_s SH20' rfl, cC_s SH55 rfl, e1, cl_s, e2, cl_s, e3, cl_s, cC_s s7 rfl, e4, cl_s, cC_s SH60 rfl, e5, cl_s]
  · rw [up_ne (by decide), r4 20 (by omega)]; exact y19
  · rw [up_ne (by decide), r4 55 (by omega), F3 55 1 (by omega)]; exact y1
  · rw [up_ne (by decide), r4 55 (by omega), F3 55 2 (by omega)]; exact y2
  · by_cases q : x = f 51 + 1
    · rw [if_pos q, q, up_at]
    · rw [if_neg q, up_off q, r4 61 (by omega), F3 61 x (by omega), F2 61 x (by omega)]
end C
section M
variable {h : Hp} {n acts : Nat} {f : Int → Int} {sn : Int}
theorem m_sinA (M : StM h 2032 n f) (n0 : 0 < n) (h35 : h 2000 35 = sn) (s0 : 0 ≤ sn ∧ sn ≤ 9) : ∃ h', (∀ K (x1 x4 : Int), cl (Md_draw h 2000 10) (fun r12 h13 => if w32 r12 < w32 (h13 2000 35) then cl (Md_draw h13 2000 (h13 2000 26)) (fun r15 h16 => cl (Md_draw h16 2000 (h16 2000 26)) (fun r18 h19 => cl (Md_draw h19 2000 9) (fun r21 h22 => bd (r21 + 1) (fun v24 => if w32 r15 = w32 r18 then Md_years_b122 K h22 2000 x1 x4 else cl (Md_adds h22 2032 r15 r18 v24) (fun r29 h30 => Md_years_b122 K h30 2000 x1 x4))))) else Md_years_b122 K h13 2000 x1 x4) = Md_years_b122 K h' 2000 x1 x4) ∧ On (fun a k => (a = 2032 ∧ k < 52) ∨ (a = 2000 ∧ k = 43)) h h' ∧ h' 2000 43 = (siV n sn (h 2000 43) f).1 ∧ StM h' 2032 n (siV n sn (h 2000 43) f).2 := by
  have n6 := M.2.2.2.1
  generalize hs : h 2000 43 = s
  have d1 := drV_b (lcg s) (m := 10) (by decide) (by decide)
  have d2 := drV_b (lcg (lcg s)) (m := (n : Int)) (by omega) (by omega)
  have d3 := drV_b (lcg (lcg (lcg s))) (m := (n : Int)) (by omega) (by omega)
  have d4 := drV_b (lcg (lcg (lcg (lcg s)))) (m := 9) (by decide) (by decide)
  have u : ∀ (g : Hp) (v k : Int), k ≠ 43 → up g 2000 43 v 2000 k = g 2000 k := fun g v k q => up_off q
  have m26 := M.2.1
  unfold siV
  by_cases c : drV (lcg s) 10 < sn
  · rw [if_pos c]
    have F : On (fun a k => (a = 2032 ∧ k < 52) ∨ (a = 2000 ∧ k = 43)) h (up (up (up (up h 2000 43 (lcg s)) 2000 43 (lcg (lcg s))) 2000 43 (lcg (lcg (lcg s)))) 2000 43 (lcg (lcg (lcg (lcg s))))) := (((On.up (Or.inr ⟨rfl, rfl⟩)).tr (On.up (Or.inr ⟨rfl, rfl⟩))).tr (On.up (Or.inr ⟨rfl, rfl⟩))).tr (On.up (Or.inr ⟨rfl, rfl⟩))
    have B : StM (up (up (up (up h 2000 43 (lcg s)) 2000 43 (lcg (lcg s))) 2000 43 (lcg (lcg (lcg s)))) 2000 43 (lcg (lcg (lcg (lcg s))))) 2032 n f := ⟨M.1, by rw [u _ _ _ (by decide), u _ _ _ (by decide), u _ _ _ (by decide), u _ _ _ (by decide)]; exact m26, by rw [mR_c (h := h) (by rw [up_off_row (by decide), up_off_row (by decide), up_off_row (by decide), up_off_row (by decide)])]; exact M.2.2.1, M.2.2.2⟩
    have x : up (up (up (up h 2000 43 (lcg s)) 2000 43 (lcg (lcg s))) 2000 43 (lcg (lcg (lcg s)))) 2000 43 (lcg (lcg (lcg (lcg s)))) 2000 43 = lcg (lcg (lcg (lcg s))) := up_at
    have hd : ∀ K (x1 x4 : Int), cl (Md_draw h 2000 10) (fun r12 h13 => if w32 r12 < w32 (h13 2000 35) then cl (Md_draw h13 2000 (h13 2000 26)) (fun r15 h16 => cl (Md_draw h16 2000 (h16 2000 26)) (fun r18 h19 => cl (Md_draw h19 2000 9) (fun r21 h22 => bd (r21 + 1) (fun v24 => if w32 r15 = w32 r18 then Md_years_b122 K h22 2000 x1 x4 else cl (Md_adds h22 2032 r15 r18 v24) (fun r29 h30 => Md_years_b122 K h30 2000 x1 x4))))) else Md_years_b122 K h13 2000 x1 x4) = (if drV (lcg (lcg s)) n = drV (lcg (lcg (lcg s))) n then Md_years_b122 K (up (up (up (up h 2000 43 (lcg s)) 2000 43 (lcg (lcg s))) 2000 43 (lcg (lcg (lcg s)))) 2000 43 (lcg (lcg (lcg (lcg s))))) 2000 x1 x4 else cl (Md_adds (up (up (up (up h 2000 43 (lcg s)) 2000 43 (lcg (lcg s))) 2000 43 (lcg (lcg (lcg s)))) 2000 43 (lcg (lcg (lcg (lcg s))))) 2032 (drV (lcg (lcg s)) n) (drV (lcg (lcg (lcg s))) n) (drV (lcg (lcg (lcg (lcg s)))) 9 + 1)) (fun r29 h30 => Md_years_b122 K h30 2000 x1 x4)) := fun K x1 x4 => by
      rw [m_draw h (by decide) (by decide), cl_s, hs, w32_n (x := drV (lcg s) 10) (by omega) (by omega), u _ _ _ (by decide), h35, w32_n (x := sn) (by omega) (by omega), if_pos c, u _ _ _ (by decide), m26, m_draw _ (by omega) (by omega), cl_s, up_at, u _ _ _ (by decide), u _ _ _ (by decide), m26, m_draw _ (by omega) (by omega), cl_s, up_at, m_draw _ (by decide) (by decide), cl_s, up_at, bd_s, w32_n (x := drV (lcg (lcg s)) n) (by omega) (by omega), w32_n (x := drV (lcg (lcg (lcg s))) n) (by omega) (by omega)]
    generalize up (up (up (up h 2000 43 (lcg s)) 2000 43 (lcg (lcg s))) 2000 43 (lcg (lcg (lcg s)))) 2000 43 (lcg (lcg (lcg (lcg s)))) = g at F B x hd
    by_cases z : drV (lcg (lcg s)) n = drV (lcg (lcg (lcg s))) n
    · rw [if_pos z]
      exact ⟨g, fun K x1 x4 => by rw [hd, if_pos z], F, x, B⟩
    · have db := Gd_d B.2.2.2 d2.1 (show drV (lcg (lcg s)) n < 6 by omega) d3.1 (show drV (lcg (lcg (lcg s))) n < 6 by omega)
      obtain ⟨h', e, F', c'⟩ := Md_adds_e B (a := drV (lcg (lcg s)) n) (b := drV (lcg (lcg (lcg s))) n) (m := drV (lcg (lcg (lcg (lcg s)))) 9 + 1) d2.1 (by omega) d3.1 (by omega) (by omega) (by omega)
      rw [if_neg z]
      exact ⟨h', fun K x1 x4 => by rw [hd, if_neg z, e, cl_s], F.tr ((FrW.ac F').w (fun a k q => Or.inl q)), by rw [F'.1 2000 (by decide)]; exact x, B.ofW F' c' (Gd_owe B.2.2.2 d2.1 (by omega) d3.1 (by omega) z (by omega))⟩
  · rw [if_neg c]
    refine ⟨up h 2000 43 (lcg s), fun K x1 x4 => ?_, On.up (Or.inr ⟨rfl, rfl⟩), up_at, ⟨M.1, by rw [u _ _ _ (by decide)]; exact m26, by rw [mR_c (h := h) (up_off_row (by decide))]; exact M.2.2.1, M.2.2.2⟩⟩
    rw [m_draw h (by decide) (by decide), cl_s, hs, w32_n (x := drV (lcg s) 10) (by omega) (by omega), u _ _ _ (by decide), h35, w32_n (x := sn) (by omega) (by omega), if_neg c]
theorem yr_m (M : StM h 2032 n f) (n0 : 0 < n) (h35 : h 2000 35 = sn) (s0 : 0 ≤ sn ∧ sn ≤ 9) (p42 : h 2000 42 = (acts : Int)) (p5 : acts ≤ 40) (e0 : 0 ≤ f 51 ∧ f 51 < 999) (l52 : h 2032 52 = min 60 (f 51)) {x1 x4 : Int} (hx : w32 x4 < w32 x1) : ∃ h', (∀ K, Md_years_b49_body K h 2000 x1 x4 = K (h', 2000, x1, x4 + 1)) ∧ On Tym h h' ∧ h' 2000 43 = (siV n sn (h 2000 43) f).1 ∧ StM h' 2032 n (yrR n sn (h 2000 43) f) ∧ h' 2000 42 = ((if acts = 40 then 40 else acts + 1 : Nat) : Int) ∧ (acts < 40 → (∀ k : Int, k < 233 * (acts : Int) → h' 2041 k = h 2041 k) ∧ ∀ k : Int, 0 ≤ k → k < 233 → h' 2041 (233 * (acts : Int) + k) = h 2032 k) ∧ (acts = 40 → (∀ x : Int, 0 ≤ x → x < 9087 → h' 2041 x = h 2041 (x + 233)) ∧ ∀ k : Int, 0 ≤ k → k < 233 → h' 2041 (9087 + k) = h 2032 k) ∧ ∀ nt nt' : Int → Int, LG nt (h 2032) (f 51) → EN (nt' (f 51 + 1)) (psC n (-1) (siV n sn (h 2000 43) f).2) (psR n (-1) (siV n sn (h 2000 43) f).2).2 (allD n (yrR n sn (h 2000 43) f)) → (∀ i : Int, i ≤ f 51 → nt' i = nt i) → LG nt' (h' 2032) (f 51 + 1) := by
  have n6 := M.2.2.2.1
  obtain ⟨h1, e1, F1, y42, r41, s41⟩ := remember_e (h := h) (acts := acts) p42 p5
  have M1 : StM h1 2032 n f := ⟨M.1, by rw [F1 2000 26 (by omega)]; exact M.2.1, by rw [mR_e (h := h) (fun k _ _ => F1 2032 k (by omega))]; exact M.2.2.1, M.2.2.2⟩
  obtain ⟨h2, e2, F2, y43, M2⟩ := m_sinA (h := h1) M1 n0 (sn := sn) (by rw [F1 2000 35 (by omega)]; exact h35) s0
  have s43 : h1 2000 43 = h 2000 43 := F1 2000 43 (by omega)
  rw [s43] at y43 M2
  unfold yrR
  generalize hf1 : (siV n sn (h 2000 43) f).2 = f1 at M2
  have w2 : ∀ k : Int, 52 ≤ k → h2 2032 k = h 2032 k := fun k hk => by rw [F2 2032 k (by omega), F1 2032 k (by omega)]
  obtain ⟨h3, e3, F3, M3, -, -, -, L3⟩ := Md_goEvening_e M2 Abed0 (by rw [w2 52 (by decide), l52]; omega)
  have k41 : ∀ x : Int, h3 2041 x = h1 2041 x := fun x => by rw [F3.1 2041 (by decide) (by decide) (by decide), F2 2041 x (by omega)]
  refine ⟨h3, fun K => ?_, ?_, ?_, M3, ?_, ?_, ?_, fun nt nt' lg en kk => lg_step (h := h2) (nt := nt) (lg.c (fun _ _ _ _ => rfl) (fun k hk => w2 k hk)) (by omega) L3 en kk⟩
  · unfold Md_years_b49_body
    rw [if_pos hx, cC_s SH2000' rfl, e1, cl_s, e2]
    unfold Md_years_b122
    rw [cC_s SH2000' rfl, e3, cl_s]
  · intro a k t
    by_cases z : a = 2000
    · subst z
      rw [F3.2 k (fun e => t (by unfold Tym; omega)) (fun e => t (by unfold Tym; omega)), F2 2000 k (fun e => t (by unfold Tym; omega)), F1 2000 k (fun e => t (by unfold Tym; omega))]
    · rw [F3.1 a (fun e => t (by unfold Tym; omega)) (fun e => t (by unfold Tym; omega)) z, F2 a k (fun e => t (by unfold Tym; omega)), F1 a k (fun e => t (by unfold Tym; omega))]
  · rw [F3.2 43 (by decide) (by decide)]; exact y43
  · rw [F3.2 42 (by decide) (by decide), F2 2000 42 (by omega)]; exact y42
  · intro q
    obtain ⟨t1, t2⟩ := r41 q
    exact ⟨fun k hk => by rw [k41, t1 k hk], fun k k0 k1 => by rw [k41, t2 k k0 k1]⟩
  · intro q
    obtain ⟨t1, t2⟩ := s41 q
    exact ⟨fun x x0 x1 => by rw [k41, t1 x x0 x1], fun k k0 k1 => by rw [k41, t2 k k0 k1]⟩
end M
end PureYears
