section PureP
variable {h h' : Hp} {n W : Nat} {f ru pd wd : Int → Int}
theorem RF_gt {d : Nat} (h : d < 7) : d < RF := Nat.lt_of_lt_of_le h (Nat.le_of_ble_eq_true rfl)
theorem c_break {p d : Nat} {ch : Int} (hp : p < n) (hd : d ≤ 6) (hc : 0 ≤ ch ∧ ch ≤ 100) (A : StA h (130 + 10 * (d : Int)) n f) : ∃ h', Cc_breaking h 20 (d : Int) (p : Int) ch 1000000000 = some (odR n (p : Int) ch d 1000000000 f, h') ∧ Fr (Sb d) h h' := by
  unfold Cc_breaking Cc_breaking_f
  exact c_br hp hc.1 hc.2 d RF (RF_gt (by omega)) hd h 1000000000 f A (by decide) (by decide)
theorem m_odf {p d : Nat} {ch : Int} (hp : p < n) (hd : d ≤ 6) (hc : 0 ≤ ch ∧ ch ≤ 100) (M : StM h 2033 n f) (z : h 2033 52 = 0) : ∃ h', Md_oddsFrom h 2000 (p : Int) (d : Int) ch 1000000000 = some (odR n (p : Int) ch d 1000000000 f, h') ∧ FrO d h h' := by
  unfold Md_oddsFrom Md_oddsFrom_f
  exact m_od hp hc.1 hc.2 d RF (RF_gt (by omega)) hd h 1000000000 f M (by rw [z]; exact ⟨by decide, by decide⟩) (by decide) (by decide)
theorem cp_sc {d : Nat} (hd : d ≤ 6) : ∀ x : Int, (x = 130 + 10 * (d : Int) ∨ x = 130 + 10 * (d : Int) + 1 ∨ x = 130 + 10 * (d : Int) + 2 ∨ x = 130 + 10 * (d : Int) + 3) → ∀ k : Int, SCA x k := fun x q k => Or.inl (by omega)
theorem Sb_sc {d : Nat} (hd : d ≤ 6) : ∀ x : Int, Sb d x → ∀ k : Int, SCA x k := fun x q k => Or.inl (by unfold Sb at q; omega)
def OD (a k : Int) : Prop := SCA a k ∨ a = 2051
theorem od_0 {h1 : Hp} (F : On SCA h h1) : On OD h (up h1 2000 0 0) := (F.tr t0_sc).w (fun _ _ q => Or.inl q)
theorem od_cp {h1 : Hp} (F : ∀ a : Int, a ≠ 2033 → h1 a = h a) : On OD h h1 := fun x k z => by
  rw [F x (fun e => z (Or.inl (by unfold SCA; omega)))]
theorem od_F {d : Nat} {h1 : Hp} (F : FrO d h h1) : On OD h h1 := fun x k z => by
  by_cases x0 : x = 2000
  · subst x0
    exact F.2.1 k (fun e => z (Or.inl (by unfold SCA; omega))) (fun e => z (Or.inl (by unfold SCA; omega)))
  · rw [F.1 x (fun e => z (Or.inl (by unfold SCA; omega))) (fun e => z (Or.inl (by unfold SCA; omega))) x0 (fun e => z (Or.inr e))]
/-- ODDS -/
theorem odds_e (C : CoA h n) (A : StA h 110 n f) {a b c : Int} (ha : ir a) (hb : ir b) (hc : ir c) (MM : ∀ h1, On SCA h h1 → StM h1 2032 n f) : ∃ (r : Int) (h1 h2 : Hp), Cc_odds h 20 a b c = some (r, h1) ∧ On SCA h h1 ∧ Md_odds h1 2000 a b c = some (r, h2) ∧ On OD h h2 := by
  have n6 := C.2.2
  unfold Cc_odds Md_odds
  rw [cC_s SH20' rfl]
  by_cases q : isP n a
  · by_cases q2 : 0 ≤ b ∧ b ≤ 6
    · by_cases q3 : 0 ≤ c ∧ c ≤ 100
      · obtain ⟨a0, a1⟩ := q
        obtain ⟨p, rfl⟩ : ∃ p : Nat, a = (p : Int) := ⟨a.toNat, by omega⟩
        obtain ⟨d, rfl⟩ : ∃ d : Nat, b = (d : Int) := ⟨b.toNat, by omega⟩
        have hp : p < n := by omega
        rw [c_isP1 C ha ⟨a0, a1⟩, cl_s, if_neg (by decide), ri hb, ri hc, if_neg (by omega), if_neg (by omega), if_neg (by omega), if_neg (by omega), Cc_apartAt_e h q2.1 (by omega), cl_s]
        have iS := IsS_apart (i := (d : Int)) q2.1 (by omega)
        rw [cC_s (IsS_sh iS).1 rfl]
        obtain ⟨h1, e1, F1, A1⟩ := St_copy_e (s := 130 + 10 * (d : Int)) iS A (by omega)
        rw [e1, cl_s]
        obtain ⟨h2, e2, F2⟩ := c_break (h := h1) (p := p) (d := d) (ch := c) hp (by omega) q3 A1
        rw [e2, cl_s]
        have O2 : On SCA h h2 := (F1.on (cp_sc (by omega))).tr (F2.on (Sb_sc (by omega)))
        refine ⟨odR n (p : Int) c d 1000000000 f, h2, ?_⟩
        have M2 := (MM h2 O2).on t0_sc
        obtain ⟨h3, e3, F3, M3, z3⟩ := Md_copy_e M2
        obtain ⟨h4, e4, F4⟩ := m_odf (h := h3) (p := p) (d := d) (ch := c) hp (by omega) q3 M3 z3
        refine ⟨h4, rfl, O2, ?_, ((od_0 O2).tr (od_cp F3)).tr (od_F F4)⟩
        rw [cC_s SH2000' rfl, pu_s, m_isP1 M2.2.1 n6 ha ⟨a0, a1⟩, cl_s, if_neg (by decide), isIn1 hb ⟨by decide, by decide⟩ ⟨by decide, by decide⟩ q2, cl_s, if_neg (by decide), isIn1 hc ⟨by decide, by decide⟩ ⟨by decide, by decide⟩ q3, cl_s, if_neg (by decide), e3, cl_s, e4, cl_s]
      · refine ⟨-1, h, up h 2000 0 0, ?_, On.rf, ?_, od_0 On.rf⟩
        · rw [c_isP1 C ha q, cl_s, if_neg (by decide), ri hb, ri hc, if_neg (by omega), if_neg (by omega)]
          by_cases c0 : c < 0
          · rw [if_pos c0]
          · rw [if_neg c0, if_pos (by omega)]
        · rw [cC_s SH2000' rfl, pu_s, m_isP1 ((MM h On.rf).on t0_sc).2.1 n6 ha q, cl_s, if_neg (by decide), ri hb, ri hc, isIn1 hb ⟨by decide, by decide⟩ ⟨by decide, by decide⟩ q2, cl_s, if_neg (by decide), isIn0 hc ⟨by decide, by decide⟩ ⟨by decide, by decide⟩ q3, cl_s, if_pos (by decide)]
    · refine ⟨-1, h, up h 2000 0 0, ?_, On.rf, ?_, od_0 On.rf⟩
      · rw [c_isP1 C ha q, cl_s, if_neg (by decide), ri hb]
        by_cases c0 : b < 0
        · rw [if_pos c0]
        · rw [if_neg c0, if_pos (by omega)]
      · rw [cC_s SH2000' rfl, pu_s, m_isP1 ((MM h On.rf).on t0_sc).2.1 n6 ha q, cl_s, if_neg (by decide), ri hb, isIn0 hb ⟨by decide, by decide⟩ ⟨by decide, by decide⟩ q2, cl_s, if_pos (by decide)]
  · refine ⟨-1, h, up h 2000 0 0, ?_, On.rf, ?_, od_0 On.rf⟩
    · rw [c_isP0 C ha q, cl_s, if_pos (by decide)]
    · rw [cC_s SH2000' rfl, pu_s, m_isP0 ((MM h On.rf).on t0_sc).2.1 n6 ha q, cl_s, if_pos (by decide)]
end PureP
