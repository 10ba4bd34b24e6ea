section PureCty2
/-! the class reads a whole county -/
def CyA (h : Hp) (c : Int) (s : Cst) : Prop := h c 3 = s.1 ∧ h c 4 = (s.2.1 : Int) ∧ h c 5 = (s.2.2.1 : Int) ∧ (∀ k : Int, 0 ≤ k → k < 2 → h (c + 1) k = s.2.2.2.1 k) ∧ (∀ k : Int, 0 ≤ k → k < 3 * (s.2.1 : Int) → h (c + 2) k = s.2.2.2.2.1 k) ∧ ∀ k : Int, 0 ≤ k → k < 3 * (s.2.2.1 : Int) → h (c + 3) k = s.2.2.2.2.2 k
def IsY (c : Int) : Prop := c = 30 ∨ c = 40
def CTc (c x k : Int) : Prop := (x = 21 ∧ (k = 2 ∨ k = 3)) ∨ (x = c ∧ (k = 3 ∨ k = 4 ∨ k = 5)) ∨ x = c + 1 ∨ x = c + 2 ∨ x = c + 3
theorem IsY_sh {c : Int} (y : IsY c) : SH c = (0, 0) ∧ SH (c + 1) = (100, 3) ∧ SH (c + 2) = (100, 18) ∧ SH (c + 3) = (100, 24) := by
  rcases y with e | e <;> rw [e] <;> decide +kernel
def SOk (s : Cst) : Prop := (s.1 = 0 ∨ s.1 = 1) ∧ s.2.1 ≤ 6 ∧ s.2.2.1 ≤ 8
section C
variable {B : Nat → Int} {L p q : Nat} {h h1 : Hp} {c : Int} {s : Cst}
def YRs (c : Int) (B : Nat → Int) (L p : Nat) (t : Nat × Option Cst) (h : Hp) (x : Int) (h' : Hp) : Prop := On (CTc c) h h' ∧ ((∃ w : Nat, w ≤ L ∧ x = 0 ∧ h' 21 3 = (w : Int) ∧ (t = (w, none) ∨ ∃ y, t = (w, some y) ∧ ¬ chP B L w = 0 ∧ ¬ chP B L w = 59)) ∨ ∃ (q : Nat) (y : Cst), t = (q, some y) ∧ x = 1 ∧ p < q ∧ (chP B L q = 0 ∨ chP B L q = 59) ∧ PTp h' B L q ∧ CyA h' c y ∧ SOk y)
theorem ct_2 {v : Int} {h : Hp} : On (CTc c) h (up h 21 2 v) := On.up (Or.inl ⟨rfl, Or.inl rfl⟩)
theorem ct_3 {v : Int} {h : Hp} : On (CTc c) h (up h 21 3 v) := On.up (Or.inl ⟨rfl, Or.inr rfl⟩)
/-- items behind a clause's letter -/
theorem cl_it {R fr0 : Int} {sz : Nat} (b : BOK B L) (O : RwO R fr0 sz) {kd : Nat} (hk : kd < 3) {h0 : Hp} {p0 : Nat} (hp : p < L) (hp0 : p0 ≤ p) (T : PTp h B L p) (F : On (CTc c) h0 h) (hc : ∀ x k, ITc R fr0 x k → CTc c x k) {t : Nat × Option Cst} {K : Nat → (Int → Int) → Nat × Option Cst} (hK : ∀ q y, ∃ z, K q y = (q, some z)) (e : t = bnP (itL B L (kd : Int) 4 (p + 1) 0 (usI (kd : Int))) K) (hok : ∀ (h' : Hp) (q : Nat) (y : Int → Int) (z : Cst), K q y = (q, some z) → On (ITc R fr0) h h' → ItA h' R fr0 y → CyA h' c z ∧ SOk z) : wp (cl (Cy_items h 21 (kd : Int) R fr0) (fun r h' => some (r % 2, h'))) (YRs c B L p0 t h0) := by
  refine wp_cl (items_e b O hk T hp) ?_
  rintro x h' ⟨F2, ⟨w, hw, rfl, e3, e4⟩ | ⟨q, y, e2, rfl, hq, cq, T2, A2⟩⟩
  · refine wp_i ⟨F.tr (F2.w hc), Or.inl ⟨w, hw, rfl, e3, ?_⟩⟩
    rcases e4 with e4 | ⟨y, e4, c1, c2⟩
    · exact Or.inl (by rw [e, e4]; rfl)
    · obtain ⟨z, hz⟩ := hK w y
      exact Or.inr ⟨z, by rw [e, e4, bnP_s]; exact hz, c1, c2⟩
  · obtain ⟨z, hz⟩ := hK q y
    obtain ⟨a1, a2⟩ := hok h' q y z hz F2 A2
    exact wp_i ⟨F.tr (F2.w hc), Or.inr ⟨q, z, by rw [e, e2, bnP_s]; exact hz, rfl, by omega, cq, T2, a1, a2⟩⟩
theorem clause_y (b : BOK B L) (y : IsY c) (T : PTp h B L p) (A : CyA h c s) (so : SOk s) : wp (Cy_clause h c 21) (YRs c B L p (cyC B L s p) h) := by
  obtain ⟨y0, y1, y2, y3⟩ := IsY_sh y
  obtain ⟨n1, n2, n3⟩ := nxP_r (B := B) T.2.2.1
  have cb := chP_b (p := nxP B L p) b
  obtain ⟨r01, n6, w8⟩ := id so
  obtain ⟨a1, a2, a3, a4, a5, a6⟩ := A
  have c30 : 30 ≤ c ∧ c ≤ 40 := by rcases y with e | e <;> omega
  have T2 := T.mv n2
  have A' : ∀ (x k v : Int), x = 21 → up h x k v c = h c := fun x k v e => up_off_row (by omega)
  unfold Cy_clause cyC
  rw [cC_s SH21 rfl, Tp_next_e b T, cl_s, w32_n (x := chP B L (nxP B L p)) (by omega) (by omega)]
  have fails : (¬ (chP B L (nxP B L p) = 115 ∧ s.1 = 0)) → (¬ (chP B L (nxP B L p) = 112 ∧ s.2.1 < 6)) → (¬ (chP B L (nxP B L p) = 119 ∧ s.2.2.1 < 8)) → wp (Cy_clause_b120 (up h 21 2 ((nxP B L p : Nat) : Int)) 21) (YRs c B L p (if chP B L (nxP B L p) = 115 ∧ s.1 = 0 then bnP (itL B L 0 4 (nxP B L p + 1) 0 (usI 0)) (fun q r => (q, some (1, s.2.1, s.2.2.1, r, s.2.2.2.2.1, s.2.2.2.2.2))) else if chP B L (nxP B L p) = 112 ∧ s.2.1 < 6 then bnP (itL B L 1 4 (nxP B L p + 1) 0 (usI 1)) (fun q r => (q, some (s.1, s.2.1 + 1, s.2.2.1, s.2.2.2.1, iRow s.2.1 s.2.2.2.2.1 r, s.2.2.2.2.2))) else if chP B L (nxP B L p) = 119 ∧ s.2.2.1 < 8 then bnP (itL B L 2 4 (nxP B L p + 1) 0 (usI 2)) (fun q r => (q, some (s.1, s.2.1, s.2.2.1 + 1, s.2.2.2.1, s.2.2.2.2.1, iRow s.2.2.1 s.2.2.2.2.2 r))) else (nxP B L p, none)) h) := by
    intro c1 c2 c3
    unfold Cy_clause_b120
    rw [cC_s SH21 rfl, Tp_fail_e, cl_s, up_at, if_neg c1, if_neg c2, if_neg c3]
    exact wp_i ⟨ct_2.tr ct_3, Or.inl ⟨_, n2, rfl, up_at, Or.inl rfl⟩⟩
  by_cases c1 : chP B L (nxP B L p) = 115
  · have hl := chP_l c1 (by decide)
    rw [if_pos c1, cC_s y0 rfl, up_ne (by omega), a1]
    rcases r01 with z | z
    · rw [z, if_pos (show w32 0 = 0 by decide), pu_s, if_pos ⟨c1, rfl⟩]
      refine cl_it b (p := nxP B L p) (R := c + 1) (fr0 := 0) (sz := 3) ⟨y1, by omega, by omega, by omega, by omega⟩ (kd := 0) (by decide) hl n1 (T2.on (by rw [up_ne (by omega)]) (by rw [up_ne (by omega)]) (up_off_row (by omega))) (ct_2.tr (On.up (Or.inr (Or.inl ⟨rfl, Or.inl rfl⟩)))) (fun x k q => by unfold ITc at q; unfold CTc; omega) (fun q y => ⟨_, rfl⟩) rfl (fun h' q y2 z2 e F I => ?_)
      have ez := Option.some.inj (congrArg Prod.snd e)
      subst ez
      have rc : h' c = up (up h 21 2 ((nxP B L p : Nat) : Int)) c 3 1 c := F.row (fun k q => by unfold ITc at q; omega)
      have r2 : h' (c + 2) = h (c + 2) := by rw [F.row (fun k q => by unfold ITc at q; omega), up_off_row (by omega), up_off_row (by omega)]
      have r3 : h' (c + 3) = h (c + 3) := by rw [F.row (fun k q => by unfold ITc at q; omega), up_off_row (by omega), up_off_row (by omega)]
      refine ⟨⟨by rw [rc, up_at], by rw [rc, up_off (by decide), up_ne (by omega)]; exact a2, by rw [rc, up_off (by decide), up_ne (by omega)]; exact a3, fun k k0 k1 => ?_, by rw [r2]; exact a5, by rw [r3]; exact a6⟩, Or.inr rfl, n6, w8⟩
      have := I k k0 (by omega)
      rw [Int.zero_add] at this
      exact this
    · rw [z, if_neg (show ¬ w32 1 = 0 by decide)]
      unfold Cy_clause_b34 Cy_clause_b77
      rw [w32_n (x := chP B L (nxP B L p)) (by omega) (by omega), if_neg (by omega), if_neg (by omega)]
      have := fails (fun q => by omega) (fun q => by omega) (fun q => by omega)
      rw [z] at this
      exact this
  · rw [if_neg c1]
    unfold Cy_clause_b34
    rw [w32_n (x := chP B L (nxP B L p)) (by omega) (by omega)]
    by_cases c2 : chP B L (nxP B L p) = 112
    · have hl := chP_l c2 (by decide)
      rw [if_pos c2, cC_s y0 rfl, up_ne (by omega), a2, w32_n (x := (s.2.1 : Int)) (by omega) (by omega)]
      by_cases c3 : s.2.1 < 6
      · have e3 : 3 * (((s.2.1 : Int) + 1) - 1) = 3 * (s.2.1 : Int) := by omega
        rw [if_pos (by omega), pu_s, up_at, e3, if_neg (fun q => c1 q.1), if_pos ⟨c2, c3⟩]
        refine cl_it b (p := nxP B L p) (R := c + 2) (fr0 := 3 * (s.2.1 : Int)) (sz := 18) ⟨y2, by omega, by omega, by omega, by omega⟩ (kd := 1) (by decide) hl n1 (T2.on (by rw [up_ne (by omega)]) (by rw [up_ne (by omega)]) (up_off_row (by omega))) (ct_2.tr (On.up (Or.inr (Or.inl ⟨rfl, Or.inr (Or.inl rfl)⟩)))) (fun x k q => by unfold ITc at q; unfold CTc; omega) (fun q y => ⟨_, rfl⟩) rfl (fun h' q y2 z2 e F I => ?_)
        have ez := Option.some.inj (congrArg Prod.snd e)
        subst ez
        have rc : h' c = up (up h 21 2 ((nxP B L p : Nat) : Int)) c 4 ((s.2.1 : Int) + 1) c := F.row (fun k q => by unfold ITc at q; omega)
        have r1 : h' (c + 1) = h (c + 1) := by rw [F.row (fun k q => by unfold ITc at q; omega), up_off_row (by omega), up_off_row (by omega)]
        have r3 : h' (c + 3) = h (c + 3) := by rw [F.row (fun k q => by unfold ITc at q; omega), up_off_row (by omega), up_off_row (by omega)]
        refine ⟨⟨by rw [rc, up_off (by decide), up_ne (by omega)]; exact a1, by rw [rc, up_at]; rfl, by rw [rc, up_off (by decide), up_ne (by omega)]; exact a3, by rw [r1]; exact a4, fun k k0 k1 => ?_, by rw [r3]; exact a6⟩, r01, by show s.2.1 + 1 ≤ 6; omega, w8⟩
        show h' (c + 2) k = iRow s.2.1 s.2.2.2.2.1 y2 k
        unfold iRow
        have k1' : k < 3 * ((s.2.1 + 1 : Nat) : Int) := k1
        by_cases z : 3 * (s.2.1 : Int) ≤ k
        · rw [if_pos z]
          have := I (k - 3 * (s.2.1 : Int)) (by omega) (by omega)
          rw [← this]
          congr 1
          omega
        · rw [if_neg z, F _ _ (fun q => by unfold ITc at q; omega), up_ne (by omega), up_ne (by omega)]
          exact a5 k k0 (by omega)
      · rw [if_neg (by omega)]
        unfold Cy_clause_b77
        rw [w32_n (x := chP B L (nxP B L p)) (by omega) (by omega), if_neg (by omega)]
        exact fails (fun q => c1 q.1) (fun q => c3 q.2) (fun q => by omega)
    · rw [if_neg c2]
      unfold Cy_clause_b77
      rw [w32_n (x := chP B L (nxP B L p)) (by omega) (by omega)]
      by_cases c4 : chP B L (nxP B L p) = 119
      · have hl := chP_l c4 (by decide)
        rw [if_pos c4, cC_s y0 rfl, up_ne (by omega), a3, w32_n (x := (s.2.2.1 : Int)) (by omega) (by omega)]
        by_cases c3 : s.2.2.1 < 8
        · have e3 : 3 * (((s.2.2.1 : Int) + 1) - 1) = 3 * (s.2.2.1 : Int) := by omega
          rw [if_pos (by omega), pu_s, up_at, e3, if_neg (fun q => c1 q.1), if_neg (fun q => c2 q.1), if_pos ⟨c4, c3⟩]
          refine cl_it b (p := nxP B L p) (R := c + 3) (fr0 := 3 * (s.2.2.1 : Int)) (sz := 24) ⟨y3, by omega, by omega, by omega, by omega⟩ (kd := 2) (by decide) hl n1 (T2.on (by rw [up_ne (by omega)]) (by rw [up_ne (by omega)]) (up_off_row (by omega))) (ct_2.tr (On.up (Or.inr (Or.inl ⟨rfl, Or.inr (Or.inr rfl)⟩)))) (fun x k q => by unfold ITc at q; unfold CTc; omega) (fun q y => ⟨_, rfl⟩) rfl (fun h' q y2 z2 e F I => ?_)
          have ez := Option.some.inj (congrArg Prod.snd e)
          subst ez
          have rc : h' c = up (up h 21 2 ((nxP B L p : Nat) : Int)) c 5 ((s.2.2.1 : Int) + 1) c := F.row (fun k q => by unfold ITc at q; omega)
          have r1 : h' (c + 1) = h (c + 1) := by rw [F.row (fun k q => by unfold ITc at q; omega), up_off_row (by omega), up_off_row (by omega)]
          have r2 : h' (c + 2) = h (c + 2) := by rw [F.row (fun k q => by unfold ITc at q; omega), up_off_row (by omega), up_off_row (by omega)]
          refine ⟨⟨by rw [rc, up_off (by decide), up_ne (by omega)]; exact a1, by rw [rc, up_off (by decide), up_ne (by omega)]; exact a2, by rw [rc, up_at]; rfl, by rw [r1]; exact a4, by rw [r2]; exact a5, fun k k0 k1 => ?_⟩, r01, n6, by show s.2.2.1 + 1 ≤ 8; omega⟩
          show h' (c + 3) k = iRow s.2.2.1 s.2.2.2.2.2 y2 k
          unfold iRow
          have k1' : k < 3 * ((s.2.2.1 + 1 : Nat) : Int) := k1
          by_cases z : 3 * (s.2.2.1 : Int) ≤ k
          · rw [if_pos z]
            have := I (k - 3 * (s.2.2.1 : Int)) (by omega) (by omega)
            rw [← this]
            congr 1
            omega
          · rw [if_neg z, F _ _ (fun q => by unfold ITc at q; omega), up_ne (by omega), up_ne (by omega)]
            exact a6 k k0 (by omega)
        · rw [if_neg (by omega)]
          exact fails (fun q => c1 q.1) (fun q => c2 q.1) (fun q => c3 q.2)
      · rw [if_neg c4]
        exact fails (fun q => c1 q.1) (fun q => c2 q.1) (fun q => c4 q.1)
end C
end PureCty2
