section EvNew2
variable {ω : Wd} {M : Mt} {d mc ms cl sl : Nat} {PQ : PQt} {sh : Shp} {pt : Ptr} {z : Nat → Prop} {h : Hp} {pc : Nat} {lv : List (Option Value)} {st : List Value} {n t : Nat}
/-- a reference is set for good -/
theorem ev_putF {idx c9 k9 : Nat} {a b : Int} (hat : asA t = (a, (k9 : Int))) (hb : PT a k9 = b) (hd : decode M.2.1 pc = .ok (.putfield idx, 3)) (hF : FL M.1.cls idx c9 k9) (hc : c9 < 100) (hs : (sh a).1 = c9) (h20 : 20 ≤ a) (hfin : ∀ q, vwCl[c9]? = some q → (q.2.1 k9).2.2.2 = true ∧ (q.2.1 k9).1 = M.1.cls) (hin : M.1.name = "<init>") (hty : (tyf c9 k9).isReference = true) (hk : fkd c9 k9 = 2) (k : Ev ω M d PQ mc ms cl sl sh (pN (t + 1)) z h (pc + 3) lv st) : Ev ω M d PQ mc ms cl sl sh (pN t) z h pc lv (aV ω b :: aV ω a :: st) := by
  intro p l e R s m args below meth c H locs ls Y
  obtain ⟨C, rm9, hV, hH, hl, hS⟩ := id Y
  obtain ⟨q, hq, hkN, hw⟩ := hF
  have hok : (sh a).1 < 500 := by omega
  rw [aV_pos (hH.2.2.2.1 a hok)]
  obtain ⟨cell, c1, c2, c3, -, -⟩ := hH.1 a hok
  obtain ⟨g1, g2, q', g3, g4⟩ := c3 (by omega)
  rw [hs] at g2 g3 g4
  obtain rfl : q = q' := Option.some.inj (hq.symm.trans g3)
  obtain ⟨hSl, hfc, kC, hkC, hkind⟩ := hV.1 c9 q hq
  have hts : ∀ w ∈ WS, w.before args s = true := C.2.2.2.2.2.1
  have hin9 := inWX c9 q hq
  have hap : ∀ x y : Nat, x < q.2.2 → y < q.2.2 → x ≠ y → ω.2.2.1 c9 x ≠ ω.2.2.1 c9 y := by
    intro x y hx hy hne
    obtain ⟨_, _, _, fa, hia, ea⟩ := hSl x hx
    obtain ⟨_, _, _, fb, hib, eb⟩ := hSl y hy
    rw [← ea, ← eb]
    refine u_apart (u_lays hts hin9 hx) (u_lays hts hin9 hy) hia hib ?_
    rw [(State.fieldFound?_type hia (tyWX c9 q hq x hx)).1, (State.fieldFound?_type hib (tyWX c9 q hq y hy)).1]
    exact nmWX c9 q hq x hx y hy hne
  obtain ⟨cf, kf, fi, f, hi, hsl⟩ := hSl k9 hkN
  have hlay := hts _ (hin9 _ (u_in_lay hkN))
  unfold u_lay at hlay
  rw [if_pos (hfin q hq).1] at hlay
  have hst := (u_facts hfc hkC (u_lays hts hin9 hkN) hi).1
  have hown : s.vm.findClass M.1.cls = some m.cls := C.2.2.2.2.1
  have hcf : m.cls = cf := by
    obtain ⟨_, _, c', _, _, _, -, -, hf', -, -, -, hown2, -⟩ := Cond.laysFinal_spec hlay
    have e1 : c' = cf := by have := hi.symm.trans hf'; simp at this; exact this.1.symm
    rw [(hfin q hq).2] at hown2
    rw [← e1]; exact Option.some.inj (hown.symm.trans hown2)
  have hn : narrow (tyf c9 k9) (aV ω b) = aV ω b := by
    rcases isA_aV ω b with g | ⟨b, g⟩ <;> rw [g] <;> cases hy : tyf c9 k9 <;> first | rfl | (rw [hy] at hty; cases hty)
  have hfit : fits (tyf c9 k9) (aV ω b) = true := by
    rcases isA_aV ω b with g | ⟨b, g⟩ <;> rw [g] <;> cases hy : tyf c9 k9 <;> first | rfl | (rw [hy] at hty; cases hty)
  have h6 := u_fits hfc hkC hkind (Or.inr hlay) hi (tyWX c9 q hq k9 hkN) hn hfit
  have hap9 : ∀ x : Nat, x < q.2.2 → x ≠ k9 → ω.2.2.1 c9 x ≠ f.slot := fun x hx hne => by rw [hsl]; exact hap x k9 hx hkN hne
  have hhas : f.slot < cell.slots.size := by rw [hsl]; exact k2_hasslot (g4 k9 hkN)
  refine W.putFinK C.1 C.2.1 hown (hts _ hw) hi hst hcf (C.2.2.2.2.2.2.2.1.trans hin) (by rw [g2]; exact h6) c1 g1 hhas rfl rfl hd fun H' e1 e2 e3 => ?_
  have hpt : pN (t + 1) a k9 = b := by rw [← hb]; exact if_pos (by rw [hat]; exact ⟨rfl, rfl⟩)
  have hkeep : ∀ (kd : Nat) (i : Nat), i ≠ k9 → fV ω (pN (t + 1)) h kd a i = fV ω (pN t) h kd a i := by
    intro kd i hne
    have : pN (t + 1) a i = pN t a i := pN_ne (by rw [hat]; exact fun e => hne (Int.ofNat_inj.mp e.2))
    unfold fV
    simp only [this]
  have hc' : cellOK ω sh (pN (t + 1)) h s H' a := by
    refine ⟨_, e1, c2, fun _ => ⟨g1, by rw [hs]; exact g2, q, by rw [hs]; exact hq, fun j hj => ?_⟩, fun g => absurd g (by omega), fun g => absurd g (by omega)⟩
    rw [hs]
    by_cases hjk : j = k9
    · subst hjk
      rw [hk, hsl.symm]
      show _ = some (aV ω (pN (t + 1) a j))
      rw [hpt]
      simp [Cell.setSlot, Array.getElem?_setIfInBounds, hhas]
    · rw [hkeep _ j hjk, ← g4 j hj]
      simp [Cell.setSlot, Array.getElem?_setIfInBounds, Ne.symm (hap9 j hj hjk)]
  exact k p l e R s m args below meth c H' _ ls ⟨C, rm9, hV, hH.upd hok h20 e2 e3 hc' (fun _ _ _ => rfl) (fun b hb i => pN_ne (by rw [hat]; exact fun e => hb e.1)), hl, hS.put e2 e3 (hH.2.2.1 a hok h20)⟩
/-- a place is written that holds the value already -/
theorem ev_putS {idx c9 k9 : Nat} {a x : Int} (hd : decode M.2.1 pc = .ok (.putfield idx, 3)) (hF : FL M.1.cls idx c9 k9) (hc : c9 < 100) (hs : (sh a).1 = c9) (h20 : 20 ≤ a) (hfin : ∀ q, vwCl[c9]? = some q → (q.2.1 k9).2.2.2 = false) (ht : tyf c9 k9 = .int ∨ (tyf c9 k9 = .boolean ∧ x = 0)) (hk : fkd c9 k9 = 0) (hx : h a k9 = x) (k : Ev ω M d PQ mc ms cl sl sh pt z h (pc + 3) lv st) : Ev ω M d PQ mc ms cl sl sh pt z h pc lv (iV x :: aV ω a :: st) :=
  ev_put (h' := h) hd hF hc hs h20 hfin (by
    rcases ht with ht | ⟨ht, rfl⟩ <;> rw [ht] <;> rfl) (by
    rcases ht with ht | ⟨ht, rfl⟩ <;> rw [ht] <;> rfl) (by rw [hk, ← hx]; rfl) (fun _ _ _ => rfl) k
theorem ev_putSL {idx c9 k9 : Nat} {a x : Int} (hd : decode M.2.1 pc = .ok (.putfield idx, 3)) (hF : FL M.1.cls idx c9 k9) (hc : c9 < 100) (hs : (sh a).1 = c9) (h20 : 20 ≤ a) (hfin : ∀ q, vwCl[c9]? = some q → (q.2.1 k9).2.2.2 = false) (ht : tyf c9 k9 = .long) (hk : fkd c9 k9 = 1) (hx : h a k9 = x) (k : Ev ω M d PQ mc ms cl sl sh pt z h (pc + 3) lv st) : Ev ω M d PQ mc ms cl sl sh pt z h pc lv (lV x :: aV ω a :: st) :=
  ev_put (h' := h) hd hF hc hs h20 hfin (by rw [ht]; rfl) (by rw [ht]; rfl) (by rw [hk, ← hx]; rfl) (fun _ _ _ => rfl) k
theorem aast_ix {i N S : Nat} (hi : i < N) (hN : N ≤ S) (h9 : N ≤ 10000) : ¬ (Int32.ofInt (i : Int) < 0 ∨ S ≤ (Int32.ofInt (i : Int)).toNatClampNeg) ∧ (Int32.ofInt (i : Int)).toNatClampNeg = i ∧ i < S := by
  have hw : w32 (i : Int) = i := by unfold w32; omega
  exact ⟨ix_ok (n := N) (by rw [hw]; omega) (by rw [hw]; omega) hN, by rw [iv_clamp, hw]; rfl, by omega⟩
/-- a row's place is set for good -/
theorem ev_aast {a b : Int} {i c9 : Nat} {q9 : vw_C} (hat : asA t = (a, (i : Int))) (hb : PT a i = b) (hd : decode M.2.1 pc = .ok (.aastore, 1)) (hs : 110 ≤ (sh a).1 ∧ (sh a).1 < 500) (h20 : 20 ≤ a) (hi : i < (sh a).2) (hi9 : (sh a).2 ≤ 10000) (hc : c9 < 100) (hsb : (sh b).1 = c9) (hq9 : vwCl[c9]? = some q9) (hT : kTy (sh a).1 = .object q9.1) (k : Ev ω M d PQ mc ms cl sl sh (pN (t + 1)) z h (pc + 1) lv st) : Ev ω M d PQ mc ms cl sl sh (pN t) z h pc lv (aV ω b :: iV i :: aV ω a :: st) := by
  intro p l e R s m args below meth c H locs ls Y
  obtain ⟨C, rm9, hV, hH, hl, hS⟩ := id Y
  have hok : (sh a).1 < 500 := hs.2
  have hokb : (sh b).1 < 500 := by omega
  rw [aV_pos (hH.2.2.2.1 a hok), aV_pos (hH.2.2.2.1 b hokb)]
  obtain ⟨cell, c1, c2, -, c4, c5⟩ := hH.1 a hok
  obtain ⟨g1, g2, g3, g4⟩ := c4 (by omega)
  have hRA := c5 hs.1
  rw [hT] at hRA g1
  obtain ⟨kA, comp, k1, k2, k3, -⟩ := hRA
  obtain ⟨cellV, v1, v2, v3, -, -⟩ := hH.1 b hokb
  obtain ⟨w1, w2, q', w3, w4⟩ := v3 (by omega)
  rw [hsb] at w2
  have hcls := (hV.1 c9 q9 hq9).2
  have hcomp : comp = ω.2.1 c9 := Option.some.inj (k3.symm.trans hcls.1)
  subst hcomp
  obtain ⟨kC, hkC, -⟩ := hcls.2
  obtain ⟨hix, hnat, hlt⟩ := aast_ix hi g2 hi9
  have hobj : ∀ q, cell.vm ≠ .statics q := g1.1
  refine W.aast C.1 C.2.1 c1 hobj c2 k1 k2 rfl hkC ⟨fun q => hix (Or.inl q), Nat.not_le.mp fun q => hix (Or.inr q)⟩ v1 (fun q h => by rw [w1] at h; cases h) (by rw [w2]; exact hkC) (by rw [w2]; exact va_assign hcls) rfl rfl hd fun H' e1 e2 e3 => ?_
  rw [hnat] at e1
  have hpt : pN (t + 1) a i = b := by rw [← hb]; exact if_pos (by rw [hat]; exact ⟨rfl, rfl⟩)
  have hc' : cellOK ω sh (pN (t + 1)) h s H' a := by
    refine ⟨_, e1, c2, fun g => absurd g (by omega), fun _ => ⟨by rw [hT]; exact g1, by simpa [Cell.setSlot] using g2, by simpa [Cell.setSlot] using g3, fun j hj => ?_⟩, fun _ => by rw [hT]; exact ⟨kA, _, k1, k2, k3, by obtain ⟨_, _, _, _, _, z⟩ := (by have := c5 hs.1; rw [hT] at this; exact this); exact z⟩⟩
    have hkE : kEl (sh a).1 = 2 := by unfold kEl; rw [if_neg (by omega), if_pos hs.1]
    rw [hkE]
    show _ = some (aV ω (pN (t + 1) a j))
    by_cases hji : j = i
    · subst hji
      rw [hpt, aV_pos (hH.2.2.2.1 b hokb)]
      simp [Cell.setSlot, Array.getElem?_setIfInBounds, hlt]
    · have hne : pN (t + 1) a j = pN t a j := pN_ne (by rw [hat]; exact fun e => hji (Int.ofNat_inj.mp e.2))
      have h5 := g4 j hj
      rw [hkE] at h5
      rw [hne]
      rw [show aV ω (pN t a j) = fV ω (pN t) (rd h) 2 a j from rfl, ← h5]
      simp [Cell.setSlot, Array.getElem?_setIfInBounds, Ne.symm hji]
  exact k p l e R s m args below meth c H' _ ls ⟨C, rm9, hV, hH.upd hok h20 e2 e3 hc' (fun _ _ _ => rfl) (fun b hb i => pN_ne (by rw [hat]; exact fun e => hb e.1)), hl, hS.put e2 e3 (hH.2.2.1 a hok h20)⟩
end EvNew2
