section EvMem
variable {ω : Wd} {M : Mt} {d mc ms cl sl : Nat} {PQ : PQt} {sh : Shp} {pt : Ptr} {z : Nat → Prop} {h : Hp} {pc : Nat} {lv : List (Option Value)} {st : List Value}
/-- a pool entry of own's is field k of class c -/
def FL (own : String) (idx c k : Nat) : Prop := ∃ q : vw_C, vwCl[c]? = some q ∧ k < q.2.2 ∧ Cond.fieldLink own idx (q.2.1 k).1 (q.2.1 k).2.1 (q.2.1 k).2.2.1 ∈ WS
theorem aV_pos {ω : Wd} {a : Int} (ha : 0 ≤ a) : aV ω a = .ref (ω.1 a) := if_neg (by omega)
theorem ev_get {idx c9 k9 : Nat} {a : Int} {v : Value} (hd : decode M.2.1 pc = .ok (.getfield idx, 3)) (hF : FL M.1.cls idx c9 k9) (hc : c9 < 100) (hs : (sh a).1 = c9) (hv : fV ω pt h (fkd c9 k9) a k9 = v) (k : Ev ω M d PQ mc ms cl sl sh pt z h (pc + 3) lv (v :: st)) : Ev ω M d PQ mc ms cl sl sh pt z h pc lv (aV ω a :: st) := by
  intro p l e R s m args below meth c H locs ls Y
  obtain ⟨C, rm9, hV, hH, hl, hS⟩ := id Y
  obtain ⟨q, hq, hk, hw⟩ := hF
  have hok : (sh a).1 < 500 := by omega
  rw [aV_pos (hH.2.2.2.1 a hok)]
  obtain ⟨cell, c1, c2, c3, -, -⟩ := hH.1 a hok
  obtain ⟨g1, g2, q', g3, g4⟩ := c3 (by omega)
  rw [hs] at g2 g3 g4
  obtain rfl : q = q' := Option.some.inj (hq.symm.trans g3)
  obtain ⟨hSl, hfc, kC, hkC, hkind⟩ := hV.1 c9 q hq
  obtain ⟨cf, kf, fi, f, hi, hsl⟩ := hSl k9 hk
  have hts : ∀ w ∈ WS, w.before args s = true := C.2.2.2.2.2.1
  refine W.getf C.1 C.2.1 C.2.2.2.2.1 (hts _ hw) hi (u_facts hfc hkC (u_lays hts (inWX c9 q hq) hk) hi).1 c1 c2 (v := v) ?_ rfl rfl hd (k p l e R s m args below meth c H locs ls Y)
  rw [hsl, g4 k9 hk, hv]
theorem ev_put {idx c9 k9 : Nat} {a : Int} {v : Value} {h' : Hp} (hd : decode M.2.1 pc = .ok (.putfield idx, 3)) (hF : FL M.1.cls idx c9 k9) (hc : c9 < 100) (hs : (sh a).1 = c9) (h20 : 20 ≤ a) (hfin : ∀ q, vwCl[c9]? = some q → (q.2.1 k9).2.2.2 = false)
    (hn : narrow (tyf c9 k9) v = v) (hfit : fits (tyf c9 k9) v = true) (hv : fV ω pt h' (fkd c9 k9) a k9 = v) (hh : ∀ b : Int, ∀ i : Int, (b ≠ a ∨ i ≠ k9) → h' b i = h b i) (k : Ev ω M d PQ mc ms cl sl sh pt z h' (pc + 3) lv st) : Ev ω M d PQ mc ms cl sl sh pt z h pc lv (v :: aV ω a :: st) := by
  intro p l e R s m args below meth c H locs ls Y
  obtain ⟨C, rm9, hV, hH, hl, hS⟩ := id Y
  obtain ⟨q, hq, hk, hw⟩ := hF
  have hok : (sh a).1 < 500 := by omega
  rw [aV_pos (hH.2.2.2.1 a hok)]
  obtain ⟨cell, c1, c2, c3, -, -⟩ := hH.1 a hok
  obtain ⟨g1, g2, q', g3, g4⟩ := c3 (by omega)
  rw [hs] at g2 g3 g4
  obtain rfl : q = q' := Option.some.inj (hq.symm.trans g3)
  obtain ⟨hSl, hfc, kC, hkC, hkind⟩ := hV.1 c9 q hq
  have hts : ∀ w ∈ WS, w.before args s = true := C.2.2.2.2.2.1
  have hin := inWX c9 q hq
  have hap : ∀ x y : Nat, x < q.2.2 → y < q.2.2 → x ≠ y → ω.2.2.1 c9 x ≠ ω.2.2.1 c9 y := by
    intro x y hx hy hne
    obtain ⟨_, _, _, fa, hia, ea⟩ := hSl x hx
    obtain ⟨_, _, _, fb, hib, eb⟩ := hSl y hy
    rw [← ea, ← eb]
    refine u_apart (u_lays hts hin hx) (u_lays hts hin hy) hia hib ?_
    rw [(State.fieldFound?_type hia (tyWX c9 q hq x hx)).1, (State.fieldFound?_type hib (tyWX c9 q hq y hy)).1]
    exact nmWX c9 q hq x hx y hy hne
  obtain ⟨cf, kf, fi, f, hi, hsl⟩ := hSl k9 hk
  have hlay := hts _ (hin _ (u_in_lay hk))
  unfold u_lay at hlay
  rw [if_neg (by rw [hfin q hq]; decide)] at hlay
  have hst := (u_facts hfc hkC (u_lays hts hin hk) hi).1
  have h6 := u_store hfc hkC hkind hlay hi (tyWX c9 q hq k9 hk) hn hfit
  have hap9 : ∀ x : Nat, x < q.2.2 → x ≠ k9 → ω.2.2.1 c9 x ≠ f.slot := fun x hx hne => by rw [hsl]; exact hap x k9 hx hk hne
  have hhas : f.slot < cell.slots.size := by rw [hsl]; exact k2_hasslot (g4 k9 hk)
  refine W.putK C.1 C.2.1 (f := f) ⟨C.2.2.2.2.1, hts _ hw, ⟨_, _, _, hi⟩, hst⟩ (by rw [g2]; exact h6) c1 g1 hhas rfl rfl hd fun H' e1 e2 e3 => ?_
  have hkeep : ∀ (kd : Nat) (i : Nat), i ≠ k9 → fV ω pt h' kd a i = fV ω pt h kd a i := by
    intro kd i hne
    unfold fV
    simp only [hh a i (Or.inr (by omega))]
  have hc' : cellOK ω sh pt h' s H' a := by
    refine ⟨_, e1, c2, fun _ => ⟨g1, by rw [hs]; exact g2, q, by rw [hs]; exact hq, fun j hj => ?_⟩, fun g => absurd g (by omega), fun g => absurd g (by omega)⟩
    rw [hs]
    by_cases hjk : j = k9
    · subst hjk
      rw [hv, hsl.symm]
      simp [Cell.setSlot, Array.getElem?_setIfInBounds, hhas]
    · rw [hkeep _ j hjk, ← g4 j hj]
      simp [Cell.setSlot, Array.getElem?_setIfInBounds, Ne.symm (hap9 j hj hjk)]
  exact k p l e R s m args below meth c H' _ ls ⟨C, rm9, hV, hH.upd hok h20 e2 e3 hc' (fun b hb i => hh b i (Or.inl hb)) (fun _ _ _ => rfl), hl, hS.put e2 e3 (hH.2.2.1 a hok h20)⟩
theorem up_hh {h : Hp} {a i x : Int} : ∀ b : Int, ∀ j : Int, (b ≠ a ∨ j ≠ i) → up h a i x b j = h b j := by
  intro b j hb
  refine if_neg (fun q => ?_)
  rcases hb with g | g
  · exact g q.1
  · exact g q.2
theorem ev_putI {idx c9 k9 : Nat} {a x : Int} (hd : decode M.2.1 pc = .ok (.putfield idx, 3)) (hF : FL M.1.cls idx c9 k9) (hc : c9 < 100) (hs : (sh a).1 = c9) (h20 : 20 ≤ a) (hfin : ∀ q, vwCl[c9]? = some q → (q.2.1 k9).2.2.2 = false) (ht : tyf c9 k9 = .int) (hk : fkd c9 k9 = 0) (k : Ev ω M d PQ mc ms cl sl sh pt z (up h a k9 x) (pc + 3) lv st) : Ev ω M d PQ mc ms cl sl sh pt z h pc lv (iV x :: aV ω a :: st) :=
  ev_put hd hF hc hs h20 hfin (by rw [ht]; rfl) (by rw [ht]; rfl) (by rw [hk]; show iV _ = _; rw [up_at]) up_hh k
theorem ev_putZ {idx c9 k9 : Nat} {a x : Int} (hd : decode M.2.1 pc = .ok (.putfield idx, 3)) (hF : FL M.1.cls idx c9 k9) (hc : c9 < 100) (hs : (sh a).1 = c9) (h20 : 20 ≤ a) (hfin : ∀ q, vwCl[c9]? = some q → (q.2.1 k9).2.2.2 = false) (ht : tyf c9 k9 = .boolean) (hk : fkd c9 k9 = 0) (hx : x = 0 ∨ x = 1) (k : Ev ω M d PQ mc ms cl sl sh pt z (up h a k9 x) (pc + 3) lv st) : Ev ω M d PQ mc ms cl sl sh pt z h pc lv (iV x :: aV ω a :: st) :=
  ev_put hd hF hc hs h20 hfin (by rw [ht]; rcases hx with rfl | rfl <;> decide) (by rw [ht]; rcases hx with rfl | rfl <;> decide) (by rw [hk]; show iV _ = _; rw [up_at]) up_hh k
theorem ev_putL {idx c9 k9 : Nat} {a x : Int} (hd : decode M.2.1 pc = .ok (.putfield idx, 3)) (hF : FL M.1.cls idx c9 k9) (hc : c9 < 100) (hs : (sh a).1 = c9) (h20 : 20 ≤ a) (hfin : ∀ q, vwCl[c9]? = some q → (q.2.1 k9).2.2.2 = false) (ht : tyf c9 k9 = .long) (hk : fkd c9 k9 = 1) (k : Ev ω M d PQ mc ms cl sl sh pt z (up h a k9 x) (pc + 3) lv st) : Ev ω M d PQ mc ms cl sl sh pt z h pc lv (lV x :: aV ω a :: st) :=
  ev_put hd hF hc hs h20 hfin (by rw [ht]; rfl) (by rw [ht]; rfl) (by rw [hk]; show lV _ = _; rw [up_at]) up_hh k
theorem ev_putA {idx c9 k9 : Nat} {a x : Int} (hd : decode M.2.1 pc = .ok (.putfield idx, 3)) (hF : FL M.1.cls idx c9 k9) (hc : c9 < 100) (hs : (sh a).1 = c9) (h20 : 20 ≤ a) (hfin : ∀ q, vwCl[c9]? = some q → (q.2.1 k9).2.2.2 = false) (ht : (tyf c9 k9).isReference = true) (hk : fkd c9 k9 = 3) (k : Ev ω M d PQ mc ms cl sl sh pt z (up h a k9 x) (pc + 3) lv st) : Ev ω M d PQ mc ms cl sl sh pt z h pc lv (aV ω x :: aV ω a :: st) :=
  ev_put hd hF hc hs h20 hfin (by
    rcases isA_aV ω x with g | ⟨b, g⟩ <;> rw [g] <;> cases hy : tyf c9 k9 <;> first | rfl | (rw [hy] at ht; cases ht)) (by
    rcases isA_aV ω x with g | ⟨b, g⟩ <;> rw [g] <;> cases hy : tyf c9 k9 <;> first | rfl | (rw [hy] at ht; cases ht)) (by rw [hk]; show aV _ _ = _; rw [up_at]) up_hh k
theorem ix_ok {i : Int} {n N : Nat} (h0 : 0 ≤ w32 i) (h1 : w32 i < n) (h2 : n ≤ N) : ¬ (Int32.ofInt i < 0 ∨ N ≤ (Int32.ofInt i).toNatClampNeg) := by
  rw [iv_clamp]
  rintro (g | g)
  · rw [iv_0, iv_lt, w32_0] at g; omega
  · omega
theorem ix_nat {i : Int} (h0 : 0 ≤ w32 i) : (((w32 i).toNat : Nat) : Int) = w32 i := by omega
theorem ev_iald {a i : Int} (hd : decode M.2.1 pc = .ok (.iaload, 1)) (hs : (sh a).1 = 100) (h0 : 0 ≤ w32 i) (h1 : w32 i < (sh a).2) (k : Ev ω M d PQ mc ms cl sl sh pt z h (pc + 1) lv (iV (rd h a (w32 i)) :: st)) : Ev ω M d PQ mc ms cl sl sh pt z h pc lv (iV i :: aV ω a :: st) := by
  intro p l e R s m args below meth c H locs ls Y
  obtain ⟨C, rm9, hV, hH, hl, hS⟩ := id Y
  have hok : (sh a).1 < 500 := by omega
  rw [aV_pos (hH.2.2.2.1 a hok)]
  obtain ⟨cell, c1, c2, -, c4, c5⟩ := hH.1 a hok
  obtain ⟨g1, g2, g3, g4⟩ := c4 (by omega)
  have g5 := g4 (w32 i).toNat (by omega)
  rw [hs, ix_nat h0] at g5
  rw [hs] at g1
  refine W.iald C.1 C.2.1 c1 g1 c2 (ix_ok h0 h1 g2) (v := iV (rd h a (w32 i))) ?_ rfl rfl hd (k p l e R s m args below meth c H locs ls Y)
  rw [iv_clamp, g5]
  rfl
theorem ev_bald {a i : Int} (hd : decode M.2.1 pc = .ok (.baload, 1)) (hs : (sh a).1 = 101) (h0 : 0 ≤ w32 i) (h1 : w32 i < (sh a).2) (k : Ev ω M d PQ mc ms cl sl sh pt z h (pc + 1) lv (iV (rd h a (w32 i)) :: st)) : Ev ω M d PQ mc ms cl sl sh pt z h pc lv (iV i :: aV ω a :: st) := by
  intro p l e R s m args below meth c H locs ls Y
  obtain ⟨C, rm9, hV, hH, hl, hS⟩ := id Y
  have hok : (sh a).1 < 500 := by omega
  rw [aV_pos (hH.2.2.2.1 a hok)]
  obtain ⟨cell, c1, c2, -, c4, c5⟩ := hH.1 a hok
  obtain ⟨g1, g2, g3, g4⟩ := c4 (by omega)
  have g5 := g4 (w32 i).toNat (by omega)
  rw [hs, ix_nat h0] at g5
  rw [hs] at g1
  refine W.bald C.1 C.2.1 c1 g1 c2 (ix_ok h0 h1 g2) (v := iV (rd h a (w32 i))) ?_ rfl rfl hd (k p l e R s m args below meth c H locs ls Y)
  rw [iv_clamp, g5]
  rfl
theorem ev_lald {a i : Int} (hd : decode M.2.1 pc = .ok (.laload, 1)) (hs : (sh a).1 = 102) (h0 : 0 ≤ w32 i) (h1 : w32 i < (sh a).2) (k : Ev ω M d PQ mc ms cl sl sh pt z h (pc + 1) lv (lV (rd h a (w32 i)) :: st)) : Ev ω M d PQ mc ms cl sl sh pt z h pc lv (iV i :: aV ω a :: st) := by
  intro p l e R s m args below meth c H locs ls Y
  obtain ⟨C, rm9, hV, hH, hl, hS⟩ := id Y
  have hok : (sh a).1 < 500 := by omega
  rw [aV_pos (hH.2.2.2.1 a hok)]
  obtain ⟨cell, c1, c2, -, c4, c5⟩ := hH.1 a hok
  obtain ⟨g1, g2, g3, g4⟩ := c4 (by omega)
  have g5 := g4 (w32 i).toNat (by omega)
  rw [hs, ix_nat h0] at g5
  rw [hs] at g1
  refine W.lald C.1 C.2.1 c1 g1 c2 (ix_ok h0 h1 g2) (v := lV (rd h a (w32 i))) ?_ rfl rfl hd (k p l e R s m args below meth c H locs ls Y)
  rw [iv_clamp, g5]
  rfl
theorem ev_zald {a i : Int} (hd : decode M.2.1 pc = .ok (.baload, 1)) (hs : (sh a).1 = 103) (h0 : 0 ≤ w32 i) (h1 : w32 i < (sh a).2) (k : Ev ω M d PQ mc ms cl sl sh pt z h (pc + 1) lv (iV (rd h a (w32 i)) :: st)) : Ev ω M d PQ mc ms cl sl sh pt z h pc lv (iV i :: aV ω a :: st) := by
  intro p l e R s m args below meth c H locs ls Y
  obtain ⟨C, rm9, hV, hH, hl, hS⟩ := id Y
  have hok : (sh a).1 < 500 := by omega
  rw [aV_pos (hH.2.2.2.1 a hok)]
  obtain ⟨cell, c1, c2, -, c4, c5⟩ := hH.1 a hok
  obtain ⟨g1, g2, g3, g4⟩ := c4 (by omega)
  have g5 := g4 (w32 i).toNat (by omega)
  rw [hs, ix_nat h0] at g5
  rw [hs] at g1
  refine W.zald C.1 C.2.1 c1 g1 c2 (ix_ok h0 h1 g2) (v := iV (rd h a (w32 i))) ?_ rfl rfl hd (k p l e R s m args below meth c H locs ls Y)
  rw [iv_clamp, g5]
  rfl
theorem ev_aald {a i : Int} (hd : decode M.2.1 pc = .ok (.aaload, 1)) (hs : 110 ≤ (sh a).1 ∧ (sh a).1 < 500) (h0 : 0 ≤ w32 i) (h1 : w32 i < (sh a).2) (k : Ev ω M d PQ mc ms cl sl sh pt z h (pc + 1) lv (aV ω (pt a (w32 i)) :: st)) : Ev ω M d PQ mc ms cl sl sh pt z h pc lv (iV i :: aV ω a :: st) := by
  intro p l e R s m args below meth c H locs ls Y
  obtain ⟨C, rm9, hV, hH, hl, hS⟩ := id Y
  have hok : (sh a).1 < 500 := hs.2
  rw [aV_pos (hH.2.2.2.1 a hok)]
  obtain ⟨cell, c1, c2, -, c4, c5⟩ := hH.1 a hok
  obtain ⟨g1, g2, g3, g4⟩ := c4 (by omega)
  have g5 := g4 (w32 i).toNat (by omega)
  rw [ix_nat h0, show kEl (sh a).1 = 2 from by unfold kEl; rw [if_neg (by omega), if_pos hs.1]] at g5
  have hr : (kTy (sh a).1).isReference = true := by
    unfold kTy
    split <;> first | rfl | omega
  refine W.aald C.1 C.2.1 c1 g1 hr c2 (ix_ok h0 h1 g2) (v := aV ω (pt a (w32 i))) ?_ rfl rfl hd (k p l e R s m args below meth c H locs ls Y)
  rw [iv_clamp, g5]
  rfl
theorem ev_alen {a : Int} (hd : decode M.2.1 pc = .ok (.arraylength, 1)) (hs : 100 ≤ (sh a).1 ∧ (sh a).1 < 500) (k : Ev ω M d PQ mc ms cl sl sh pt z h (pc + 1) lv (iV ((sh a).2 : Int) :: st)) : Ev ω M d PQ mc ms cl sl sh pt z h pc lv (aV ω a :: st) := by
  intro p l e R s m args below meth c H locs ls Y
  obtain ⟨C, rm9, hV, hH, hl, hS⟩ := id Y
  have hok : (sh a).1 < 500 := hs.2
  rw [aV_pos (hH.2.2.2.1 a hok)]
  obtain ⟨cell, c1, c2, -, c4, c5⟩ := hH.1 a hok
  obtain ⟨g1, g2, g3, g4⟩ := c4 hs.1
  exact W.alen C.1 C.2.1 c1 g1 g3 rfl rfl hd (k p l e R s m args below meth c H locs ls Y)
theorem rd_up {h : Hp} {a i x : Int} (ha : 20 ≤ a) : rd (up h a i x) = up (rd h) a i x := by
  funext b j
  unfold rd up
  by_cases hb : b < 20
  · have : ¬ (b = a ∧ j = i) := fun q => by omega
    simp [hb, this]
  · simp [hb]
theorem ev_arrset {ω : Wd} {sh : Shp} {pt : Ptr} {h : Hp} {U : State} {H' : Heap} {a i x : Int} {cell : Cell} {v : Value} (h20 : 20 ≤ a) (hk : 100 ≤ (sh a).1) (hk2 : (sh a).1 < 110) (c2 : cell.vm ≠ .unknown) (g1 : U.isArrayOf cell (kTy (sh a).1)) (g2 : (sh a).2 ≤ cell.slots.size) (g3 : cell.slots.size.toInt32 = Int32.ofNat (sh a).2)
    (g4 : ∀ j : Nat, j < (sh a).2 → cell.slots[j]? = some (fV ω pt (rd h) (kEl (sh a).1) a j)) (h0 : 0 ≤ w32 i) (h1 : w32 i < (sh a).2) (e1 : H'[ω.1 a]? = some (cell.setSlot (Int32.ofInt i).toNatClampNeg v)) (hv : fV ω pt (rd (up h a (w32 i) x)) (kEl (sh a).1) a (w32 i) = v) : cellOK ω sh pt (up h a (w32 i) x) U H' a := by
  refine ⟨_, e1, c2, fun g => absurd g (by omega), fun _ => ⟨⟨g1.1, g1.2⟩, by simp [Cell.setSlot]; exact g2, by simp [Cell.setSlot]; exact g3, fun j hj => ?_⟩, fun g => absurd g (by omega)⟩
  rw [iv_clamp]
  by_cases hji : (j : Int) = w32 i
  · have e9 : (w32 i).toNat = j := by omega
    rw [hji, hv, e9]
    simp [Cell.setSlot, Array.getElem?_setIfInBounds]
    omega
  · have e9 : (w32 i).toNat ≠ j := by omega
    have e8 : fV ω pt (rd (up h a (w32 i) x)) (kEl (sh a).1) a j = fV ω pt (rd h) (kEl (sh a).1) a j := by
      unfold fV
      rw [rd_up h20]
      simp only [up_off hji]
    rw [e8, ← g4 j hj]
    simp [Cell.setSlot, Array.getElem?_setIfInBounds, e9]
theorem ev_iast {a i x : Int} (hd : decode M.2.1 pc = .ok (.iastore, 1)) (hs : (sh a).1 = 100) (h20 : 20 ≤ a) (h0 : 0 ≤ w32 i) (h1 : w32 i < (sh a).2) (k : Ev ω M d PQ mc ms cl sl sh pt z (up h a (w32 i) x) (pc + 1) lv st) : Ev ω M d PQ mc ms cl sl sh pt z h pc lv (iV x :: iV i :: aV ω a :: st) := by
  intro p l e R s m args below meth c H locs ls Y
  obtain ⟨C, rm9, hV, hH, hl, hS⟩ := id Y
  have hok : (sh a).1 < 500 := by omega
  rw [aV_pos (hH.2.2.2.1 a hok)]
  obtain ⟨cell, c1, c2, -, c4, c5⟩ := hH.1 a hok
  obtain ⟨g1, g2, g3, g4⟩ := c4 (by omega)
  have g1' := g1
  rw [hs] at g1'
  refine W.iast C.1 C.2.1 c1 g1' c2 (ix_ok h0 h1 g2) rfl rfl hd fun H' e1 e2 e3 => ?_
  exact k p l e R s m args below meth c H' _ ls ⟨C, rm9, hV, hH.upd hok h20 e2 e3 (ev_arrset h20 (by omega) (by omega) c2 g1 g2 g3 g4 h0 h1 e1 (by rw [hs]; show iV _ = _; rw [rd_up h20, up_at]; first | rfl | exact (rfl).symm)) (fun b hb j => up_ne hb j) (fun _ _ _ => rfl), hl, hS.put e2 e3 (hH.2.2.1 a hok h20)⟩
theorem ev_bast {a i x : Int} (hd : decode M.2.1 pc = .ok (.bastore, 1)) (hs : (sh a).1 = 101) (h20 : 20 ≤ a) (h0 : 0 ≤ w32 i) (h1 : w32 i < (sh a).2) (k : Ev ω M d PQ mc ms cl sl sh pt z (up h a (w32 i) (w8 x)) (pc + 1) lv st) : Ev ω M d PQ mc ms cl sl sh pt z h pc lv (iV x :: iV i :: aV ω a :: st) := by
  intro p l e R s m args below meth c H locs ls Y
  obtain ⟨C, rm9, hV, hH, hl, hS⟩ := id Y
  have hok : (sh a).1 < 500 := by omega
  rw [aV_pos (hH.2.2.2.1 a hok)]
  obtain ⟨cell, c1, c2, -, c4, c5⟩ := hH.1 a hok
  obtain ⟨g1, g2, g3, g4⟩ := c4 (by omega)
  have g1' := g1
  rw [hs] at g1'
  refine W.bast C.1 C.2.1 c1 g1' c2 (ix_ok h0 h1 g2) rfl rfl hd fun H' e1 e2 e3 => ?_
  exact k p l e R s m args below meth c H' _ ls ⟨C, rm9, hV, hH.upd hok h20 e2 e3 (ev_arrset h20 (by omega) (by omega) c2 g1 g2 g3 g4 h0 h1 e1 (by rw [hs]; show iV _ = _; rw [rd_up h20, up_at]; first | rfl | exact (iV_i2b x).symm)) (fun b hb j => up_ne hb j) (fun _ _ _ => rfl), hl, hS.put e2 e3 (hH.2.2.1 a hok h20)⟩
theorem ev_zast {a i x : Int} (hd : decode M.2.1 pc = .ok (.bastore, 1)) (hs : (sh a).1 = 103) (h20 : 20 ≤ a) (h0 : 0 ≤ w32 i) (h1 : w32 i < (sh a).2) (k : Ev ω M d PQ mc ms cl sl sh pt z (up h a (w32 i) (x % 2)) (pc + 1) lv st) : Ev ω M d PQ mc ms cl sl sh pt z h pc lv (iV x :: iV i :: aV ω a :: st) := by
  intro p l e R s m args below meth c H locs ls Y
  obtain ⟨C, rm9, hV, hH, hl, hS⟩ := id Y
  have hok : (sh a).1 < 500 := by omega
  rw [aV_pos (hH.2.2.2.1 a hok)]
  obtain ⟨cell, c1, c2, -, c4, c5⟩ := hH.1 a hok
  obtain ⟨g1, g2, g3, g4⟩ := c4 (by omega)
  have g1' := g1
  rw [hs] at g1'
  refine W.zast C.1 C.2.1 c1 g1' c2 (ix_ok h0 h1 g2) rfl rfl hd fun H' e1 e2 e3 => ?_
  exact k p l e R s m args below meth c H' _ ls ⟨C, rm9, hV, hH.upd hok h20 e2 e3 (ev_arrset h20 (by omega) (by omega) c2 g1 g2 g3 g4 h0 h1 e1 (by rw [hs]; show iV _ = _; rw [rd_up h20, up_at]; first | rfl | exact (iV_bit x).symm)) (fun b hb j => up_ne hb j) (fun _ _ _ => rfl), hl, hS.put e2 e3 (hH.2.2.1 a hok h20)⟩
theorem ev_last {a i x : Int} (hd : decode M.2.1 pc = .ok (.lastore, 1)) (hs : (sh a).1 = 102) (h20 : 20 ≤ a) (h0 : 0 ≤ w32 i) (h1 : w32 i < (sh a).2) (k : Ev ω M d PQ mc ms cl sl sh pt z (up h a (w32 i) x) (pc + 1) lv st) : Ev ω M d PQ mc ms cl sl sh pt z h pc lv (lV x :: iV i :: aV ω a :: st) := by
  intro p l e R s m args below meth c H locs ls Y
  obtain ⟨C, rm9, hV, hH, hl, hS⟩ := id Y
  have hok : (sh a).1 < 500 := by omega
  rw [aV_pos (hH.2.2.2.1 a hok)]
  obtain ⟨cell, c1, c2, -, c4, c5⟩ := hH.1 a hok
  obtain ⟨g1, g2, g3, g4⟩ := c4 (by omega)
  have g1' := g1
  rw [hs] at g1'
  refine W.last C.1 C.2.1 c1 g1' c2 (ix_ok h0 h1 g2) rfl rfl hd fun H' e1 e2 e3 => ?_
  exact k p l e R s m args below meth c H' _ ls ⟨C, rm9, hV, hH.upd hok h20 e2 e3 (ev_arrset h20 (by omega) (by omega) c2 g1 g2 g3 g4 h0 h1 e1 (by rw [hs]; show lV _ = _; rw [rd_up h20, up_at]; first | rfl | exact (rfl).symm)) (fun b hb j => up_ne hb j) (fun _ _ _ => rfl), hl, hS.put e2 e3 (hH.2.2.1 a hok h20)⟩
theorem ev_gets {idx n : Nat} (hn : n < 7) (hd : decode M.2.1 pc = .ok (.getstatic idx, 3)) (hw : Cond.fieldLink M.1.cls idx (zC n) (zN n) "[I" ∈ WS) (k : Ev ω M d PQ mc ms cl sl sh pt z h (pc + 3) lv (aV ω ((n : Int) + 1) :: st)) : Ev ω M d PQ mc ms cl sl sh pt z h pc lv st := by
  intro p l e R s m args below meth c H locs ls Y
  obtain ⟨C, rm9, hV, hH, hl, hS⟩ := id Y
  have hZ := hH.2.2.2.2.2.1 n hn
  have k := k p l e R s m args below meth c H locs ls Y
  rw [aV_pos (by omega)] at k
  obtain ⟨cf, kf, fi, f, a, cell, h1, h2, h3, h4, h5, h6, h7, h8⟩ := hZ
  exact W.gets C.1 C.2.1 C.2.2.2.2.1 (C.2.2.2.2.2.1 _ hw) h1 h2 h3 h4 h5 (fun g => by rw [g] at h6; cases h6) h7 rfl hd k
end EvMem
