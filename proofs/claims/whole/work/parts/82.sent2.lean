section PureSent2
/-! SENTENCE -/
section Q
variable {h h2 hF : Hp} {n W lc sc : Nat} {f f' ru pd wd : Int → Int} {ly : Nat → Pw} {k sn : Int}
theorem msen_e (C : CtI h n W ru pd wd) (M : StM h 2032 n f) (Lw : LwI h lc ly) (Mm : MmI h lc ly) (Lh : LhI h lc k) (fb : FB W f) {a : Int} (q : isWr W a) : ∃ h', Md_sentences h 2000 2032 a = some (0, h') ∧ On (fun x y => (x = 2032 ∧ y < 52) ∨ MW x y) h h' ∧ StM h' 2032 n (seR W ru pd wd f ly k a) ∧ MmI h' lc ly := by
  have W8 := C.1.2.2.1
  have n6 := C.1.1.2.2
  have q' := q
  obtain ⟨q0, q1⟩ := q'
  obtain ⟨w1, w2, w3, w4⟩ := C.2.2.1.2.2.1 a q0 q1
  have rb := (C.2.2.1.1 (n_pos C.2.2.1 q)).2.1
  obtain ⟨h1, e1, F1, Mm1⟩ := m_worthNow C.2.1 M Lw Mm Lh rb w1.1 w1.2 w2.1 w2.2 (kok_now C.2.2.1 M.2.2.2 fb W8 w1.1 w1.2 w2.1 w2.2 (g := wd (3 * a + 2)) (by omega) (by omega))
  have e1' : Md_worthNow h 2000 2032 (wd (3 * a)) (wd (3 * a + 1)) (wd (3 * a + 2)) = some (wkV W ru pd wd f ly k (wd (3 * a)) (wd (3 * a + 1)) (wd (3 * a + 2)), h1) := e1
  have wb := wk_b (W := W) (pd := pd) (wd := wd) (f := f) (ly := ly) (k := k) (who := wd (3 * a)) (whom := wd (3 * a + 1)) (g := wd (3 * a + 2)) rb
  have M1 : StM h1 2032 n f := ⟨M.1, by rw [F1 2000 26 (by unfold MW; omega)]; exact M.2.1, by rw [mR_e (h := h) (fun k _ _ => F1 2032 k (by unfold MW; omega))]; exact M.2.2.1, M.2.2.2⟩
  have db := Gd_d M.2.2.2 w1.1 (show wd (3 * a) < 6 by omega) w2.1 (show wd (3 * a + 1) < 6 by omega)
  obtain ⟨h2, e2, F2, m2⟩ := Md_adds_e M1 (a := wd (3 * a)) (b := wd (3 * a + 1)) (m := wkV W ru pd wd f ly k (wd (3 * a)) (wd (3 * a + 1)) (wd (3 * a + 2))) w1.1 (by omega) w2.1 (by omega) (by omega) (by omega)
  have M2 := M1.ofW F2 m2 (Gd_owe M.2.2.2 w1.1 (by omega) w2.1 (by omega) w3 (by omega))
  obtain ⟨x, hx⟩ : ∃ x : Nat, f 48 = (x : Int) := ⟨(f 48).toNat, by have := fb.1; omega⟩
  have p8 : 2 ^ W ≤ 2 ^ 8 := Nat.pow_le_pow_right (by decide) W8
  have sb := sen_b (x := x) W8 (by have := fb.1; omega) q
  rw [← hx] at sb
  have r48 : oweR f (wd (3 * a)) (wd (3 * a + 1)) (wkV W ru pd wd f ly k (wd (3 * a)) (wd (3 * a + 1)) (wd (3 * a + 2))) 48 = f 48 := owe_hi w1.1 (by omega) w2.1 (by omega) (by decide)
  have e48 : h2 2032 48 = f 48 := by rw [M2.rd (by decide) (by decide)]; exact r48
  have M3 := stm_48 M2 (v := ior (f 48) (ishl 1 a)) sb.1 (by omega)
  have Fx : On (fun x y => (x = 2032 ∧ y < 52) ∨ MW x y) h (up h2 2032 48 (ior (f 48) (ishl 1 a))) := ((F1.w (fun x y t => Or.inr t)).tr ((FrW.ac F2).w (fun x y t => Or.inl t))).tr (On.up (Or.inl ⟨rfl, by decide⟩))
  have E2 : Eq2 MmC h1 (up h2 2032 48 (ior (f 48) (ishl 1 a))) := (((FrW.ac F2).tr (On.up (h := h2) (a := 2032) (i := 48) (v := ior (f 48) (ishl 1 a)) ⟨rfl, by decide⟩))).e (fun x y t c => by unfold MmC at c; omega)
  refine ⟨up h2 2032 48 (ior (f 48) (ishl 1 a)), ?_, Fx, M3, MmI.e Mm1 E2⟩
  unfold Md_sentences
  rw [cC_s SH2000' rfl, cX_s SH2022 (by omega) (by omega) (by decide), bd_s, cX_s SH2022 (by omega) (by omega) (by decide), bd_s, cX_s SH2022 (by omega) (by omega) (by decide), rd_ge (by decide), rd_ge (by decide), rd_ge (by decide), w32_n (x := 3 * a) (by omega) (by omega), w32_n (x := 3 * a + 1) (by omega) (by omega), w32_n (x := 3 * a + 2) (by omega) (by omega), C.2.1.2.2.2.2.2.2 _ (by omega) (by omega), C.2.1.2.2.2.2.2.2 _ (by omega) (by omega), C.2.1.2.2.2.2.2.2 _ (by omega) (by omega), e1', cl_s, e2, cl_s, cX_s SH2032' (by decide) (by decide) (by decide), cY_s SH2032' (by decide) (by decide) (by decide) (by decide), rd_ge (by decide), e48, pu_s]
end Q
theorem So_sentence : S_sentence Inv := by
  intro h a1 I i1
  obtain ⟨n, W, lc, sc, ru, pd, wd, f, ly, k0, sn, J⟩ := I
  obtain ⟨fst, acts, PF, h1, e1, J1, X, A1⟩ := act_open J
  have J10 := J1.qs (h' := up h1 2000 0 0) t0_sc
  have Nw1 := J1.2.2.2.2.2.2.2.1
  have Nw10 := J10.2.2.2.2.2.2.2.1
  have Ct1 := J1.2.1
  have Lg := J1.2.2.2.2.2.2.2.2.1
  have W8 := Ct1.1.2.2.1
  have n6 := Ct1.1.1.2.2
  have s7 := (IsS_sh Nw1.1.1).1
  have fb := Nw1.2.2
  have e5 : h1 110 5 = f 48 := by rw [← Nw1.1.2.2.1]; exact cR_48.symm
  have no : ∃ (r2 : Int) (h2 : Hp), some ((-1 : Int), up h1 2000 0 0) = some (r2, h2) ∧ w32 (-1) = w32 r2 ∧ Inv h2 := ⟨_, _, rfl, rfl, ⟨n, W, lc, sc, ru, pd, wd, f, ly, k0, sn, J10⟩⟩
  have o48 : up h1 2000 0 0 2032 48 = f 48 := Nw10.2.1.rd (by decide) (by decide)
  unfold Cc_sentence Md_sentence Md_canSentence
  rw [cC_s SH20' rfl, cC_s SH55 rfl, e1, cl_s]
  by_cases q : isWr W a1
  · by_cases nb : w32 (iand (ishr (f 48) a1) 1) = 1
    · have ec : Cc_sentenceIn h1 20 110 a1 = some (0, h1) := by
        unfold Cc_sentenceIn St_isSentenced
        rw [cC_s SH20' rfl, (isW_1 Ct1 i1 q).1, cl_s, if_neg wn1, cC_s s7 rfl, cC_s s7 rfl, e5, Cc_holds_e, cl_s, cl_s, if_pos nb, if_neg (by decide)]
      rw [ec, cl_s, if_pos wz0]
      refine so_s ?_
      rw [cC_s SH2000' rfl, pu_s, cC_s SH2000' rfl, (isW_1 J10.2.1 i1 q).2, cl_s, if_neg wn1, cX_s SH2032' (by decide) (by decide) (by decide), rd_ge (by decide), o48, Md_has_p, if_pos nb, cl_s, if_neg wn1, cl_s, if_pos wz0]
      exact no
    · have q' := q
      obtain ⟨q0, q1⟩ := q'
      obtain ⟨w1, w2, w3, w4⟩ := Ct1.2.2.1.2.2.1 a1 q0 q1
      obtain ⟨h2, e2, F2, S2⟩ := csen_e J1 i1 q nb
      have n55 : ∀ k : Int, h2 55 k = h1 55 k := fun k => F2 55 k (by unfold SCA; omega)
      obtain ⟨h4, e4, F4, y1, y2⟩ := keep_e2 (h := h2) (fst := fst) (acts := acts) (by rw [n55]; exact X.1) (by rw [n55]; exact X.2.1) X.2.2.2.1 X.2.2.2.2.1
      have S4 : StA h4 110 n (seR W ru pd wd f ly k0 a1) := S2.c (fun k _ _ => F4 110 k (by omega)) (fun j j0 j1 => F4.row (fun k => by omega))
      have T4 : On (fun a k => Tac a k ∨ SC2 a k) h1 h4 := (F2.w (fun a k t => by
        rcases t with t | t | t
        · exact Or.inl (by unfold Tac; omega)
        · exact Or.inl (by unfold Tac; omega)
        · exact Or.inr (Or.inl t))).tr (F4.w (fun a k t => Or.inl (by unfold Tac; omega)))
      have ctF : ∀ {g : Hp}, On (fun a k => Tac a k ∨ SC2 a k) h1 g → CtI g n W ru pd wd := fun F => Ct1.e (F.e (fun a k t c => t.elim (fun u => by have z := Ct1.1.1.1; unfold Tac at u; unfold CtC at c; omega) (fun u => sd_Ct Ct1.1.1.1 a k u c)))
      have Ct4 := ctF T4
      have cw := c_who Ct4.1 q
      have cs := Ct4.1.shc.1
      rw [e2, cl_s, if_neg wn1, e4, cl_s, cC_s cs rfl, cw.1, cl_s, cC_s cs rfl, cw.2.1, cl_s, cC_s s7 rfl, St_owes_e S4 w1.1 (by omega) w2.1 (by omega), cl_s]
      have T5 : On (fun a k => Tac a k ∨ SC2 a k) h1 (up h4 2000 0 0) := T4.tr (On.up (Or.inl (by unfold Tac; omega)))
      have c55 : ∀ k : Int, up h4 2000 0 0 55 k = h4 55 k := fun k => up_ne (by decide) k
      have c61 : ∀ k : Int, up h4 2000 0 0 61 k = h1 61 k := fun k => by rw [up_ne (by decide), F4 61 k (by omega), F2 61 k (by unfold SCA; omega)]
      have c41 : ∀ k : Int, up h4 2000 0 0 2041 k = h1 2041 k := fun k => by rw [up_ne (by decide), F4 2041 k (by omega), F2 2041 k (by unfold SCA; omega)]
      have c32 : ∀ k : Int, up h4 2000 0 0 2032 k = h1 2032 k := fun k => by rw [up_ne (by decide), F4 2032 k (by omega), F2 2032 k (by unfold SCA; omega)]
      have c42 : up h4 2000 0 0 2000 42 = (acts : Int) := by rw [up_off (by decide), F4 2000 42 (by omega), F2 2000 42 (by unfold SCA; omega)]; exact X.2.2.1
      have S5 : StA (up h4 2000 0 0) 110 n (seR W ru pd wd f ly k0 a1) := S4.c (fun k _ _ => up_ne (by decide) k) (fun j j0 j1 => up_off_row (by omega))
      have cMm : ∀ a k : Int, MmC a k → up h4 2000 0 0 a k = h1 a k := fun a k c => by
        unfold MmC at c
        rw [up_ne (by omega), F4 a k (by omega), F2 a k (by unfold SCA; omega)]
      generalize hg : up h4 2000 0 0 = g0 at T5 c55 c61 c41 c32 c42 S5 cMm
      obtain ⟨h5, e5', F5, y42, r41, s41⟩ := remember_e (h := g0) (acts := acts) c42 X.2.2.2.2.1
      have T6 : On (fun a k => Tac a k ∨ SC2 a k) h1 h5 := T5.tr (F5.w (fun a k t => Or.inl (by unfold Tac; omega)))
      have Ct5 := ctF T6
      have Ctg := ctF T5
      have q32 : ∀ k : Int, h5 2032 k = h1 2032 k := fun k => by rw [F5 2032 k (by omega), c32]
      have M5 : StM h5 2032 n f := ⟨Nw1.2.1.1, Ct5.2.1.1, by rw [mR_e (h := h1) (fun k _ _ => q32 k)]; exact Nw1.2.1.2.2.1, Nw1.2.1.2.2.2⟩
      have Lw5 : LwI h5 lc ly := J1.2.2.1.e (T6.e (fun a k t c => t.elim (fun u => by have z := J1.2.2.1.2.2.1; unfold Tac at u; unfold LwC at c; omega) (fun u => sd_Lw J1.2.2.1.2.2.1 a k u c)))
      have Lh5 : LhI h5 lc k0 := J1.2.2.2.1.e (T6.e (fun a k t c => t.elim (fun u => by unfold Tac at u; unfold LhC at c; omega) (fun u => sd_Lh a k u c)))
      have Mm5 : MmI h5 lc ly := MmI.e J1.2.2.2.2.1 (fun a k c => by
        rw [F5 a k (by unfold MmC at c; omega)]
        exact cMm a k c)
      obtain ⟨h6, e6, F6, M6, Mm6⟩ := msen_e Ct5 M5 Lw5 Mm5 Lh5 fb q
      have T7 : On (fun a k => Tac a k ∨ SC2 a k) h1 h6 := T6.tr (F6.w (fun a k t => t.elim (fun u => Or.inl (by unfold Tac; omega)) (fun u => Or.inr (by
        unfold MW at u
        unfold SC2
        rcases u with u | u | u | u
        · exact Or.inl (by unfold SCA; omega)
        · exact Or.inl (by unfold SCA; omega)
        · exact Or.inr (Or.inl u)
        · exact Or.inr (Or.inr u)))))
      have Ct6 := ctF T7
      have hi : ∀ k : Int, 36 ≤ k → k ≠ 48 → seR W ru pd wd f ly k0 a1 k = f k := fun k hk h8 => by
        unfold seR
        rw [ud_ne h8]
        exact owe_hi w1.1 (by omega) w2.1 (by omega) hk
      obtain ⟨x, hx⟩ : ∃ x : Nat, f 48 = (x : Int) := ⟨(f 48).toNat, by have := fb.1; omega⟩
      have sb := sen_b (x := x) W8 (by have := fb.1; omega) q
      rw [← hx] at sb
      have g48 : seR W ru pd wd f ly k0 a1 48 = ior (f 48) (ishl 1 a1) := ud_at
      refine so_s ⟨_, h6, ?_, rfl, ⟨n, W, lc, sc, ru, pd, wd, seR W ru pd wd f ly k0 a1, ly, k0, sn, ?_⟩⟩
      · rw [cC_s SH2000' rfl, hg, pu_s, cC_s SH2000' rfl, (isW_1 Ctg i1 q).2, cl_s, if_neg wn1, cX_s SH2032' (by decide) (by decide) (by decide), rd_ge (by decide), c32, Nw1.2.1.rd (by decide) (by decide), Md_has_p, if_neg nb, cl_s, if_pos wz0, cl_s, if_neg wn1, e5', cl_s, e6, cl_s, cX_s SH2022 (by omega) (by omega) (by decide), cX_s SH2022 (by omega) (by omega) (by decide), rd_ge (by decide), rd_ge (by decide), w32_n (x := 3 * a1) (by omega) (by omega), w32_n (x := 3 * a1 + 1) (by omega) (by omega), Ct6.2.1.2.2.2.2.2.2 _ (by omega) (by omega), Ct6.2.1.2.2.2.2.2.2 _ (by omega) (by omega), Md_owes_e M6 w1.1 (by omega) w2.1 (by omega), cl_s]
      · have k61 : h6 61 = h1 61 := funext fun x => by rw [F6 61 x (by unfold MW; omega), F5 61 x (by omega), c61]
        have k41 : ∀ x : Int, h6 2041 x = h5 2041 x := fun x => F6 2041 x (by unfold MW; omega)
        refine act_close J1 X A1 T7 Mm6 ?_ ?_ ?_ ?_ ?_ ?_ ?_ ?_ (by rw [hi 51 (by decide) (by decide)]; exact Int.le_refl _)
        · refine ⟨S5.c (fun k _ _ => ?_) (fun j j0 j1 => funext fun k => ?_), M6, by rw [g48]; exact sb, by rw [hi 49 (by decide) (by decide)]; exact fb.2.1, by rw [hi 51 (by decide) (by decide)]; exact fb.2.2⟩
          · rw [F6 110 k (by unfold MW; omega), F5 110 k (by omega)]
          · rw [F6 (110 + j) k (by unfold MW; omega), F5 (110 + j) k (by omega)]
        · rw [hi 51 (by decide) (by decide), k61]
          exact Lg.c (fun _ _ _ _ => rfl) (fun k hk => by rw [F6 2032 k (by unfold MW; omega), q32])
        · rw [F6 55 1 (by unfold MW; omega), F5 55 1 (by omega), c55]; exact y1
        · rw [F6 55 2 (by unfold MW; omega), F5 55 2 (by omega), c55]; exact y2
        · rw [F6 2000 42 (by unfold MW; omega)]; exact y42
        · intro z
          obtain ⟨t1, t2⟩ := r41 z
          exact ⟨fun k hk => by rw [k41, t1 k hk, c41], fun k k0' k1 => by rw [k41, t2 k k0' k1, c32]⟩
        · intro z
          obtain ⟨t1, t2⟩ := s41 z
          exact ⟨fun x x0 x1 => by rw [k41, t1 x x0 x1, c41], fun k k0' k1 => by rw [k41, t2 k k0' k1, c32]⟩
        · intro x _
          rw [k61]
  · have ec : Cc_sentenceIn h1 20 110 a1 = some (0, h1) := by
      unfold Cc_sentenceIn
      rw [cC_s SH20' rfl, (isW_0 Ct1 i1 q).1, cl_s, if_pos wz0]
    rw [ec, cl_s, if_pos wz0]
    refine so_s ?_
    rw [cC_s SH2000' rfl, pu_s, cC_s SH2000' rfl, (isW_0 J10.2.1 i1 q).2, cl_s, if_pos wz0, cl_s, if_pos wz0]
    exact no
end PureSent2
