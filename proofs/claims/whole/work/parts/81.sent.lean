section PureSent
/-! SENTENCE: pieces -/
section Q
variable {h h2 hF : Hp} {n W lc sc : Nat} {f f' ru pd wd : Int → Int} {ly : Nat → Pw} {k sn : Int}
/-- one more sentenced -/
theorem sen_b {x : Nat} {a : Int} (W8 : W ≤ 8) (hx : x < 2 ^ W) (q : isWr W a) : 0 ≤ ior (x : Int) (ishl 1 a) ∧ ior (x : Int) (ishl 1 a) < ((2 ^ W : Nat) : Int) := by
  obtain ⟨q0, q1⟩ := q
  obtain ⟨i, hi⟩ : ∃ i : Nat, a = (i : Int) := ⟨a.toNat, by omega⟩
  subst hi
  have p8 : 2 ^ W ≤ 2 ^ 8 := Nat.pow_le_pow_right (by decide) W8
  have pi : 2 ^ i < 2 ^ W := Nat.pow_lt_pow_right (by decide) (by omega)
  rw [shl_8 i (by omega), ior_n (by omega) (by omega)]
  have l : x ||| 2 ^ i < 2 ^ W := Nat.or_lt_two_pow hx pi
  omega
theorem Gd_48 (g : Gd n f) {v : Int} (v0 : 0 ≤ v) (v1 : v < 256) : Gd n (ud f 48 v) := by
  obtain ⟨g1, g2, g3, g4, g5, g6, g7⟩ := g
  refine ⟨g1, fun k k0 k1 => ?_, fun a b a0 a1 b0 b1 => ?_, fun a a0 a1 => ?_, fun p p0 p1 => ?_, ?_, ?_⟩
  · rw [ud_ne (by omega)]; exact g2 k k0 k1
  · rw [ud_ne (by omega), ud_ne (by omega)]; exact g3 a b a0 a1 b0 b1
  · rw [ud_ne (by omega)]; exact g4 a a0 a1
  · rw [ud_ne (by omega), ud_ne (by omega)]; exact g5 p p0 p1
  · rw [ud_at]; exact ⟨v0, v1⟩
  · rw [ud_ne (by decide)]; exact g7
theorem sta_48 {s : Int} (A : StA h s n f) {v : Int} (v0 : 0 ≤ v) (v1 : v < 256) : StA (up h s 5 v) s n (ud f 48 v) := ⟨A.1, by rw [up_off (by decide)]; exact A.2.1, by rw [cR_uf (i := 5) (Or.inl rfl), A.2.2.1]; rfl, Gd_48 A.2.2.2 v0 v1⟩
theorem stm_48 (M : StM h 2032 n f) {v : Int} (v0 : 0 ≤ v) (v1 : v < 256) : StM (up h 2032 48 v) 2032 n (ud f 48 v) := ⟨M.1, by rw [up_ne (by decide)]; exact M.2.1, by rw [mR_up (by decide) (by decide), M.2.2.1], Gd_48 M.2.2.2 v0 v1⟩
/-- one sentence over a row -/
def seR (W : Nat) (ru pd wd f : Int → Int) (ly : Nat → Pw) (k a : Int) : Int → Int := ud (oweR f (wd (3 * a)) (wd (3 * a + 1)) (wkV W ru pd wd f ly k (wd (3 * a)) (wd (3 * a + 1)) (wd (3 * a + 2)))) 48 (ior (f 48) (ishl 1 a))
theorem csen_e (I : IvP h n W lc sc ru pd wd f ly k sn) {a : Int} (ha : ir a) (q : isWr W a) (nb : ¬ w32 (iand (ishr (f 48) a) 1) = 1) : ∃ h', Cc_sentenceIn h 20 110 a = some (1, h') ∧ On (fun x y => x = 111 ∨ (x = 110 ∧ y = 5) ∨ SCA x y) h h' ∧ StA h' 110 n (seR W ru pd wd f ly k a) := by
  have Ct := I.2.1
  have Nw := I.2.2.2.2.2.2.2.1
  have W8 := Ct.1.2.2.1
  have n6 := Ct.1.1.2.2
  have q' := q
  obtain ⟨q0, q1⟩ := q'
  obtain ⟨w1, w2, w3, w4⟩ := Ct.2.2.1.2.2.1 a q0 q1
  have cw := c_who Ct.1 q
  have rb := (Ct.2.2.1.1 (n_pos Ct.2.2.1 q)).2.1
  have s7 := (IsS_sh Nw.1.1).1
  have e5 : h 110 5 = f 48 := by rw [← Nw.1.2.2.1]; exact cR_48.symm
  obtain ⟨h1, e1, F1⟩ := wk_c I w1.1 w1.2 w2.1 w2.2 (g := wd (3 * a + 2)) (by omega) (by omega)
  have wb := wk_b (W := W) (pd := pd) (wd := wd) (f := f) (ly := ly) (k := k) (who := wd (3 * a)) (whom := wd (3 * a + 1)) (g := wd (3 * a + 2)) rb
  have J1 := I.qs F1
  have Nw1 := J1.2.2.2.2.2.2.2.1
  have db := Gd_d Nw.1.2.2.2 w1.1 (show wd (3 * a) < 6 by omega) w2.1 (show wd (3 * a + 1) < 6 by omega)
  obtain ⟨h2, e2, F2, c2⟩ := St_owe_e Nw1.1 (a := wd (3 * a)) (b := wd (3 * a + 1)) (m := wkV W ru pd wd f ly k (wd (3 * a)) (wd (3 * a + 1)) (wd (3 * a + 2))) w1.1 (by omega) w2.1 (by omega) (by omega) (by omega)
  have S2 : StA h2 110 n (oweR f (wd (3 * a)) (wd (3 * a + 1)) (wkV W ru pd wd f ly k (wd (3 * a)) (wd (3 * a + 1)) (wd (3 * a + 2)))) := ⟨Nw.1.1, by rw [F2 110 (by omega)]; exact Nw1.1.2.1, c2, Gd_owe Nw.1.2.2.2 w1.1 (by omega) w2.1 (by omega) w3 (by omega)⟩
  have e25 : h2 110 5 = f 48 := by rw [F2 110 (by omega), ← Nw1.1.2.2.1]; exact cR_48.symm
  obtain ⟨x, hx⟩ : ∃ x : Nat, f 48 = (x : Int) := ⟨(f 48).toNat, by have := Nw.2.2.1; omega⟩
  have p8 : 2 ^ W ≤ 2 ^ 8 := Nat.pow_le_pow_right (by decide) W8
  have sb := sen_b (x := x) W8 (by have := Nw.2.2.1; omega) q
  rw [← hx] at sb
  have S3 := sta_48 S2 (v := ior (f 48) (ishl 1 a)) sb.1 (by omega)
  have z0 : w32 ((0 : Int) % 2) = 0 := by decide
  refine ⟨up h2 110 5 (ior (f 48) (ishl 1 a)), ?_, ((F1.w (fun x y t => Or.inr (Or.inr t))).tr (F2.on (fun x t y => Or.inl (by omega)))).tr (On.up (Or.inr (Or.inl ⟨rfl, rfl⟩))), S3⟩
  unfold Cc_sentenceIn St_isSentenced
  have cs := Ct.1.shc.1
  rw [cC_s SH20' rfl, (isW_1 Ct ha q).1, cl_s, if_neg wn1, cC_s s7 rfl, cC_s s7 rfl, e5, Cc_holds_e, cl_s, cl_s, if_neg nb, if_pos z0, cC_s cs rfl, cw.1, cl_s, cC_s cs rfl, cw.2.1, cl_s, cC_s cs rfl, cw.2.2, cl_s, e1, cl_s, e2, cl_s, e25, pu_s]
end Q
end PureSent
