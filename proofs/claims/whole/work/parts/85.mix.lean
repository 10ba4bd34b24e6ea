section PureMix
/-! TWO HEAPS, one for the class and one for the reference, told as one: acts that come one behind another -/
def mx (h g : Hp) : Hp := fun a => if a < 2000 then h a else g a
section X
variable {h h1 h' g g' g1 : Hp} {n W lc sc : Nat} {f f' ru pd wd : Int → Int} {ly : Nat → Pw} {k sn : Int}
theorem mx_lo {a : Int} (c : a < 2000) : mx h g a = h a := if_pos c
theorem mx_hi {a : Int} (c : 2000 ≤ a) : mx h g a = g a := if_neg (Int.not_lt.mpr c)
theorem mx_re (F : ∀ a : Int, a < 2000 → g a = h a) : mx h g = g := by
  funext a
  by_cases c : a < 2000
  · rw [mx_lo c, F a c]
  · exact mx_hi (by omega)
theorem mx_on {T : Int → Int → Prop} (F : On T h h') (G : On T g g') : On T (mx h g) (mx h' g') := fun a k q => by
  by_cases c : a < 2000
  · rw [mx_lo c, mx_lo c]; exact F a k q
  · rw [mx_hi (by omega), mx_hi (by omega)]; exact G a k q
theorem mx_fr {S : Int → Prop} (F : Fr S h h') : Fr S (mx h g) (mx h' g) := fun a q => by
  by_cases c : a < 2000
  · rw [mx_lo c, mx_lo c]; exact F a q
  · rw [mx_hi (by omega), mx_hi (by omega)]
theorem mx_st {s : Int} (A : StA h s n f) : StA (mx h g) s n f := by
  have i := A.1.2.1
  exact A.c (fun k _ _ => by rw [mx_lo (by have := A.1; unfold IsS at this; omega)]) (fun j j0 j1 => mx_lo (by have := A.1; unfold IsS at this; omega))
theorem st_mx {s : Int} (A : StA (mx h g) s n f) : StA h s n f := by
  exact A.c (fun k _ _ => by rw [mx_lo (by have := A.1; unfold IsS at this; omega)]) (fun j j0 j1 => by rw [mx_lo (by have := A.1; unfold IsS at this; omega)])
theorem mx_sm {w : Int} (i : 2000 ≤ w) (M : StM g w n f) : StM (mx h g) w n f := ⟨M.1, by rw [mx_hi (by decide)]; exact M.2.1, by rw [mR_c (mx_hi i)]; exact M.2.2.1, M.2.2.2⟩
theorem sm_mx {w : Int} (i : 2000 ≤ w) (M : StM (mx h g) w n f) : StM g w n f := ⟨M.1, by rw [← mx_hi (h := h) (g := g) (show (2000 : Int) ≤ 2000 by decide)]; exact M.2.1, by rw [← mR_c (mx_hi (h := h) i)]; exact M.2.2.1, M.2.2.2⟩
/-- a state offered: what stays, and the slot -/
theorem act_open2 (I : IvP h n W lc sc ru pd wd f ly k sn) {fst acts : Nat} {PF : Nat → Int → Int} (X : PaX h n W fst acts PF (f 51)) (F1 : Fr (fun x => x = paA fst acts ∨ x = paA fst acts + 1 ∨ x = paA fst acts + 2 ∨ x = paA fst acts + 3) h h1) : IvP h1 n W lc sc ru pd wd f ly k sn ∧ PaX h1 n W fst acts PF (f 51) := by
  obtain ⟨Tp, Ct, Lw, Lh, Mm, Ss, Sn, Nw, Lg, Td, Im, Pa, Gv, Rw⟩ := I
  obtain ⟨p1, p2, p3, p4, p5, p6, p7⟩ := X
  have b := paA_b fst acts
  have F : On Tsl h h1 := F1.on (T := Tsl) (fun a q k => by unfold Tsl; omega)
  have r61 : h1 61 = h 61 := F.row (fun k => by unfold Tsl; omega)
  have r41 : h1 2041 = h 2041 := F.row (fun k => by unfold Tsl; omega)
  have px : PaX h1 n W fst acts PF (f 51) := by
    refine ⟨by rw [F 55 1 (by unfold Tsl; omega)]; exact p1, by rw [F 55 2 (by unfold Tsl; omega)]; exact p2, by rw [F 2000 42 (by unfold Tsl; omega)]; exact p3, p4, p5, fun j hj => ?_, p7⟩
    obtain ⟨z1, z2⟩ := p6 j hj
    have pb := paA_b fst j
    have ne := paA_ne (fst := fst) hj p5
    rw [r61, r41]
    exact ⟨z1.c (fun k _ _ => by rw [F1 _ (by omega)]) (fun m m0 m1 => F1 _ (by omega)), z2⟩
  have pa : PaI h1 n W (f 51) := ⟨fst, acts, PF, px⟩
  exact ⟨⟨Tp.e (F.e (fun a k t c => by unfold Tsl at t; unfold TpC at c; omega)), Ct.e (F.e (fun a k t c => by have z := Ct.1.1.1; unfold Tsl at t; unfold CtC at c; omega)), Lw.e (F.e (fun a k t c => by have z := Lw.2.2.1; unfold Tsl at t; unfold LwC at c; omega)), Lh.e (F.e (fun a k t c => by unfold Tsl at t; unfold LhC at c; omega)), MmI.e Mm (F.e (fun a k t c => by unfold Tsl at t; unfold MmC at c; omega)), Ss.e (F.e (fun a k t c => by have z := Ss.2.2.1; unfold Tsl at t; unfold SsC at c; omega)), Sn.e (F.e (fun a k t c => by unfold Tsl at t; unfold SnC at c; omega)), Nw.e (F.e (fun a k t c => by unfold Tsl at t; unfold NwC at c; omega)), lg_on F (fun a k t c => by unfold Tsl at t; unfold LgC at c; omega) Lg, Td.e (F.e (fun a k t c => by unfold Tsl at t; unfold TdC at c; omega)), Im.e (F.e (fun a k t c => by unfold Tsl at t; unfold ImC at c; omega)), pa, Gv.e (F.e (fun a k t c => by unfold Tsl at t; unfold GvC at c; omega)), Rw.e (F.e (fun a k t c => by unfold Tsl at t; unfold RwC at c; omega))⟩, px⟩
theorem pax_of (I : IvP h n W lc sc ru pd wd f ly k sn) {fst acts : Nat} (c1 : h 55 1 = (fst : Int)) (c2 : h 55 2 = (acts : Int)) : ∃ PF : Nat → Int → Int, PaX h n W fst acts PF (f 51) := by
  obtain ⟨Tp, Ct, Lw, Lh, Mm, Ss, Sn, Nw, Lg, Td, Im, Pa, Gv, Rw⟩ := I
  obtain ⟨fst', acts', PF, p⟩ := Pa
  have e1 : fst' = fst := by have := p.1; omega
  have e2 : acts' = acts := by have := p.2.1; omega
  subst e1
  subst e2
  exact ⟨PF, p⟩
/-- one act over two heaps -/
theorem act_mx (I : IvP (mx h g) n W lc sc ru pd wd f ly k sn) {fst acts : Nat} (c1 : h 55 1 = (fst : Int)) (c2 : h 55 2 = (acts : Int)) (F1 : Fr (fun x => x = paA fst acts ∨ x = paA fst acts + 1 ∨ x = paA fst acts + 2 ∨ x = paA fst acts + 3) h h1) (S1 : StA h1 (paA fst acts) n f) (F : On (fun a k => Tac a k ∨ SC2 a k) h1 h') (G : On (fun a k => Tac a k ∨ SC2 a k) g g') (Mm' : MmI (mx h' g') lc ly) (A' : StA h' 110 n f') (M' : StM g' 2032 n f') (fb : FB W f') (lg : LG (h' 61) (g' 2032) (f' 51)) (x1 : h' 55 1 = ((if acts = 40 then (fst + 1) % 41 else fst : Nat) : Int)) (x2 : h' 55 2 = ((if acts = 40 then 40 else acts + 1 : Nat) : Int)) (x42 : g' 2000 42 = ((if acts = 40 then 40 else acts + 1 : Nat) : Int)) (r41 : acts < 40 → (∀ k : Int, k < 233 * (acts : Int) → g' 2041 k = g 2041 k) ∧ ∀ k : Int, 0 ≤ k → k < 233 → g' 2041 (233 * (acts : Int) + k) = g 2032 k) (s41 : acts = 40 → (∀ x : Int, 0 ≤ x → x < 9087 → g' 2041 x = g 2041 (x + 233)) ∧ ∀ k : Int, 0 ≤ k → k < 233 → g' 2041 (9087 + k) = g 2032 k) (r61 : ∀ x : Int, x ≤ f 51 → h' 61 x = h1 61 x) (he : f 51 ≤ f' 51) : IvP (mx h' g') n W lc sc ru pd wd f' ly k sn := by
  obtain ⟨PF, X⟩ := pax_of I (fst := fst) (acts := acts) (by rw [mx_lo (by decide)]; exact c1) (by rw [mx_lo (by decide)]; exact c2)
  obtain ⟨I1, X1⟩ := act_open2 I X (mx_fr (g := g) F1)
  have e61 : ∀ a b : Hp, mx a b 61 = a 61 := fun a b => mx_lo (by decide)
  have e55 : ∀ a b : Hp, mx a b 55 = a 55 := fun a b => mx_lo (by decide)
  have e00 : ∀ a b : Hp, mx a b 2000 = b 2000 := fun a b => mx_hi (by decide)
  have e41 : ∀ a b : Hp, mx a b 2041 = b 2041 := fun a b => mx_hi (by decide)
  have e32 : ∀ a b : Hp, mx a b 2032 = b 2032 := fun a b => mx_hi (by decide)
  refine act_close I1 X1 (mx_st S1) (mx_on F G) Mm' ⟨mx_st A', mx_sm (by decide) M', fb⟩ ?_ ?_ ?_ ?_ ?_ ?_ ?_ he
  · rw [e61, e32]; exact lg
  · rw [e55]; exact x1
  · rw [e55]; exact x2
  · rw [e00]; exact x42
  · rw [e41, e41, e32]; exact r41
  · rw [e41, e41, e32]; exact s41
  · rw [e61, e61]; exact r61
end X
end PureMix
