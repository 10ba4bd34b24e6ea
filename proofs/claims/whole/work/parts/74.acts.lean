section PureActs
/-! ACTS: what each of them opens with and closes with -/
section P
variable {n : Nat} {f seat : Int → Int}
theorem sit_hk (K : SeatOK n seat) (hn : n ≤ 6) {p : Nat} (hp : p < n) (x : Int → Int) {k : Int} (hk : 48 ≤ k) : sitS seat p x k = x k := by
  unfold sitS
  by_cases c : seat p = 9
  · rw [if_pos c]
  · rcases K (p : Int) (by omega) (by omega) with q | ⟨k1, k2, k3, k4⟩
    · exact absurd q c
    rw [if_neg c]
    by_cases c2 : (p : Int) < seat p
    · rw [if_pos c2, owe_hi (by omega) (by omega) (by omega) (by omega) (by omega), ud_ne (by omega)]
    · rw [if_neg c2, ud_ne (by omega)]
theorem br_hk (hn : n ≤ 6) {p : Nat} (hp : p < n) (x : (Int → Int) × Int) {k : Int} (hk : 48 ≤ k) (h5 : k ≠ 50) : (brT n seat p x).1 k = x.1 k := by
  unfold brT
  by_cases c : seat p = 9
  · rw [if_pos c]
    unfold brS
    by_cases c2 : x.1 (36 + 2 * (p : Int)) < 9
    · rw [if_pos c2]
      exact ud_ne (by omega)
    · rw [if_neg c2]
      show fo (adS (p : Int)) n _ k = _
      rw [ad_hi (by omega) (by omega) (by omega) hn, ud_ne (by omega), ud_ne (by omega)]
  · rw [if_neg c]
theorem psM_k (hn : n ≤ 6) (bed : Int) {k : Int} (hk : 48 ≤ k) (h5 : k ≠ 50) : (psM n bed f).1 k = f k := by
  have K := bkR_ok n bed f
  have e1 : fo (sitS (bkR n bed f)) n f k = f k := fo_inv (fun y : Int → Int => y k = f k) (fun i y hi hy => (sit_hk K hn hi y hk).trans hy) rfl
  exact fo_inv (fun y : (Int → Int) × Int => y.1 k = f k) (fun i y hi hy => (br_hk hn hi y hk h5).trans hy) e1
theorem psR_k (hn : n ≤ 6) (bed : Int) : (psR n bed f).1 48 = f 48 ∧ (psR n bed f).1 49 = f 49 ∧ (psR n bed f).1 51 = f 51 + 1 := by
  rw [psM_ps hn bed]
  refine ⟨?_, ?_, ?_⟩
  · show ud (psM n bed f).1 51 ((psM n bed f).1 51 + 1) 48 = f 48
    rw [ud_ne (by decide), psM_k hn bed (by decide) (by decide)]
  · show ud (psM n bed f).1 51 ((psM n bed f).1 51 + 1) 49 = f 49
    rw [ud_ne (by decide), psM_k hn bed (by decide) (by decide)]
  · show ud (psM n bed f).1 51 ((psM n bed f).1 51 + 1) 51 = f 51 + 1
    rw [ud_at, psM_51 hn bed]
end P
/-- the past, told with what stands in it -/
def PaX (h : Hp) (n W fst acts : Nat) (PF : Nat → Int → Int) (e : Int) : Prop := h 55 1 = (fst : Int) ∧ h 55 2 = (acts : Int) ∧ h 2000 42 = (acts : Int) ∧ fst < 41 ∧ acts ≤ 40 ∧ (∀ j : Nat, j < acts → StA h (paA fst j) n (PF j) ∧ (∀ k : Int, 0 ≤ k → k < 52 → h 2041 (233 * (j : Int) + k) = PF j k) ∧ FB W (PF j) ∧ LG (h 61) (fun k => h 2041 (233 * (j : Int) + k)) (PF j 51) ∧ PF j 51 ≤ e) ∧ ∀ i j : Nat, i ≤ j → j < acts → PF i 51 ≤ PF j 51
def Tsl (a k : Int) : Prop := 200 ≤ a ∧ a < 610 ∧ (k = k)
def Tac (a k : Int) : Prop := (110 ≤ a ∧ a ≤ 114) ∨ a = 61 ∨ (a = 55 ∧ (k = 1 ∨ k = 2)) ∨ (a = 2000 ∧ (k = 0 ∨ k = 39 ∨ k = 40 ∨ k = 42)) ∨ a = 2041 ∨ a = 2032 ∨ a = 2038
section Q
variable {h h' hF : Hp} {n W lc sc : Nat} {f f' ru pd wd : Int → Int} {ly : Nat → Pw} {k sn : Int}
theorem act_open (I : IvP h n W lc sc ru pd wd f ly k sn) : ∃ (fst acts : Nat) (PF : Nat → Int → Int) (h1 : Hp), Ps_offer h 55 110 = some (0, h1) ∧ IvP h1 n W lc sc ru pd wd f ly k sn ∧ PaX h1 n W fst acts PF (f 51) ∧ StA h1 (paA fst acts) n f := by
  obtain ⟨Tp, Ct, Lw, Lh, Mm, Ss, Sn, Nw, Lg, Td, Im, Pa, Gv, Rw⟩ := I
  obtain ⟨fst, acts, PF, p1, p2, p3, p4, p5, p6, p7⟩ := Pa
  obtain ⟨h1, e1, F1, S1⟩ := offer_e Nw.1 p1 p2 p4 p5
  have b := paA_b fst acts
  have F : On Tsl h h1 := F1.on (T := Tsl) (fun a q k => by unfold Tsl; omega)
  have r61 : h1 61 = h 61 := F.row (fun k => by unfold Tsl; omega)
  have r41 : h1 2041 = h 2041 := F.row (fun k => by unfold Tsl; omega)
  have px : PaX h1 n W fst acts PF (f 51) := by
    refine ⟨by rw [F 55 1 (by unfold Tsl; omega)]; exact p1, by rw [F 55 2 (by unfold Tsl; omega)]; exact p2, by rw [F 2000 42 (by unfold Tsl; omega)]; exact p3, p4, p5, fun j hj => ?_, p7⟩
    obtain ⟨z1, z2⟩ := p6 j hj
    have pb := paA_b fst j
    have ne := paA_ne (fst := fst) hj p5
    rw [r61, r41]
    exact ⟨z1.c (fun k _ _ => by rw [F1 _ (by omega)]) (fun m m0 m1 => F1 _ (by omega)), z2⟩
  have pa : PaI h1 n W (f 51) := ⟨fst, acts, PF, px⟩
  exact ⟨fst, acts, PF, h1, e1, ⟨Tp.e (F.e (fun a k t c => by unfold Tsl at t; unfold TpC at c; omega)), Ct.e (F.e (fun a k t c => by have z := Ct.1.1.1; unfold Tsl at t; unfold CtC at c; omega)), Lw.e (F.e (fun a k t c => by have z := Lw.2.2.1; unfold Tsl at t; unfold LwC at c; omega)), Lh.e (F.e (fun a k t c => by unfold Tsl at t; unfold LhC at c; omega)), MmI.e Mm (F.e (fun a k t c => by unfold Tsl at t; unfold MmC at c; omega)), Ss.e (F.e (fun a k t c => by have z := Ss.2.2.1; unfold Tsl at t; unfold SsC at c; omega)), Sn.e (F.e (fun a k t c => by unfold Tsl at t; unfold SnC at c; omega)), Nw.e (F.e (fun a k t c => by unfold Tsl at t; unfold NwC at c; omega)), lg_on F (fun a k t c => by unfold Tsl at t; unfold LgC at c; omega) Lg, Td.e (F.e (fun a k t c => by unfold Tsl at t; unfold TdC at c; omega)), Im.e (F.e (fun a k t c => by unfold Tsl at t; unfold ImC at c; omega)), pa, Gv.e (F.e (fun a k t c => by unfold Tsl at t; unfold GvC at c; omega)), Rw.e (F.e (fun a k t c => by unfold Tsl at t; unfold RwC at c; omega))⟩, px, S1⟩
theorem act_close {fst acts : Nat} {PF : Nat → Int → Int} (I : IvP h n W lc sc ru pd wd f ly k sn) (X : PaX h n W fst acts PF (f 51)) (A : StA h (paA fst acts) n f) (F : On (fun a k => Tac a k ∨ SC2 a k) h hF) (Mm' : MmI hF lc ly) (nw : NwI hF n W f') (lg : LG (hF 61) (hF 2032) (f' 51)) (x1 : hF 55 1 = ((if acts = 40 then (fst + 1) % 41 else fst : Nat) : Int)) (x2 : hF 55 2 = ((if acts = 40 then 40 else acts + 1 : Nat) : Int)) (x42 : hF 2000 42 = ((if acts = 40 then 40 else acts + 1 : Nat) : Int)) (r41 : acts < 40 → (∀ k : Int, k < 233 * (acts : Int) → hF 2041 k = h 2041 k) ∧ ∀ k : Int, 0 ≤ k → k < 233 → hF 2041 (233 * (acts : Int) + k) = h 2032 k) (s41 : acts = 40 → (∀ x : Int, 0 ≤ x → x < 9087 → hF 2041 x = h 2041 (x + 233)) ∧ ∀ k : Int, 0 ≤ k → k < 233 → hF 2041 (9087 + k) = h 2032 k) (r61 : ∀ x : Int, x ≤ f 51 → hF 61 x = h 61 x) (he : f 51 ≤ f' 51) : IvP hF n W lc sc ru pd wd f' ly k sn := by
  obtain ⟨Tp, Ct, Lw, Lh, Mm, Ss, Sn, Nw, Lg, Td, Im, Pa, Gv, Rw⟩ := I
  obtain ⟨p1, p2, p3, p4, p5, p6, p7⟩ := X
  have sl : ∀ j : Nat, (∀ k : Int, 4 ≤ k → k < 9 → hF (paA fst j) k = h (paA fst j) k) ∧ ∀ m : Int, 1 ≤ m → m < 4 → hF (paA fst j + m) = h (paA fst j + m) := fun j => by
    have pb := paA_b fst j
    refine ⟨fun k k0 k1 => F _ k (fun t => t.elim (fun u => by unfold Tac at u; omega) (fun u => sd_Pa _ k u (by unfold PaC; omega))), fun m m0 m1 => F.row (fun k t => t.elim (fun u => by unfold Tac at u; omega) (fun u => sd_Pa _ k u (by unfold PaC; omega)))⟩
  have pa : PaI hF n W (f' 51) := pa_kept p4 p5 p6 p7 (A.c (sl acts).1 (sl acts).2) (fun k k0 k1 => Nw.2.1.rd k0 k1) Nw.2.2 Lg (fun j _ => sl j) x1 x2 x42 r41 s41 r61 he
  exact ⟨Tp.e (F.e (fun a k t c => t.elim (fun u => by unfold Tac at u; unfold TpC at c; omega) (fun u => sd_Tp a k u c))), Ct.e (F.e (fun a k t c => t.elim (fun u => by have z := Ct.1.1.1; unfold Tac at u; unfold CtC at c; omega) (fun u => sd_Ct Ct.1.1.1 a k u c))), Lw.e (F.e (fun a k t c => t.elim (fun u => by have z := Lw.2.2.1; unfold Tac at u; unfold LwC at c; omega) (fun u => sd_Lw Lw.2.2.1 a k u c))), Lh.e (F.e (fun a k t c => t.elim (fun u => by unfold Tac at u; unfold LhC at c; omega) (fun u => sd_Lh a k u c))), Mm', Ss.e (F.e (fun a k t c => t.elim (fun u => by have z := Ss.2.2.1; unfold Tac at u; unfold SsC at c; omega) (fun u => sd_Ss Ss.2.2.1 a k u c))), Sn.e (F.e (fun a k t c => t.elim (fun u => by unfold Tac at u; unfold SnC at c; omega) (fun u => sd_Sn a k u c))), nw, lg, Td.e (F.e (fun a k t c => t.elim (fun u => by unfold Tac at u; unfold TdC at c; omega) (fun u => sd_Td a k u c))), Im.e (F.e (fun a k t c => t.elim (fun u => by unfold Tac at u; unfold ImC at c; omega) (fun u => sd_Im a k u c))), pa, Gv.e (F.e (fun a k t c => t.elim (fun u => by unfold Tac at u; unfold GvC at c; omega) (fun u => sd_Gv a k u c))), Rw.e (F.e (fun a k t c => t.elim (fun u => by unfold Tac at u; unfold RwC at c; omega) (fun u => sd_Rw a k u c)))⟩
end Q
end PureActs
