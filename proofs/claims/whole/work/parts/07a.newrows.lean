section EvNew
/-! THE MAKING OF CELLS: the n-th new cell has the abstract address adA n; the t-th reference that is set for good is set at place asA t. -/
def mdA : List Int := [1, 2, 3, 4, 18, 19, 20, 21, 22, 23, 24, 25, 32, 33, 36, 37, 38, 41, 49, 51, 52]
def mdR : List Int := [1, 2, 3, 4, 15, 16, 18, 19, 20, 21, 22, 23, 24, 25, 32, 33, 36, 37, 38, 41, 49, 51, 52]
def adA (n : Nat) : Int :=
  if n < 3 then 20 + n else if n < 7 then 27 + n else if n < 11 then 33 + n else if n < 13 then 39 + n else if n < 18 then 87 + n else if n < 23 then 92 + n else if n < 28 then 97 + n
  else if n = 28 then 52 else if n = 29 then 55 else if n = 30 then 56 else if n < 236 then 200 + 10 * ((n - 31) / 5 : Nat) + ((n - 31) % 5 : Nat) else if n < 239 then n - 176 else if n < 244 then n - 174 else if n < 247 then n - 174 else if n = 247 then 75
  else if n < 263 then 1000 + 10 * ((n - 248) / 3 : Nat) + ((n - 248) % 3 : Nat) else if n < 273 then 1100 + 10 * ((n - 263) / 2 : Nat) + ((n - 263) % 2 : Nat) else if n < 308 then 130 + 10 * ((n - 273) / 5 : Nat) + ((n - 273) % 5 : Nat)
  else if n = 308 then 2000 else if n < 330 then 2000 + mdA.getD (n - 309) 0 else 80
def orA (a : Int) : Nat :=
  if a < 23 then (a - 20).toNat else if a < 34 then (a - 27).toNat else if a < 44 then (a - 33).toNat else if a < 52 then (a - 39).toNat else if a = 52 then 28 else if a < 57 then (a - 26).toNat else if a < 63 then (a + 176).toNat else if a < 70 then (a + 174).toNat else if a < 73 then (a + 174).toNat else if a = 75 then 247 else if a = 80 then 330
  else if a < 130 then (13 + 5 * ((a - 100) / 10) + a % 10).toNat else if a < 200 then (273 + 5 * ((a - 130) / 10) + a % 10).toNat else if a < 610 then (31 + 5 * ((a - 200) / 10) + a % 10).toNat else if a < 1100 then (248 + 3 * ((a - 1000) / 10) + a % 10).toNat else if a < 2000 then (263 + 2 * ((a - 1100) / 10) + a % 10).toNat
  else if a = 2000 then 308 else 309 + mdA.idxOf (a - 2000)
theorem orA_ad : ∀ n : Nat, n < 331 → orA (adA n) = n ∧ 20 ≤ adA n := by decide +kernel
theorem adA_or : ∀ a : Nat, a < 2060 → 20 ≤ a → (SH (a : Int)).1 < 500 → adA (orA (a : Int)) = a ∧ orA (a : Int) < 331 := by decide +kernel
def asA (t : Nat) : Int × Int :=
  if t = 0 then (21, 0) else if t = 1 then (20, 0) else if t < 5 then (30, t - 2) else if t < 8 then (40, t - 5) else if t = 8 then (20, 3) else if t = 9 then (20, 4) else if t < 14 then (100, t - 10) else if t = 14 then (20, 9) else if t < 19 then (110, t - 15) else if t = 19 then (20, 10) else if t < 24 then (120, t - 20) else if t = 24 then (20, 11) else if t = 25 then (20, 13) else if t = 26 then (55, 0)
  else if t < 232 then (if (t - 27) % 5 < 4 then (200 + 10 * ((t - 27) / 5 : Nat), ((t - 27) % 5 : Nat)) else (56, ((t - 27) / 5 : Nat)))
  else if t = 232 then (20, 14) else if t < 235 then (60, t - 233) else if t = 235 then (20, 15) else if t < 240 then (65, t - 236) else if t = 240 then (20, 16) else if t < 243 then (70, t - 241) else if t = 243 then (20, 17) else if t = 244 then (20, 18)
  else if t < 260 then (if (t - 245) % 3 < 2 then (1000 + 10 * ((t - 245) / 3 : Nat), ((t - 245) % 3 : Nat)) else (50, ((t - 245) / 3 : Nat)))
  else if t < 270 then (if (t - 260) % 2 < 1 then (1100 + 10 * ((t - 260) / 2 : Nat), 0) else (51, ((t - 260) / 2 : Nat)))
  else if t < 305 then (if (t - 270) % 5 < 4 then (130 + 10 * ((t - 270) / 5 : Nat), ((t - 270) % 5 : Nat)) else (52, ((t - 270) / 5 : Nat)))
  else (2000, mdR.getD (t - 305) 0)
def tmA (a k : Int) : Nat :=
  if a = 20 then [1, 1000, 1000, 8, 9, 1000, 1000, 1000, 1000, 14, 19, 24, 1000, 25, 232, 235, 240, 243, 244].getD k.toNat 1000
  else if a = 21 then 0 else if a = 30 then (2 + k).toNat else if a = 40 then (5 + k).toNat else if a = 50 then (247 + 3 * k).toNat else if a = 51 then (261 + 2 * k).toNat else if a = 52 then (274 + 5 * k).toNat else if a = 55 then 26 else if a = 56 then (31 + 5 * k).toNat
  else if a = 60 then (233 + k).toNat else if a = 65 then (236 + k).toNat else if a = 70 then (241 + k).toNat else if a < 130 then (10 + 5 * ((a - 100) / 10) + k).toNat else if a < 200 then (270 + 5 * ((a - 130) / 10) + k).toNat else if a < 610 then (27 + 5 * ((a - 200) / 10) + k).toNat
  else if a < 1100 then (245 + 3 * ((a - 1000) / 10) + k).toNat else if a < 2000 then (260 + 2 * ((a - 1100) / 10) + k).toNat else 305 + mdR.idxOf k
theorem tmA_as : ∀ t : Nat, t < 328 → tmA (asA t).1 (asA t).2 = t := by decide +kernel
/-- what is known of the cells when n are made, of the references when t are set -/
def sN : Nat → Shp
  | 0 => fun a => if a < 20 then SH a else (999, 0)
  | n + 1 => fun a => if a = adA n then SH a else sN n a
def pN : Nat → Ptr
  | 0 => fun _ _ => -1
  | t + 1 => fun a k => if a = (asA t).1 ∧ k = (asA t).2 then PT a k else pN t a k
def zz (ω : Wd) (n : Nat) : Nat → Prop := fun x => x = ω.2.2.2.1 + n
def OKw (ω : Wd) : Prop := ∀ n : Nat, n < 331 → ω.1 (adA n) = ω.2.2.2.1 + n
theorem sN_in : ∀ (n i : Nat), i < n → sN n (adA i) = SH (adA i)
  | 0, i, h => absurd h (by omega)
  | n + 1, i, h => by
    by_cases e : adA i = adA n
    · exact if_pos e
    · refine (if_neg e).trans (sN_in n i ?_)
      rcases Nat.lt_or_ge i n with g | g
      · exact g
      · exact absurd (by rw [show i = n by omega]) e
theorem sN_is {n : Nat} (a : Int) (h : orA a < n) (e : adA (orA a) = a) : sN n a = SH a := by
  rw [← e]; exact sN_in n _ h
theorem sN_lo : ∀ (n : Nat), n ≤ 331 → ∀ a : Int, a < 20 → sN n a = SH a
  | 0, _, a, h => if_pos h
  | n + 1, hn, a, h => (if_neg (fun e => by have := (orA_ad n (by omega)).2; omega)).trans (sN_lo n (by omega) a h)
theorem sN_no : ∀ (n : Nat) (a : Int), 20 ≤ a → (∀ i : Nat, i < n → adA i ≠ a) → sN n a = (999, 0)
  | 0, a, h, _ => if_neg (by omega)
  | n + 1, a, h, g => (if_neg (fun e => g n (by omega) e.symm)).trans (sN_no n a h (fun i hi => g i (by omega)))
theorem SH_999 {a : Int} (h : ¬ (SH a).1 < 500) : SH a = (999, 0) := by
  by_cases h0 : a < 0
  · unfold SH
    rw [if_pos (by omega), if_neg (by omega), if_neg (by omega), if_neg (by omega)]
  · by_cases h1 : a < 2060
    · have g : ∀ n : Nat, n < 2060 → ¬ (SH (n : Int)).1 < 500 → SH (n : Int) = (999, 0) := by decide +kernel
      have e : ((a.toNat : Nat) : Int) = a := by omega
      have := g a.toNat (by omega) (by rw [e]; exact h)
      rwa [e] at this
    · unfold SH
      rw [if_neg (by omega), if_neg (by omega), if_neg (by omega), if_neg (by omega), if_neg (by omega), if_neg (by omega), if_neg (by omega), if_neg (by omega)]
      have hl : shM.length ≤ (a - 2000).toNat := by
        have : shM.length = 54 := rfl
        omega
      simp [List.getD, List.getElem?_eq_none hl]
theorem sN_all (a : Int) : sN 331 a = SH a := by
  by_cases h : a < 20
  · exact sN_lo 331 (by omega) a h
  · by_cases g : (SH a).1 < 500
    · obtain ⟨h0, h1⟩ := SH_dom g
      have e : ((a.toNat : Nat) : Int) = a := by omega
      have := adA_or a.toNat (by omega) (by omega) (by rw [e]; exact g)
      rw [e] at this
      exact sN_is a this.2 this.1
    · have h9 : ∀ n : Nat, n < 331 → (SH (adA n)).1 < 500 := by decide +kernel
      rw [sN_no 331 a (by omega) (fun i hi e => g (by rw [← e]; exact h9 i hi))]
      exact (SH_999 g).symm
theorem pN_in : ∀ (t i : Nat), i < t → pN t (asA i).1 (asA i).2 = PT (asA i).1 (asA i).2
  | 0, i, h => absurd h (by omega)
  | t + 1, i, h => by
    by_cases e : (asA i).1 = (asA t).1 ∧ (asA i).2 = (asA t).2
    · exact if_pos e
    · refine (if_neg e).trans (pN_in t i ?_)
      rcases Nat.lt_or_ge i t with g | g
      · exact g
      · exact absurd (by rw [show i = t by omega]; exact ⟨rfl, rfl⟩) e
theorem pN_is {t : Nat} (a k : Int) (h : tmA a k < t) (e : asA (tmA a k) = (a, k)) : pN t a k = PT a k := by
  have := pN_in t _ h
  rw [e] at this
  exact this
theorem pN_no : ∀ (t : Nat), t ≤ 328 → ∀ a k : Int, t ≤ tmA a k → pN t a k = -1
  | 0, _, a, k, _ => rfl
  | t + 1, ht, a, k, h => (if_neg (fun e => by
      have := tmA_as t (by omega)
      rw [← e.1, ← e.2] at this
      omega)).trans (pN_no t (by omega) a k (by omega))
theorem pN_ne {t : Nat} {a k : Int} (h : ¬ (a = (asA t).1 ∧ k = (asA t).2)) : pN (t + 1) a k = pN t a k := if_neg h
/-- one cell more -/
theorem HF.push {ω : Wd} {sh sh' : Shp} {pt : Ptr} {z z' : Nat → Prop} {h : Hp} {U : State} {H H1 : Heap} {a : Int} (k : HF ω sh pt z h U H) (h0 : 0 ≤ a) (hω : ω.1 a = H.size) (hb : ω.2.2.2.1 ≤ H.size) (hz : z' H1.size) (ho : ∀ q : Nat, q < H.size → H1[q]? = H[q]?) (hsh : ∀ b : Int, b ≠ a → sh' b = sh b) (hc : cellOK ω sh' pt h U H1 a) : HF ω sh' pt z' h U H1 := by
  obtain ⟨k1, k2, k3, k4, k5, k6⟩ := k
  have hlt : ∀ b : Int, (sh b).1 < 500 → ω.1 b < H.size := fun b hb => by
    obtain ⟨cell, c1, -⟩ := k1 b hb
    exact (Array.getElem?_eq_some_iff.mp c1).1
  refine ⟨fun b hb => ?_, fun b c hb hc h20 e => ?_, fun b hb9 h20 => ?_, fun b hb => ?_, hz, k6.kept (fun q hq _ => ho q hq)⟩
  · by_cases hba : b = a
    · subst hba; exact hc
    · rw [hsh b hba] at hb
      obtain ⟨cell, c1, c2, c3, c4, c5⟩ := k1 b hb
      refine ⟨cell, by rw [ho _ (hlt b hb)]; exact c1, c2, ?_⟩
      rw [hsh b hba]
      exact ⟨c3, c4, c5⟩
  · by_cases hba : b = a
    · by_cases hca : c = a
      · rw [hba, hca]
      · rw [hsh c hca] at hc
        have := hlt c hc
        rw [hba, hω] at e
        omega
    · rw [hsh b hba] at hb
      by_cases hca : c = a
      · have := hlt b hb
        rw [hca, hω] at e
        omega
      · rw [hsh c hca] at hc
        exact k2 b c hb hc h20 e
  · by_cases hba : b = a
    · rw [hba, hω]; exact hb
    · rw [hsh b hba] at hb9
      exact k3 b hb9 h20
  · by_cases hba : b = a
    · rw [hba]; exact h0
    · rw [hsh b hba] at hb
      exact k4 b hb
variable {ω : Wd} {M : Mt} {d mc ms cl sl : Nat} {PQ : PQt} {pt : Ptr} {h : Hp} {pc : Nat} {lv : List (Option Value)} {st : List Value} {n t : Nat}
theorem kEl_dv : ∀ (kd : Nat) (x : Int), 100 ≤ kd → x = 0 → kd < 104 → (match kEl kd with | 0 => iV x | 1 => lV x | _ => .null) = defaultValue (kTy kd) := by
  intro kd x h1 hx h2
  subst hx
  have : kd = 100 ∨ kd = 101 ∨ kd = 102 ∨ kd = 103 := by omega
  rcases this with rfl | rfl | rfl | rfl <;> rfl
theorem ev_newarr {atype : ArrayType} {a x : Int} (hω : OKw ω) (hn : n < 331) (ha : adA n = a) (hd : decode M.2.1 pc = .ok (.newarray atype, 2)) (hw : Cond.arrayClass (newarray.typeOf atype) ∈ WS) (hT : newarray.typeOf atype = kTy (SH a).1) (hkd : 100 ≤ (SH a).1 ∧ (SH a).1 < 104) (hx : x = (SH a).2) (hlen : (SH a).2 ≤ 10000) (hcl : cl + 1 ≤ mc) (hsl : sl + (SH a).2 ≤ ms) (hz : ∀ j, h a j = 0)
    (k : Ev ω M d PQ mc ms (cl + 1) (sl + (SH a).2) (sN (n + 1)) pt (zz ω (n + 1)) h (pc + 2) lv (aV ω a :: st)) : Ev ω M d PQ mc ms cl sl (sN n) pt (zz ω n) h pc lv (iV x :: st) := by
  intro p l e R s m args below meth c H locs ls Y
  obtain ⟨C, rm9, hV, hH, hl, hS⟩ := id Y
  have hts : ∀ w ∈ WS, w.before args s = true := C.2.2.2.2.2.1
  have hsz : H.size = ω.2.2.2.1 + n := hH.2.2.2.2.1
  have h20 : 20 ≤ a := by rw [← ha]; exact (orA_ad n hn).2
  have hr : ω.1 a = H.size := by rw [hsz, ← ha]; exact hω n hn
  have hx1 : w32 x = (SH a).2 := by rw [hx]; unfold w32; omega
  have hbytes : (SH a).2 * componentBytes (newarray.typeOf atype) ≤ 536870912 := by
    have : componentBytes (newarray.typeOf atype) ≤ 8 := by cases atype <;> decide
    calc (SH a).2 * componentBytes (newarray.typeOf atype) ≤ 10000 * 8 := Nat.mul_le_mul hlen this
      _ ≤ 536870912 := by decide
  refine va_newaK C.1 C.2.1 (hts _ hw) rfl hd rfl (N := (SH a).2) ?_ (by rw [iv_clamp, hx1]; rfl) hbytes (by omega) (by omega) rfl fun H1 cA e1 z1 o1 hAr hNm => ?_
  · rw [iv_0, iv_lt, w32_0]; omega
  have hsa : sN (n + 1) a = SH a := if_pos ha.symm
  have hc' : cellOK ω (sN (n + 1)) pt h s H1 a := by
    refine ⟨arrV cA (SH a).2 (fun _ => defaultValue (newarray.typeOf atype)), by rw [hr]; exact e1, (fun q => by cases q), fun g => absurd g (by rw [hsa]; omega), fun _ => ⟨by rw [hsa, ← hT]; exact hAr _ _, by rw [hsa]; exact Nat.le_of_eq (arrV_size _ _ _).symm, by rw [hsa]; exact congrArg Nat.toInt32 (arrV_size _ _ _), fun j hj => ?_⟩, fun g => absurd g (by rw [hsa]; omega)⟩
    rw [hsa] at hj ⊢
    rw [arrV_read _ _ hj, hT, ← kEl_dv (SH a).1 (rd h a j) hkd.1 (by rw [rd_ge h20]; exact hz j) hkd.2]
    have : kEl (SH a).1 = 0 ∨ kEl (SH a).1 = 1 := by
      unfold kEl; split
      · exact Or.inr rfl
      · rw [if_neg (by omega)]; exact Or.inl rfl
    unfold fV
    rcases this with e | e <;> rw [e] <;> rfl
  have := k p l e R s m args below meth c H1 locs ls ⟨C, rm9, hV, hH.push (by omega) hr (by omega) (by show _ = _; rw [z1, hsz]; omega) o1 (fun b hb => if_neg (fun e => hb (e.trans ha))) hc', hl, ⟨Nat.le_trans hS.1 (by omega), fun x h1 h2 => (o1 x (Nat.lt_of_lt_of_le h1 hS.1)).trans (hS.2.1 x h1 h2), hS.2.2⟩⟩
  rw [aV_pos (by omega), hr] at this
  exact this
/-- a pool entry of own's is class c, which may be made -/
def NL (own : String) (idx c : Nat) : Prop := ∃ q : vw_C, vwCl[c]? = some q ∧ Cond.classLink own idx q.1 ∈ WS ∧ Cond.instantiable q.1 q.2.2 ∈ WS ∧ Cond.initialized q.1 ∈ WS
theorem ev_new {idx c9 N9 : Nat} {a : Int} (hω : OKw ω) (hn : n < 331) (ha : adA n = a) (hd : decode M.2.1 pc = .ok (.new idx, 3)) (hN : NL M.1.cls idx c9) (hs : (SH a).1 = c9) (hc : c9 < 11) (hN9 : ∀ q, vwCl[c9]? = some q → q.2.2 = N9 ∧ ∀ j : Nat, j < N9 → fV ω pt h (fkd c9 j) a j = defaultValue (tyf c9 j)) (hcl : cl + 1 ≤ mc) (hsl : sl + N9 ≤ ms)
    (k : Ev ω M d PQ mc ms (cl + 1) (sl + N9) (sN (n + 1)) pt (zz ω (n + 1)) h (pc + 3) lv (aV ω a :: st)) : Ev ω M d PQ mc ms cl sl (sN n) pt (zz ω n) h pc lv st := by
  intro p l e R s m args below meth c H locs ls Y
  obtain ⟨C, rm9, hV, hH, hl, hS⟩ := id Y
  have hts : ∀ w ∈ WS, w.before args s = true := C.2.2.2.2.2.1
  obtain ⟨q, hq, w1, w2, w3⟩ := hN
  have hsz : H.size = ω.2.2.2.1 + n := hH.2.2.2.2.1
  have h20 : 20 ≤ a := by rw [← ha]; exact (orA_ad n hn).2
  have hr : ω.1 a = H.size := by rw [hsz, ← ha]; exact hω n hn
  obtain ⟨e9, hf9⟩ := hN9 q hq
  rw [e9] at w2
  have hKn := hV.1 c9 q hq
  refine W.newcK C.1 C.2.1 C.2.2.2.2.1 (hts _ w1) (hts _ w2) (hts _ w3) rfl hd (by omega) (by omega) hKn.2.1 rfl fun H1 kC hkC e1 z1 o1 => ?_
  have hsa : sN (n + 1) a = SH a := if_pos ha.symm
  obtain ⟨cell, b1, b2, b3, b4⟩ := u_born (tyf c9) hts (inWX c9 q hq) hKn hkC e1 (tyWX c9 q hq)
  have hc' : cellOK ω (sN (n + 1)) pt h s H1 a := by
    refine ⟨cell, by rw [hr]; exact b1, by rw [b3]; exact (fun q => by cases q), fun _ => ⟨b3, by rw [hsa, hs]; exact b2, q, by rw [hsa, hs]; exact hq, fun j hj => ?_⟩, fun g => absurd g (by rw [hsa]; omega), fun g => absurd g (by rw [hsa]; omega)⟩
    rw [hsa, hs, b4 j hj, hf9 j (by omega)]
  have := k p l e R s m args below meth c H1 locs ls ⟨C, rm9, hV, hH.push (by omega) hr (by omega) (by show _ = _; rw [z1, hsz]; omega) o1 (fun b hb => if_neg (fun e => hb (e.trans ha))) hc', hl, ⟨Nat.le_trans hS.1 (by omega), fun x h1 h2 => (o1 x (Nat.lt_of_lt_of_le h1 hS.1)).trans (hS.2.1 x h1 h2), hS.2.2⟩⟩
  rw [aV_pos (by omega), hr] at this
  exact this
theorem ev_newrefs {idx : Nat} {a x : Int} {C9 : String} (hω : OKw ω) (hn : n < 331) (ha : adA n = a) (hd : decode M.2.1 pc = .ok (.anewarray idx, 3)) (hw : Cond.classLink M.1.cls idx C9 ∈ WS) (hAO : C9 ∈ AOs) (hT : FieldType.object C9 = kTy (SH a).1) (hkd : 110 ≤ (SH a).1 ∧ (SH a).1 < 500) (hx : x = (SH a).2) (hlen : (SH a).2 ≤ 10000) (hcl : cl + 1 ≤ mc) (hsl : sl + (SH a).2 ≤ ms) (hz : ∀ j : Nat, j < (SH a).2 → pt a j = -1)
    (k : Ev ω M d PQ mc ms (cl + 1) (sl + (SH a).2) (sN (n + 1)) pt (zz ω (n + 1)) h (pc + 3) lv (aV ω a :: st)) : Ev ω M d PQ mc ms cl sl (sN n) pt (zz ω n) h pc lv (iV x :: st) := by
  intro p l e R s m args below meth c H locs ls Y
  obtain ⟨C, rm9, hV, hH, hl, hS⟩ := id Y
  have hts : ∀ w ∈ WS, w.before args s = true := C.2.2.2.2.2.1
  have hsz : H.size = ω.2.2.2.1 + n := hH.2.2.2.2.1
  have h20 : 20 ≤ a := by rw [← ha]; exact (orA_ad n hn).2
  have hr : ω.1 a = H.size := by rw [hsz, ← ha]; exact hω n hn
  have hx1 : w32 x = (SH a).2 := by rw [hx]; unfold w32; omega
  have hcl1 : (Int32.ofInt x).toNatClampNeg = (SH a).2 := by rw [iv_clamp, hx1]; rfl
  refine W.anew C.1 C.2.1 C.2.2.2.2.1 (hts _ hw) (va_AO.use (hV.2.2.2.2 _ hAO)) rfl hd rfl ?_ (by rw [hcl1]; omega) (by omega) (by rw [hcl1]; omega) fun cA kA comp f1 f2 f3 f4 => ?_
  · rw [iv_0, iv_lt, w32_0]; omega
  rw [hcl1]
  generalize hH1 : H.push ({ cls := cA, slots := Array.replicate (SH a).2 .null, vm := .none } : Cell) = H1
  have z1 : H1.size = H.size + 1 := by rw [← hH1, Array.size_push]
  have e1 : H1[H.size]? = some (arrV cA (SH a).2 (fun _ => .null)) := by rw [← hH1, Array.getElem?_push_size, ← arrV_new]
  have o1 : ∀ q : Nat, q < H.size → H1[q]? = H[q]? := fun q hq => by rw [← hH1, Array.getElem?_push, if_neg (Nat.ne_of_lt hq)]
  have hAr : ArrOfT s cA (.object C9) := fun N z => ⟨(fun k h => by cases h), kA, f2, comp, f3⟩
  have hsa : sN (n + 1) a = SH a := if_pos ha.symm
  have hc' : cellOK ω (sN (n + 1)) pt h s H1 a := by
    refine ⟨arrV cA (SH a).2 (fun _ => .null), by rw [hr]; exact e1, (fun q => by cases q), fun g => absurd g (by rw [hsa]; omega), fun _ => ⟨by rw [hsa, ← hT]; exact hAr _ _, by rw [hsa]; exact Nat.le_of_eq (arrV_size _ _ _).symm, by rw [hsa]; exact congrArg Nat.toInt32 (arrV_size _ _ _), fun j hj => ?_⟩, fun g => ?_⟩
    · rw [hsa] at hj ⊢
      rw [arrV_read _ _ hj, show kEl (SH a).1 = 2 from by unfold kEl; rw [if_neg (by omega), if_pos hkd.1]]
      show _ = some (aV ω (pt a j))
      rw [hz j hj]; rfl
    · rw [hsa, ← hT]
      exact ⟨kA, comp, f2, f3, f4, f1⟩
  have := k p l e R s m args below meth c H1 locs ls ⟨C, rm9, hV, hH.push (by omega) hr (by omega) (by show _ = _; rw [z1, hsz]; omega) o1 (fun b hb => if_neg (fun e => hb (e.trans ha))) hc', hl, ⟨Nat.le_trans hS.1 (by omega), fun x h1 h2 => (o1 x (Nat.lt_of_lt_of_le h1 hS.1)).trans (hS.2.1 x h1 h2), hS.2.2⟩⟩
  rw [aV_pos (by omega), hr] at this
  exact this
end EvNew
