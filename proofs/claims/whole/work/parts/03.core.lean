/-! THE ABSTRACT HEAP: every cell has a number of its own (an abstract address), every place holds an integer that stands for an int, a long or a cell; a judgement Ev over it, a row an instruction. -/
def w32 (x : Int) : Int := (x + 2147483648) % 4294967296 - 2147483648
def w64 (x : Int) : Int := (x + 9223372036854775808) % 18446744073709551616 - 9223372036854775808
def iV (x : Int) : Value := .int (Int32.ofInt x)
def lV (x : Int) : Value := .long (Int64.ofInt x)
def iand (x y : Int) : Int := (Int32.ofInt x &&& Int32.ofInt y).toInt
def ior (x y : Int) : Int := (Int32.ofInt x ||| Int32.ofInt y).toInt
def ixor (x y : Int) : Int := (Int32.ofInt x ^^^ Int32.ofInt y).toInt
def ishl (x y : Int) : Int := (Int32.ofInt x <<< (Int32.ofInt y &&& 31)).toInt
def ishr (x y : Int) : Int := (Int32.ofInt x >>> (Int32.ofInt y &&& 31)).toInt
def iushr (x y : Int) : Int := ((Int32.ofInt x).toUInt32 >>> ((Int32.ofInt y).toUInt32 &&& Int32.toUInt32 31)).toInt32.toInt
def land (x y : Int) : Int := (Int64.ofInt x &&& Int64.ofInt y).toInt
def lor (x y : Int) : Int := (Int64.ofInt x ||| Int64.ofInt y).toInt
def lxor (x y : Int) : Int := (Int64.ofInt x ^^^ Int64.ofInt y).toInt
def lushr (x y : Int) : Int := ((Int64.ofInt x).toUInt64 >>> ((Int32.ofInt y).toInt64.toUInt64 &&& Int64.toUInt64 63)).toInt64.toInt
def w8 (x : Int) : Int := (x + 128) % 256 - 128
theorem w32_toInt (x : Int) : (Int32.ofInt x).toInt = w32 x := by
  rw [Int32.toInt_ofInt]
  unfold w32 Int.bmod
  simp only [Int32.size]
  split <;> omega
theorem w64_toInt (x : Int) : (Int64.ofInt x).toInt = w64 x := by
  rw [Int64.toInt_ofInt]
  unfold w64 Int.bmod
  simp only [Int64.size]
  split <;> omega
theorem w32_id {x : Int} (h1 : -2147483648 ≤ x) (h2 : x < 2147483648) : w32 x = x := by unfold w32; omega
theorem w64_id {x : Int} (h1 : -9223372036854775808 ≤ x) (h2 : x < 9223372036854775808) : w64 x = x := by unfold w64; omega
theorem w32_lo (x : Int) : -2147483648 ≤ w32 x := by unfold w32; omega
theorem w32_hi (x : Int) : w32 x < 2147483648 := by unfold w32; omega
theorem w32_w32 (x : Int) : w32 (w32 x) = w32 x := by unfold w32; omega
theorem iv_lt (x y : Int) : Int32.ofInt x < Int32.ofInt y ↔ w32 x < w32 y := by rw [Int32.lt_iff_toInt_lt, w32_toInt, w32_toInt]
theorem iv_le (x y : Int) : Int32.ofInt x ≤ Int32.ofInt y ↔ w32 x ≤ w32 y := by rw [Int32.le_iff_toInt_le, w32_toInt, w32_toInt]
theorem iv_eq (x y : Int) : Int32.ofInt x = Int32.ofInt y ↔ w32 x = w32 y := by rw [← Int32.toInt_inj, w32_toInt, w32_toInt]
theorem lv_ltI (x y : Int) : Int64.ofInt x < Int64.ofInt y ↔ w64 x < w64 y := by rw [Int64.lt_iff_toInt_lt, w64_toInt, w64_toInt]
theorem lv_eqI (x y : Int) : Int64.ofInt x = Int64.ofInt y ↔ w64 x = w64 y := by rw [← Int64.toInt_inj, w64_toInt, w64_toInt]
theorem iV_toInt (x : Int32) : iV x.toInt = .int x := by simp [iV]
theorem lV_toInt (x : Int64) : lV x.toInt = .long x := by simp [lV]
theorem iV_w32 (x : Int) : iV (w32 x) = iV x := by rw [← w32_toInt, iV_toInt]; rfl
theorem lV_w64 (x : Int) : lV (w64 x) = lV x := by rw [← w64_toInt, lV_toInt]; rfl
theorem ofI_w32 (x : Int) : Int32.ofInt (w32 x) = Int32.ofInt x := by rw [← w32_toInt, Int32.ofInt_toInt]
theorem ofL_w64 (x : Int) : Int64.ofInt (w64 x) = Int64.ofInt x := by rw [← w64_toInt, Int64.ofInt_toInt]
theorem iv_clamp (x : Int) : (Int32.ofInt x).toNatClampNeg = (w32 x).toNat := by
  show (Int32.ofInt x).toInt.toNat = _
  rw [w32_toInt]
/-! worlds -/
/-- real addresses; classes; slots; where the new cells begin; the texts' rows; the script's cell, length, ints -/
abbrev Wd : Type := (Int → Nat) × (Nat → ClassId) × (Nat → Nat → Nat) × Nat × (Nat → Nat) × Nat × Nat × (Nat → Int32)
abbrev Mt : Type := MethodName × ByteArray × Nat × Option FieldType
abbrev Hp : Type := Int → Int → Int
abbrev Shp : Type := Int → Nat × Nat
abbrev Ptr : Type := Int → Int → Int
def aV (ω : Wd) (a : Int) : Value := if a < 0 then .null else .ref (ω.1 a)
def fr (ω : Wd) : Nat → Prop := fun q => ω.2.2.2.1 ≤ q
def fV (ω : Wd) (pt : Ptr) (h : Hp) (kd : Nat) (a k : Int) : Value := match kd with
  | 0 => iV (h a k)
  | 1 => lV (h a k)
  | 2 => aV ω (pt a k)
  | _ => aV ω (h a k)
/-- the static rows' contents: cells 1 .. 7; every other row holds what the heap holds -/
def stl (a : Nat) : List Int := match a with
  | 1 => [109, 99, 0, 108, 98, 104, 97, 118, 103]
  | 2 => [1, 0, 0, 0, 0, 0, 0, 0, 1]
  | 3 => [30, 99, 0, 9, 9, 9, 5, 5, 9]
  | 4 => [20, 20, 0, 4, 2, 3, 0, 1, 3]
  | 5 => [103, 104, 108, 98, 110, 100]
  | 6 => [115, 101, 97, 112]
  | 7 => [1, 0, 2, 2]
  | _ => []
def rd (h : Hp) : Hp := fun a i => if a < 20 then (stl a.toNat).getD i.toNat 0 else h a i
theorem rd_ge {h : Hp} {a : Int} (ha : 20 ≤ a) (i : Int) : rd h a i = h a i := if_neg (by omega)
def kTy (kd : Nat) : FieldType := match kd with
  | 100 => .int
  | 101 => .byte
  | 102 => .long
  | 103 => .boolean
  | 110 => .object "CompanyCourt$Law"
  | 111 => .object "CompanyCourt$Session"
  | _ => .object "CompanyCourt$State"
def kEl (kd : Nat) : Nat := if kd = 102 then 1 else if 110 ≤ kd then 2 else 0
/-- what a field of a class is: 0 an int, 1 a long, 2 a cell for good, 3 a cell that changes -/
def fkd (c k : Nat) : Nat := match c with
  | 0 => if k < 3 then 2 else 0
  | 1 => if k < 4 then 2 else 0
  | 2 => if k < 2 then 2 else 0
  | 3 => 2
  | 4 => if k < 1 then 2 else 0
  | 5 => if k < 2 then 2 else 0
  | 6 => if k < 1 then 2 else 0
  | 7 => if k < 4 then 2 else 0
  | 8 => if k < 1 then 2 else 0
  | 9 => if k = 1 ∨ k = 2 then 3 else if k = 19 then 1 else if k < 5 ∨ (9 ≤ k ∧ k < 12) ∨ 13 ≤ k then 2 else 0
  | _ => if k = 5 then 3 else if k = 43 then 1 else if (1 ≤ k ∧ k < 5) ∨ k = 15 ∨ k = 16 ∨ (18 ≤ k ∧ k < 26) ∨ k = 32 ∨ k = 33 ∨ (36 ≤ k ∧ k < 39) ∨ k = 41 ∨ k = 49 ∨ k = 51 ∨ k = 52 then 2 else 0
def tyf (c k : Nat) : FieldType := match c with
  | 0 => tyX0 k
  | 1 => tyX1 k
  | 2 => tyX2 k
  | 3 => tyX3 k
  | 4 => tyX4 k
  | 5 => tyX5 k
  | 6 => tyX6 k
  | 7 => tyX7 k
  | 8 => tyX8 k
  | 9 => tyX9 k
  | _ => tyX10 k
def cellOK (ω : Wd) (sh : Shp) (pt : Ptr) (h : Hp) (U : State) (H : Heap) (a : Int) : Prop := ∃ cell : Cell, H[ω.1 a]? = some cell ∧ cell.vm ≠ .unknown ∧
  ((sh a).1 < 100 → cell.vm = .none ∧ cell.cls = ω.2.1 (sh a).1 ∧ ∃ q, vwCl[(sh a).1]? = some q ∧ ∀ k : Nat, k < q.2.2 → cell.slots[ω.2.2.1 (sh a).1 k]? = some (fV ω pt h (fkd (sh a).1 k) a k)) ∧
  (100 ≤ (sh a).1 → U.isArrayOf cell (kTy (sh a).1) ∧ (sh a).2 ≤ cell.slots.size ∧ cell.slots.size.toInt32 = Int32.ofNat (sh a).2 ∧ ∀ j : Nat, j < (sh a).2 → cell.slots[j]? = some (fV ω pt (rd h) (kEl (sh a).1) a j)) ∧ (110 ≤ (sh a).1 → va_RA U cell.cls (kTy (sh a).1))
/-- the seven static rows: class, name; the seven written texts: class, pool number, text, length, bytes -/
def zC (i : Nat) : String := match i with
  | 0 | 1 | 2 | 3 => "CompanyCourt$County"
  | 4 => "CompanyCourt$Law"
  | _ => "CompanyCourt$Session"
def zN (i : Nat) : String := match i with
  | 0 => "LETTERS"
  | 1 => "LEAST"
  | 2 => "MOST"
  | 3 => "WITHOUT"
  | 4 => "LETTERS"
  | 5 => "LETTERS"
  | _ => "DIGITS"
def kOwn (i : Nat) : String := match i with
  | 0 => "CompanyCourt"
  | _ => "CompanyCourtModel"
def kIx (i : Nat) : Nat := match i with
  | 0 => 137
  | 1 => 26
  | 2 => 32
  | 3 => 251
  | 4 => 257
  | 5 => 259
  | _ => 267
def kTx (i : Nat) : String := match i with
  | 0 => "no such person, or nothing of that kind"
  | 1 => "y"
  | 2 => "ghlbnd"
  | 3 => "mc"
  | 4 => "lbh"
  | 5 => "avg"
  | _ => "seap"
def kLen : List Nat := [39, 1, 6, 2, 3, 3, 4]
def kByt : List (List Int32) := [[110, 111, 32, 115, 117, 99, 104, 32, 112, 101, 114, 115, 111, 110, 44, 32, 111, 114, 32, 110, 111, 116, 104, 105, 110, 103, 32, 111, 102, 32, 116, 104, 97, 116, 32, 107, 105, 110, 100], [121], [103, 104, 108, 98, 110, 100], [109, 99], [108, 98, 104], [97, 118, 103], [115, 101, 97, 112]]
def SZ (ω : Wd) (U : State) (H : Heap) : Prop :=
  (∀ i : Nat, i < 7 → va_Z (zC i) (zN i) "[I" (.ref (ω.1 ((i : Int) + 1))) (fr ω) U H) ∧ vk_S 7 kLen kByt (fun i => ω.1 (10 + (i : Int))) ω.2.2.2.2.1 (fr ω) U H ∧
  va_Z "java/lang/String" "COMPACT_STRINGS" "Z" (.int 1) (fr ω) U H ∧ va_Zq "jdk/internal/util/Preconditions" "SIOOBE_FORMATTER" "Ljava/util/function/BiFunction;" (fr ω) U H ∧ va_X ω.2.2.2.2.2.1 ω.2.2.2.2.2.2.1 ω.2.2.2.2.2.2.2 U H ∧ ω.2.2.2.2.2.1 < ω.2.2.2.1 ∧ vx_Zq Bundle.tN "UNASSIGNED_STACK" Bundle.steD (fr ω) U H ∧ vx_Zq Bundle.tN "SUPPRESSED_SENTINEL" Bundle.listD (fr ω) U H
def HF (ω : Wd) (sh : Shp) (pt : Ptr) (z : Nat → Prop) (h : Hp) (U : State) (H : Heap) : Prop :=
  (∀ a : Int, (sh a).1 < 500 → cellOK ω sh pt h U H a) ∧ (∀ a b : Int, (sh a).1 < 500 → (sh b).1 < 500 → 20 ≤ a → ω.1 a = ω.1 b → a = b) ∧ (∀ a : Int, (sh a).1 < 500 → 20 ≤ a → fr ω (ω.1 a)) ∧ (∀ a : Int, (sh a).1 < 500 → 0 ≤ a) ∧ z H.size ∧ SZ ω U H
/-- the links within the nest -/
def NW : List (String × Nat × MethodName × String) := [(RX9, 9, yX8_init, "CompanyCourt"), (RX9, 18, yX0_init, "CompanyCourt"), (RX9, 53, yX7_init, "CompanyCourt"), (RX9, 81, yX3_init, "CompanyCourt"), (RX9, 88, yX1_init, "CompanyCourt"), (RX9, 95, yX5_init, "CompanyCourt"), (RX9, 108, yX2_init, "CompanyCourt"), (RX9, 109, yX6_init, "CompanyCourt"), (RX0, 74, yX9_at, "CompanyCourt"), (RX0, 78, yX9_put, "CompanyCourt"), (RX0, 89, yX9_holds, "CompanyCourt"), (RX1, 29, yX9_at, "CompanyCourt"), (RX2, 99, yX9_at, "CompanyCourt"), (RX2, 103, yX9_put, "CompanyCourt"), (RX3, 40, yX9_put, "CompanyCourt"), (RX3, 44, yX9_at, "CompanyCourt"), (RX4, 24, yX7_init, "CompanyCourt"), (RX5, 25, yX9_put, "CompanyCourt"), (RX5, 36, yX9_at, "CompanyCourt"), (RX5, 40, yX9_rowOf, "CompanyCourt"), (RX6, 19, yX9_at, "CompanyCourt"), (RX6, 50, yX9_put, "CompanyCourt"), (RX7, 53, yX9_put, "CompanyCourt"), (RX7, 64, yX9_at, "CompanyCourt"), (RX7, 68, yX9_holds, "CompanyCourt"), (RX8, 25, yX9_put, "CompanyCourt")]
/-- classes of which arrays are made -/
def AOs : List String := ["CompanyCourt$Law", "CompanyCourt$Session", "CompanyCourt$State"]
def VF (ω : Wd) (U : State) : Prop := (∀ (c : Nat) (q : vw_C), vwCl[c]? = some q → u_Kn U q.1 q.2.1 q.2.2 (ω.2.1 c) (ω.2.2.1 c)) ∧ (∀ i : Nat, i < 7 → vk_R (kOwn i) (kIx i) (kTx i) (ω.1 (10 + (i : Int))) U) ∧ (∀ q ∈ NW, va_Nw (.methodLinkNest q.1 q.2.1 q.2.2.1 q.2.2.2) U) ∧ va_Nw (.castable "java/util/NoSuchElementException" "java/util/NoSuchElementException") U ∧ ∀ x ∈ AOs, va_AO x U
theorem SZ.kept {ω : Wd} {U : State} {H H1 : Heap} (h : SZ ω U H) (hq : ∀ a : Nat, a < H.size → ¬ fr ω a → H1[a]? = H[a]?) : SZ ω U H1 :=
  ⟨fun i hi => (h.1 i hi).kept hq, h.2.1.kept hq, h.2.2.1.kept hq, h.2.2.2.1.kept hq, h.2.2.2.2.1.kept (hq _ (by obtain ⟨scr, g, -⟩ := h.2.2.2.2.1; exact (Array.getElem?_eq_some_iff.mp g).1) (Nat.not_le.mpr h.2.2.2.2.2.1)), h.2.2.2.2.2.1, h.2.2.2.2.2.2.1.kept hq, h.2.2.2.2.2.2.2.kept hq⟩
theorem SZ.moved {ω : Wd} {u U : State} {H : Heap} (hv : u.vm.Alike U.vm) (h : SZ ω u H) : SZ ω U H :=
  ⟨fun i hi => (h.1 i hi).moved hv, h.2.1.moved hv, h.2.2.1.moved hv, h.2.2.2.1.moved hv, h.2.2.2.2.1.moved hv, h.2.2.2.2.2.1, h.2.2.2.2.2.2.1.moved hv, h.2.2.2.2.2.2.2.moved hv⟩
theorem cellOK.moved {ω : Wd} {sh : Shp} {pt : Ptr} {h : Hp} {u U : State} {H : Heap} {a : Int} (hv : u.vm.Alike U.vm) (k : cellOK ω sh pt h u H a) : cellOK ω sh pt h U H a := by
  obtain ⟨cell, h1, h2, h3, h4, h5⟩ := k
  exact ⟨cell, h1, h2, h3, fun g => ⟨State.isArrayOf_alike hv (h4 g).1, (h4 g).2⟩, fun g => (h5 g).moved hv⟩
theorem HF.moved {ω : Wd} {sh : Shp} {pt : Ptr} {z : Nat → Prop} {h : Hp} {u U : State} {H : Heap} (hv : u.vm.Alike U.vm) (k : HF ω sh pt z h u H) : HF ω sh pt z h U H :=
  ⟨fun a ha => (k.1 a ha).moved hv, k.2.1, k.2.2.1, k.2.2.2.1, k.2.2.2.2.1, k.2.2.2.2.2.moved hv⟩
theorem VF.warm {ω : Wd} {s U : State} (hW : s.WarmedH U.vm) (k : VF ω s) : VF ω U := ⟨fun c q h => u_Kn_moved hW.alike (k.1 c q h), fun i hi => (k.2.1 i hi).warm hW, fun q hq => va_Nw.warmM hW (k.2.2.1 q hq), va_Nw.warmC hW k.2.2.2.1, fun x hx => va_AO.moved hW.alike (k.2.2.2.2 x hx)⟩
theorem VF.same {ω : Wd} {u U : State} (hv : U.vm = u.vm) (k : VF ω u) : VF ω U := ⟨fun c q h => u_Kn_moved (by rw [hv]; exact Vm.Alike.refl _) (k.1 c q h), fun i hi => (k.2.1 i hi).same hv, fun q hq => va_Nw.same rfl hv.symm (k.2.2.1 q hq), va_Nw.same rfl hv.symm k.2.2.2.1, fun x hx => va_AO.moved (by rw [hv]; exact Vm.Alike.refl _) (k.2.2.2.2 x hx)⟩
/-- one place of one cell is written -/
theorem HF.upd {ω : Wd} {sh : Shp} {pt pt' : Ptr} {z : Nat → Prop} {h h' : Hp} {U : State} {H H' : Heap} {a : Int} (k : HF ω sh pt z h U H) (ha : (sh a).1 < 500) (h20 : 20 ≤ a) (he : H'.size = H.size) (ho : ∀ q : Nat, q ≠ ω.1 a → H'[q]? = H[q]?)
    (hc : cellOK ω sh pt' h' U H' a) (hh : ∀ b : Int, b ≠ a → ∀ i, h' b i = h b i) (hp : ∀ b : Int, b ≠ a → ∀ i, pt' b i = pt b i) : HF ω sh pt' z h' U H' := by
  obtain ⟨k1, k2, k3, k4, k5, k6⟩ := k
  refine ⟨fun b hb => ?_, k2, k3, k4, by rw [he]; exact k5, k6.kept (fun q _ hq => ho q (fun e => hq (by rw [e]; exact k3 a ha h20)))⟩
  by_cases hba : b = a
  · subst hba; exact hc
  · obtain ⟨cell, c1, c2, c3, c4, c5⟩ := k1 b hb
    have hv : ∀ (kd : Nat) (i : Int), fV ω pt' h' kd b i = fV ω pt h kd b i := by
      intro kd i
      unfold fV
      simp only [hh b hba i, hp b hba i]
    have hw : ∀ (kd : Nat) (i : Int), fV ω pt' (rd h') kd b i = fV ω pt (rd h) kd b i := by
      intro kd i
      unfold fV rd
      simp only [hh b hba i, hp b hba i]
    refine ⟨cell, by rw [ho _ (fun e => hba (k2 a b ha hb h20 e.symm).symm)]; exact c1, c2, fun g => ?_, fun g => ?_, c5⟩
    · obtain ⟨g1, g2, q, g3, g4⟩ := c3 g
      exact ⟨g1, g2, q, g3, fun j hj => by rw [hv]; exact g4 j hj⟩
    · obtain ⟨g1, g2, g3, g4⟩ := c4 g
      exact ⟨g1, g2, g3, fun j hj => by rw [hw]; exact g4 j hj⟩
def up (h : Hp) (a i v : Int) : Hp := fun b j => if b = a ∧ j = i then v else h b j
theorem up_ne {h : Hp} {a i v b : Int} (hb : b ≠ a) (j : Int) : up h a i v b j = h b j := if_neg (fun e => hb e.1)
theorem up_at {h : Hp} {a i v : Int} : up h a i v a i = v := if_pos ⟨rfl, rfl⟩
theorem up_off {h : Hp} {a i v j : Int} (hj : j ≠ i) : up h a i v a j = h a j := if_neg (fun e => hj e.2)
/-! locals as a list of what is known at each place -/
def lvA : Nat → List (Option Value) → List (Nat × Value)
  | _, [] => []
  | i, none :: t => lvA (i + 1) t
  | i, some v :: t => (i, v) :: lvA (i + 1) t
theorem lvA_mem : ∀ (l : List (Option Value)) (n i : Nat) (v : Value), (i, v) ∈ lvA n l ↔ n ≤ i ∧ l[i - n]? = some (some v) := by
  intro l
  induction l with
  | nil => intro n i v; simp [lvA]
  | cons a t ih =>
    intro n i v
    have key : ∀ j, n ≤ j → j ≠ n → (a :: t)[j - n]? = t[j - (n + 1)]? := by
      intro j h1 h2
      have e : j - n = (j - (n + 1)) + 1 := by omega
      rw [e]; simp
    cases a with
    | none =>
      simp only [lvA, ih]
      constructor
      · rintro ⟨h1, h2⟩
        exact ⟨by omega, by rw [key i (by omega) (by omega)]; exact h2⟩
      · rintro ⟨h1, h2⟩
        by_cases e : i = n
        · subst e; simp at h2
        · exact ⟨by omega, by rw [← key i h1 e]; exact h2⟩
    | some w =>
      simp only [lvA, List.mem_cons, ih, Prod.mk.injEq]
      constructor
      · rintro (⟨rfl, rfl⟩ | ⟨h1, h2⟩)
        · simp
        · exact ⟨by omega, by rw [key i (by omega) (by omega)]; exact h2⟩
      · rintro ⟨h1, h2⟩
        by_cases e : i = n
        · subst e; simp at h2; exact Or.inl ⟨rfl, h2.symm⟩
        · exact Or.inr ⟨by omega, by rw [← key i h1 e]; exact h2⟩
def LV (ls : Array Slot) (nL : Nat) (lv : List (Option Value)) : Prop := lv_has ls nL (lvA 0 lv)
theorem LV.at {ls : Array Slot} {nL : Nat} {lv : List (Option Value)} (h : LV ls nL lv) {i : Nat} {v : Value} (hi : lv[i]? = some (some v)) : ls[i]? = some (.val v) :=
  h.2.2 (i, v) ((lvA_mem lv 0 i v).mpr ⟨Nat.zero_le _, by simpa using hi⟩)
/-- no long stands ahead of place i -/
def lnl (lv : List (Option Value)) (i : Nat) : Prop := ∀ (j : Nat) (w : Value), j + 1 = i → lv[j]? = some (some w) → w.category = 1
theorem lnl_0 {lv : List (Option Value)} : lnl lv 0 := fun j w h => absurd h (by omega)
theorem lnl_n {lv : List (Option Value)} {j : Nat} (h : lv[j]? = some none) : lnl lv (j + 1) := fun k w e g => by
  obtain rfl : k = j := by omega
  rw [h] at g; cases g
theorem lnl_v {lv : List (Option Value)} {j : Nat} {v : Value} (hv : v.category = 1) (h : lv[j]? = some (some v)) : lnl lv (j + 1) := fun k w e g => by
  obtain rfl : k = j := by omega
  rw [h] at g; cases g; exact hv
theorem LV.set1 {ls : Array Slot} {nL : Nat} {lv : List (Option Value)} {i : Nat} {v : Value} (hp : lnl lv i) (h : lv_has ls nL ((i, v) :: (lvA 0 lv).filter (fun q => !(q.1 == i) && !(q.1 + 1 == i && q.2.category == 2)))) : LV ls nL (lv.set i (some v)) := by
  refine ⟨h.1, h.2.1, fun q hq => h.2.2 q ?_⟩
  obtain ⟨j, w⟩ := q
  have hq := (lvA_mem _ 0 j w).mp hq
  have hj : (lv.set i (some v))[j]? = some (some w) := by simpa using hq.2
  by_cases e : j = i
  · subst e
    rw [List.getElem?_set] at hj
    simp at hj
    exact List.mem_cons.mpr (Or.inl (by rw [hj.2]))
  · rw [List.getElem?_set_ne (Ne.symm e)] at hj
    refine List.mem_cons.mpr (Or.inr (List.mem_filter.mpr ⟨(lvA_mem _ 0 j w).mpr ⟨Nat.zero_le _, by simpa using hj⟩, ?_⟩))
    by_cases e1 : j + 1 = i
    · have := hp j w e1 hj
      simp [e, this]
    · simp [e, e1]
theorem LV.set2 {ls : Array Slot} {nL : Nat} {lv : List (Option Value)} {i : Nat} {v : Value} (hp : lnl lv i) (h : lv_has ls nL ((i, v) :: (lvA 0 lv).filter (fun q => !(q.1 == i) && (!(q.1 == i + 1) && !(q.1 + 1 == i && q.2.category == 2))))) : LV ls nL ((lv.set i (some v)).set (i + 1) none) := by
  refine ⟨h.1, h.2.1, fun q hq => h.2.2 q ?_⟩
  obtain ⟨j, w⟩ := q
  have hq := (lvA_mem _ 0 j w).mp hq
  have hj : ((lv.set i (some v)).set (i + 1) none)[j]? = some (some w) := by simpa using hq.2
  by_cases e0 : j = i + 1
  · subst e0
    rw [List.getElem?_set] at hj
    simp at hj
  · rw [List.getElem?_set_ne (Ne.symm e0)] at hj
    by_cases e : j = i
    · subst e
      rw [List.getElem?_set] at hj
      simp at hj
      exact List.mem_cons.mpr (Or.inl (by rw [hj.2]))
    · rw [List.getElem?_set_ne (Ne.symm e)] at hj
      refine List.mem_cons.mpr (Or.inr (List.mem_filter.mpr ⟨(lvA_mem _ 0 j w).mpr ⟨Nat.zero_le _, by simpa using hj⟩, ?_⟩))
      by_cases e1 : j + 1 = i
      · have := hp j w e1 hj
        simp [e, e0, this]
      · simp [e, e0, e1]
/-- fewer known places -/
def lvle : List (Option Value) → List (Option Value) → Prop
  | [], _ => True
  | none :: a, _ :: b => lvle a b
  | none :: a, [] => lvle a []
  | some v :: a, some w :: b => v = w ∧ lvle a b
  | some _ :: _, _ => False
theorem lvle_get : ∀ (a b : List (Option Value)), lvle a b → ∀ (i : Nat) (v : Value), a[i]? = some (some v) → b[i]? = some (some v)
  | [], _, _, i, v, h => by simp at h
  | none :: a, w :: b, h, i, v, hi => by
    cases i with
    | zero => simp at hi
    | succ i => simpa using lvle_get a b h i v (by simpa using hi)
  | none :: a, [], h, i, v, hi => by
    cases i with
    | zero => simp at hi
    | succ i => have := lvle_get a [] h i v (by simpa using hi); simp at this
  | some x :: a, some w :: b, h, i, v, hi => by
    cases i with
    | zero => simp at hi; simp [← h.1, hi]
    | succ i => simpa using lvle_get a b h.2 i v (by simpa using hi)
theorem LV.le {ls : Array Slot} {nL : Nat} {a b : List (Option Value)} (h : LV ls nL b) (hab : lvle a b) : LV ls nL a := by
  refine ⟨h.1, h.2.1, fun q hq => ?_⟩
  obtain ⟨j, w⟩ := q
  have hq := (lvA_mem _ 0 j w).mp hq
  exact h.at (lvle_get a b hab j w (by simpa using hq.2))
theorem lvle_z {b : List (Option Value)} : lvle [] b := trivial
theorem lvle_n {a b : List (Option Value)} {x : Option Value} (h : lvle a b) : lvle (none :: a) (x :: b) := h
theorem lvle_s {a b : List (Option Value)} {v : Value} (h : lvle a b) : lvle (some v :: a) (some v :: b) := ⟨rfl, h⟩
/-! the words: all good ones of the tables -/
def WS : List Cond := lw_tbl.filter goodWord
theorem WS_of {w : Cond} (h : w ∈ lw_tbl) (g : goodWord w = true) : w ∈ WS := List.mem_filter.mpr ⟨h, g⟩
theorem WS_good {w : Cond} (h : w ∈ WS) : (w.onTables && w.keeps) = true ∨ ∃ ty, w = .arrayClass ty := good_of_word (List.mem_filter.mp h).2
theorem inWX (c : Nat) (q : vw_C) (hq : vwCl[c]? = some q) : ∀ w ∈ u_ws q.1 q.2.1 q.2.2, w ∈ WS := by
  have g : ∀ c, c < 11 → ∀ q, vwCl[c]? = some q → ((u_ws q.1 q.2.1 q.2.2).all goodWord) = true := by decide +kernel
  have hc : c < 11 := (List.getElem?_eq_some_iff.mp hq).1
  intro w hw
  refine WS_of ?_ (List.all_eq_true.mp (g c hc q hq) w hw)
  match c, hc, hq with
  | 0, _, hq => cases hq; exact inX0 w hw
  | 1, _, hq => cases hq; exact inX1 w hw
  | 2, _, hq => cases hq; exact inX2 w hw
  | 3, _, hq => cases hq; exact inX3 w hw
  | 4, _, hq => cases hq; exact inX4 w hw
  | 5, _, hq => cases hq; exact inX5 w hw
  | 6, _, hq => cases hq; exact inX6 w hw
  | 7, _, hq => cases hq; exact inX7 w hw
  | 8, _, hq => cases hq; exact inX8 w hw
  | 9, _, hq => cases hq; exact inX9 w hw
  | 10, _, hq => cases hq; exact inX10 w hw
theorem tyWX (c : Nat) (q : vw_C) (hq : vwCl[c]? = some q) : ∀ k, k < q.2.2 → parseFieldDescriptor (q.2.1 k).2.2.1 = some (tyf c k) := by
  have hc : c < 11 := (List.getElem?_eq_some_iff.mp hq).1
  match c, hc, hq with
  | 0, _, hq => cases hq; exact tyX0_ok
  | 1, _, hq => cases hq; exact tyX1_ok
  | 2, _, hq => cases hq; exact tyX2_ok
  | 3, _, hq => cases hq; exact tyX3_ok
  | 4, _, hq => cases hq; exact tyX4_ok
  | 5, _, hq => cases hq; exact tyX5_ok
  | 6, _, hq => cases hq; exact tyX6_ok
  | 7, _, hq => cases hq; exact tyX7_ok
  | 8, _, hq => cases hq; exact tyX8_ok
  | 9, _, hq => cases hq; exact tyX9_ok
  | 10, _, hq => cases hq; exact tyX10_ok
theorem nmWX (c : Nat) (q : vw_C) (hq : vwCl[c]? = some q) : ∀ a, a < q.2.2 → ∀ b, b < q.2.2 → a ≠ b → (q.2.1 a).2.1 ≠ (q.2.1 b).2.1 := by
  have hc : c < 11 := (List.getElem?_eq_some_iff.mp hq).1
  match c, hc, hq with
  | 0, _, hq => cases hq; exact nmX0
  | 1, _, hq => cases hq; exact nmX1
  | 2, _, hq => cases hq; exact nmX2
  | 3, _, hq => cases hq; exact nmX3
  | 4, _, hq => cases hq; exact nmX4
  | 5, _, hq => cases hq; exact nmX5
  | 6, _, hq => cases hq; exact nmX6
  | 7, _, hq => cases hq; exact nmX7
  | 8, _, hq => cases hq; exact nmX8
  | 9, _, hq => cases hq; exact nmX9
  | 10, _, hq => cases hq; exact nmX10
/-! the judgement -/
abbrev PQt : Type := List Frame → Array Value → State → State → Prop
/-- the one method that catches -/
def tblM (M : Mt) : List (Nat × Nat × Nat × Nat) := if M.1.name = "person" ∧ M.1.cls = "CompanyCourtLaw" then [(0, 10, 13, 13)] else []
def Ctx (M : Mt) (p : Program) (s : State) (m : MethodId) (args : Array Value) (meth : Method) (c : Code) : Prop :=
  p.tables.exec = Jvm.exec ∧ c.code = M.2.1 ∧ meth.sig.returnType = M.2.2.2 ∧ c.maxLocals = M.2.2.1 ∧ s.vm.findClass M.1.cls = some m.cls ∧ (∀ w ∈ WS, w.before args s = true) ∧ meth.locks = false ∧ meth.name = M.1.name ∧ c.exceptionTable.toList = tableOf (tblM M)
def Hy (ω : Wd) (M : Mt) (d mc ms : Nat) (sh : Shp) (pt : Ptr) (z : Nat → Prop) (h : Hp) (lv : List (Option Value)) (p : Program) (l : Launch) (R : Room) (s : State) (m : MethodId) (args : Array Value) (meth : Method) (c : Code) (H : Heap) (locs : List Loc) (ls : Array Slot) : Prop :=
  Ctx M p s m args meth c ∧ (d ≤ R.frames ∧ 60 * d ≤ R.locals ∧ mc ≤ R.cells ∧ ms ≤ R.slots ∧ l.flags = flags0) ∧ VF ω s ∧ HF ω sh pt z h s H ∧ LV ls M.2.2.1 lv ∧ va_S (fr ω) s.heap H locs
def Ev (ω : Wd) (M : Mt) (d : Nat) (PQ : PQt) (mc ms cl sl : Nat) (sh : Shp) (pt : Ptr) (z : Nat → Prop) (h : Hp) (pc : Nat) (lv : List (Option Value)) (st : List Value) : Prop :=
  ∀ (p : Program) (l : Launch) (e : Env) (R : Room) (s : State) (m : MethodId) (args : Array Value) (below : List Frame) (meth : Method) (c : Code) (H : Heap) (locs : List Loc) (ls : Array Slot),
    Hy ω M d mc ms sh pt z h lv p l R s m args meth c H locs ls → W p l e R s m args below meth c H locs cl sl (PQ below args s) (F0 m pc ls st)
