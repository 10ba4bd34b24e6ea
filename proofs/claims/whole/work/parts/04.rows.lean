section EvRows
variable {ω : Wd} {M : Mt} {d mc ms cl sl : Nat} {PQ : PQt} {sh : Shp} {pt : Ptr} {z : Nat → Prop} {h : Hp} {pc : Nat} {lv : List (Option Value)} {st : List Value}
theorem iV_add (x y : Int) : Value.int (Int32.ofInt x + Int32.ofInt y) = iV (x + y) := by simp [iV]
theorem iV_sub (x y : Int) : Value.int (Int32.ofInt x - Int32.ofInt y) = iV (x - y) := by simp [iV]
theorem iV_mul (x y : Int) : Value.int (Int32.ofInt x * Int32.ofInt y) = iV (x * y) := by simp [iV]
theorem iV_neg (x : Int) : Value.int (-Int32.ofInt x) = iV (-x) := by simp [iV]
theorem lV_add (x y : Int) : Value.long (Int64.ofInt x + Int64.ofInt y) = lV (x + y) := by simp [lV]
theorem lV_sub (x y : Int) : Value.long (Int64.ofInt x - Int64.ofInt y) = lV (x - y) := by simp [lV]
theorem lV_mul (x y : Int) : Value.long (Int64.ofInt x * Int64.ofInt y) = lV (x * y) := by simp [lV]
theorem bm32 (x : Int) : Int.bmod x (2 ^ 32) = w32 x := by rw [← w32_toInt, Int32.toInt_ofInt]
theorem bm64 (x : Int) : Int.bmod x (2 ^ 64) = w64 x := by rw [← w64_toInt, Int64.toInt_ofInt]
theorem bm8 (x : Int) : Int.bmod x (2 ^ 8) = w8 x := by
  show Int.bmod x 256 = _
  unfold Int.bmod w8
  simp only
  split <;> omega
theorem ofI_div (x y : Int) : Int32.ofInt x / Int32.ofInt y = Int32.ofInt ((w32 x).tdiv (w32 y)) := by
  rw [← Int32.toInt_inj, Int32.toInt_div, w32_toInt, w32_toInt, w32_toInt, bm32]
theorem ofL_div (x y : Int) : Int64.ofInt x / Int64.ofInt y = Int64.ofInt ((w64 x).tdiv (w64 y)) := by
  rw [← Int64.toInt_inj, Int64.toInt_div, w64_toInt, w64_toInt, w64_toInt, bm64]
theorem iV_div (x y : Int) : Value.int (Int32.ofInt x / Int32.ofInt y) = iV ((w32 x).tdiv (w32 y)) := by rw [ofI_div]; rfl
theorem lV_div (x y : Int) : Value.long (Int64.ofInt x / Int64.ofInt y) = lV ((w64 x).tdiv (w64 y)) := by rw [ofL_div]; rfl
theorem iV_rem (x y : Int) : Value.int (Int32.ofInt x - Int32.ofInt x / Int32.ofInt y * Int32.ofInt y) = iV ((w32 x).tmod (w32 y)) := by
  rw [ofI_div, ← ofI_w32 x, ← ofI_w32 y, ← Int32.ofInt_mul, ← Int32.ofInt_sub]
  show iV _ = iV _
  congr 1
  rw [Int.tmod_def, Int.mul_comm]
theorem w64_w64 (x : Int) : w64 (w64 x) = w64 x := by unfold w64; omega
theorem lV_rem (x y : Int) : Value.long (Int64.ofInt x - Int64.ofInt x / Int64.ofInt y * Int64.ofInt y) = lV ((w64 x).tmod (w64 y)) := by
  rw [ofL_div, ← ofL_w64 x, ← ofL_w64 y, ← Int64.ofInt_mul, ← Int64.ofInt_sub]
  show lV _ = lV _
  congr 1
  rw [Int.tmod_def, Int.mul_comm]
theorem iV_i2l (x : Int) : Value.long (Int32.ofInt x).toInt64 = lV (w32 x) := by
  rw [← lV_toInt, Int32.toInt_toInt64, w32_toInt]
theorem lV_l2i (x : Int) : Value.int (Int64.ofInt x).toInt32 = iV x := by
  rw [← iV_toInt, Int64.toInt_toInt32, w64_toInt, bm32, show w32 (w64 x) = w32 x from by unfold w32 w64; omega, iV_w32]
theorem iV_i2b (x : Int) : Value.int (Int32.ofInt x).toInt8.toInt32 = iV (w8 x) := by
  rw [← iV_toInt, Int8.toInt_toInt32, Int32.toInt_toInt8, w32_toInt, bm8]
  congr 1
  unfold w8 w32
  omega
theorem iV_bit (x : Int) : Value.int (Int32.ofInt x &&& 1) = iV (x % 2) := by
  have e : (Int32.ofInt x &&& 1) = Int32.ofInt (x % 2) := by
    rw [← Int32.toBitVec_inj]
    simp only [Int32.toBitVec_and, Int32.toBitVec_ofInt]
    apply BitVec.eq_of_toNat_eq
    rw [BitVec.toNat_and]
    have h1 : (1 : Int32).toBitVec.toNat = 1 := by decide
    rw [h1, Nat.and_one_is_mod, BitVec.toNat_ofInt, BitVec.toNat_ofInt]
    omega
  rw [e]; rfl
def lcm (x y : Int) : Int := if w64 y < w64 x then 1 else if w64 x = w64 y then 0 else -1
theorem iV_lcm (x y : Int) : Value.int (lg_cmp (Int64.ofInt x) (Int64.ofInt y)) = iV (lcm x y) := by
  unfold lg_cmp lcm
  simp only [lv_ltI, lv_eqI]
  split
  · rfl
  · first | (split <;> rfl) | (split <;> first | rfl | (split <;> first | rfl | omega))
theorem iV_max (x y : Int) : Value.int (if Int32.ofInt x < Int32.ofInt y then Int32.ofInt y else Int32.ofInt x) = iV (if w32 x < w32 y then y else x) := by
  simp only [iv_lt]; split <;> rfl
theorem iV_min (x y : Int) : Value.int (if Int32.ofInt y < Int32.ofInt x then Int32.ofInt y else Int32.ofInt x) = iV (if w32 y < w32 x then y else x) := by
  simp only [iv_lt]; split <;> rfl
theorem lV_max (x y : Int) : Value.long (if Int64.ofInt y < Int64.ofInt x then Int64.ofInt x else Int64.ofInt y) = lV (if w64 y < w64 x then x else y) := by
  simp only [lv_ltI]; split <;> rfl
theorem lV_min (x y : Int) : Value.long (if Int64.ofInt y < Int64.ofInt x then Int64.ofInt y else Int64.ofInt x) = lV (if w64 y < w64 x then y else x) := by
  simp only [lv_ltI]; split <;> rfl
theorem iV_abs (x : Int) : Value.int (if 0 ≤ Int32.ofInt x then Int32.ofInt x else 0 - Int32.ofInt x) = iV (if 0 ≤ w32 x then x else -x) := by
  have h0 : (0 : Int32) = Int32.ofInt 0 := rfl
  have h1 : w32 0 = 0 := by decide
  simp only [h0, iv_le, ← Int32.ofInt_sub, Int.zero_sub, h1]
  split <;> rfl
theorem ev_iconst {n : Int} (hd : decode M.2.1 pc = .ok (.iconst n, 1)) (k : Ev ω M d PQ mc ms cl sl sh pt z h (pc + 1) lv (iV n :: st)) : Ev ω M d PQ mc ms cl sl sh pt z h pc lv st := by
  intro p l e R s m args below meth c H locs ls Y
  exact lv_iconst Y.1.1 Y.1.2.1 hd rfl (k p l e R s m args below meth c H locs ls Y)
theorem ev_bipush {n : Int} (hd : decode M.2.1 pc = .ok (.bipush n, 2)) (hv : (Int8.ofInt n).toInt32 = Int32.ofInt n) (k : Ev ω M d PQ mc ms cl sl sh pt z h (pc + 2) lv (iV n :: st)) : Ev ω M d PQ mc ms cl sl sh pt z h pc lv st := by
  intro p l e R s m args below meth c H locs ls Y
  exact lv_bipush Y.1.1 Y.1.2.1 hd hv (k p l e R s m args below meth c H locs ls Y)
theorem ev_sipush {n : Int} (hd : decode M.2.1 pc = .ok (.sipush n, 3)) (hv : (Int16.ofInt n).toInt32 = Int32.ofInt n) (k : Ev ω M d PQ mc ms cl sl sh pt z h (pc + 3) lv (iV n :: st)) : Ev ω M d PQ mc ms cl sl sh pt z h pc lv st := by
  intro p l e R s m args below meth c H locs ls Y
  exact lv_sipush Y.1.1 Y.1.2.1 hd hv (k p l e R s m args below meth c H locs ls Y)
theorem ev_lconst {n : Fin 2} {x : Int} (hd : decode M.2.1 pc = .ok (.lconst n, 1)) (hv : Int64.ofNat (n : Nat) = Int64.ofInt x) (k : Ev ω M d PQ mc ms cl sl sh pt z h (pc + 1) lv (lV x :: st)) : Ev ω M d PQ mc ms cl sl sh pt z h pc lv st := by
  intro p l e R s m args below meth c H locs ls Y
  exact lv_lconst Y.1.1 Y.1.2.1 hd hv (k p l e R s m args below meth c H locs ls Y)
theorem ev_iload_n {k9 : Fin 4} {i : Nat} {x : Int} (hd : decode M.2.1 pc = .ok (.iload_n k9, 1)) (hi : (k9 : Nat) = i) (hl : lv[i]? = some (some (iV x))) (k : Ev ω M d PQ mc ms cl sl sh pt z h (pc + 1) lv (iV x :: st)) : Ev ω M d PQ mc ms cl sl sh pt z h pc lv st := by
  intro p l e R s m args below meth c H locs ls Y
  exact lv_iload_n Y.1.1 Y.1.2.1 hd hi (Y.2.2.2.2.1.at hl) (k p l e R s m args below meth c H locs ls Y)
theorem ev_iload {i : Nat} {x : Int} (hd : decode M.2.1 pc = .ok (.iload i, 2)) (hl : lv[i]? = some (some (iV x))) (k : Ev ω M d PQ mc ms cl sl sh pt z h (pc + 2) lv (iV x :: st)) : Ev ω M d PQ mc ms cl sl sh pt z h pc lv st := by
  intro p l e R s m args below meth c H locs ls Y
  exact lv_iload Y.1.1 Y.1.2.1 hd (Y.2.2.2.2.1.at hl) (k p l e R s m args below meth c H locs ls Y)
theorem ev_lload_n {k9 : Fin 4} {i : Nat} {x : Int} (hd : decode M.2.1 pc = .ok (.lload_n k9, 1)) (hi : (k9 : Nat) = i) (hl : lv[i]? = some (some (lV x))) (k : Ev ω M d PQ mc ms cl sl sh pt z h (pc + 1) lv (lV x :: st)) : Ev ω M d PQ mc ms cl sl sh pt z h pc lv st := by
  intro p l e R s m args below meth c H locs ls Y
  exact lv_lload_n Y.1.1 Y.1.2.1 hd hi (Y.2.2.2.2.1.at hl) (k p l e R s m args below meth c H locs ls Y)
theorem ev_lload {i : Nat} {x : Int} (hd : decode M.2.1 pc = .ok (.lload i, 2)) (hl : lv[i]? = some (some (lV x))) (k : Ev ω M d PQ mc ms cl sl sh pt z h (pc + 2) lv (lV x :: st)) : Ev ω M d PQ mc ms cl sl sh pt z h pc lv st := by
  intro p l e R s m args below meth c H locs ls Y
  exact lv_lload Y.1.1 Y.1.2.1 hd (Y.2.2.2.2.1.at hl) (k p l e R s m args below meth c H locs ls Y)
def isA (v : Value) : Prop := v = .null ∨ ∃ a, v = .ref a
theorem isA_aV (ω : Wd) (a : Int) : isA (aV ω a) := by
  unfold aV
  split
  · exact Or.inl rfl
  · exact Or.inr ⟨_, rfl⟩
theorem isA.cat {v : Value} (h : isA v) : v.category = 1 := by rcases h with rfl | ⟨a, rfl⟩ <;> rfl
theorem cat_aV (ω : Wd) (a : Int) : (aV ω a).category = 1 := (isA_aV ω a).cat
theorem cat_iV (a : Int) : (iV a).category = 1 := rfl
theorem cat_lV (a : Int) : (lV a).category = 2 := rfl
theorem ev_aload_nG {k9 : Fin 4} {i : Nat} {v : Value} (hv : isA v) (hd : decode M.2.1 pc = .ok (.aload_n k9, 1)) (hi : (k9 : Nat) = i) (hl : lv[i]? = some (some v)) (k : Ev ω M d PQ mc ms cl sl sh pt z h (pc + 1) lv (v :: st)) : Ev ω M d PQ mc ms cl sl sh pt z h pc lv st := by
  intro p l e R s m args below meth c H locs ls Y
  rcases hv with rfl | ⟨a, rfl⟩
  · exact lv_aload_nN Y.1.1 Y.1.2.1 hd hi (Y.2.2.2.2.1.at hl) (k p l e R s m args below meth c H locs ls Y)
  · exact lv_aload_n Y.1.1 Y.1.2.1 hd hi (Y.2.2.2.2.1.at hl) (k p l e R s m args below meth c H locs ls Y)
theorem ev_aloadG {i : Nat} {v : Value} (hv : isA v) (hd : decode M.2.1 pc = .ok (.aload i, 2)) (hl : lv[i]? = some (some v)) (k : Ev ω M d PQ mc ms cl sl sh pt z h (pc + 2) lv (v :: st)) : Ev ω M d PQ mc ms cl sl sh pt z h pc lv st := by
  intro p l e R s m args below meth c H locs ls Y
  rcases hv with rfl | ⟨a, rfl⟩
  · exact lv_aloadN Y.1.1 Y.1.2.1 hd (Y.2.2.2.2.1.at hl) (k p l e R s m args below meth c H locs ls Y)
  · exact lv_aload Y.1.1 Y.1.2.1 hd (Y.2.2.2.2.1.at hl) (k p l e R s m args below meth c H locs ls Y)
theorem ev_aload_n {k9 : Fin 4} {i : Nat} {x : Int} (hd : decode M.2.1 pc = .ok (.aload_n k9, 1)) (hi : (k9 : Nat) = i) (hl : lv[i]? = some (some (aV ω x))) (k : Ev ω M d PQ mc ms cl sl sh pt z h (pc + 1) lv (aV ω x :: st)) : Ev ω M d PQ mc ms cl sl sh pt z h pc lv st := ev_aload_nG (isA_aV ω x) hd hi hl k
theorem ev_aload {i : Nat} {x : Int} (hd : decode M.2.1 pc = .ok (.aload i, 2)) (hl : lv[i]? = some (some (aV ω x))) (k : Ev ω M d PQ mc ms cl sl sh pt z h (pc + 2) lv (aV ω x :: st)) : Ev ω M d PQ mc ms cl sl sh pt z h pc lv st := ev_aloadG (isA_aV ω x) hd hl k
theorem ev_istore_n {k9 : Fin 4} {i : Nat} {x : Int} (hd : decode M.2.1 pc = .ok (.istore_n k9, 1)) (hi : (k9 : Nat) = i) (hp : lnl lv i) (hn : i < M.2.2.1) (k : Ev ω M d PQ mc ms cl sl sh pt z h (pc + 1) (lv.set i (some (iV x))) st) : Ev ω M d PQ mc ms cl sl sh pt z h pc lv (iV x :: st) := by
  intro p l e R s m args below meth c H locs ls Y
  exact lv_istore_n Y.1.1 Y.1.2.1 hd hi Y.2.2.2.2.1 hn rfl (fun ls' hl => k p l e R s m args below meth c H locs ls' ⟨Y.1, Y.2.1, Y.2.2.1, Y.2.2.2.1, LV.set1 hp hl, Y.2.2.2.2.2⟩)
theorem ev_istore {i : Nat} {x : Int} (hd : decode M.2.1 pc = .ok (.istore i, 2)) (hp : lnl lv i) (hn : i < M.2.2.1) (k : Ev ω M d PQ mc ms cl sl sh pt z h (pc + 2) (lv.set i (some (iV x))) st) : Ev ω M d PQ mc ms cl sl sh pt z h pc lv (iV x :: st) := by
  intro p l e R s m args below meth c H locs ls Y
  exact lv_istore Y.1.1 Y.1.2.1 hd Y.2.2.2.2.1 hn rfl (fun ls' hl => k p l e R s m args below meth c H locs ls' ⟨Y.1, Y.2.1, Y.2.2.1, Y.2.2.2.1, LV.set1 hp hl, Y.2.2.2.2.2⟩)
theorem ev_lstore_n {k9 : Fin 4} {i : Nat} {x : Int} (hd : decode M.2.1 pc = .ok (.lstore_n k9, 1)) (hi : (k9 : Nat) = i) (hp : lnl lv i) (hn : i + 1 < M.2.2.1) (k : Ev ω M d PQ mc ms cl sl sh pt z h (pc + 1) ((lv.set i (some (lV x))).set (i + 1) none) st) : Ev ω M d PQ mc ms cl sl sh pt z h pc lv (lV x :: st) := by
  intro p l e R s m args below meth c H locs ls Y
  exact lv_lstore_n Y.1.1 Y.1.2.1 hd hi Y.2.2.2.2.1 hn rfl (fun ls' hl => k p l e R s m args below meth c H locs ls' ⟨Y.1, Y.2.1, Y.2.2.1, Y.2.2.2.1, LV.set2 hp hl, Y.2.2.2.2.2⟩)
theorem ev_lstore {i : Nat} {x : Int} (hd : decode M.2.1 pc = .ok (.lstore i, 2)) (hp : lnl lv i) (hn : i + 1 < M.2.2.1) (k : Ev ω M d PQ mc ms cl sl sh pt z h (pc + 2) ((lv.set i (some (lV x))).set (i + 1) none) st) : Ev ω M d PQ mc ms cl sl sh pt z h pc lv (lV x :: st) := by
  intro p l e R s m args below meth c H locs ls Y
  exact lv_lstore Y.1.1 Y.1.2.1 hd Y.2.2.2.2.1 hn rfl (fun ls' hl => k p l e R s m args below meth c H locs ls' ⟨Y.1, Y.2.1, Y.2.2.1, Y.2.2.2.1, LV.set2 hp hl, Y.2.2.2.2.2⟩)
theorem ev_astore_n {k9 : Fin 4} {i : Nat} {v : Value} (hv : isA v) (hd : decode M.2.1 pc = .ok (.astore_n k9, 1)) (hi : (k9 : Nat) = i) (hp : lnl lv i) (hn : i < M.2.2.1) (k : Ev ω M d PQ mc ms cl sl sh pt z h (pc + 1) (lv.set i (some v)) st) : Ev ω M d PQ mc ms cl sl sh pt z h pc lv (v :: st) := by
  intro p l e R s m args below meth c H locs ls Y
  rcases hv with rfl | ⟨a, rfl⟩
  · exact lv_astore_nN Y.1.1 Y.1.2.1 hd hi Y.2.2.2.2.1 hn rfl (fun ls' hl => k p l e R s m args below meth c H locs ls' ⟨Y.1, Y.2.1, Y.2.2.1, Y.2.2.2.1, LV.set1 hp hl, Y.2.2.2.2.2⟩)
  · exact lv_astore_n Y.1.1 Y.1.2.1 hd hi Y.2.2.2.2.1 hn rfl (fun ls' hl => k p l e R s m args below meth c H locs ls' ⟨Y.1, Y.2.1, Y.2.2.1, Y.2.2.2.1, LV.set1 hp hl, Y.2.2.2.2.2⟩)
theorem ev_astore {i : Nat} {v : Value} (hv : isA v) (hd : decode M.2.1 pc = .ok (.astore i, 2)) (hp : lnl lv i) (hn : i < M.2.2.1) (k : Ev ω M d PQ mc ms cl sl sh pt z h (pc + 2) (lv.set i (some v)) st) : Ev ω M d PQ mc ms cl sl sh pt z h pc lv (v :: st) := by
  intro p l e R s m args below meth c H locs ls Y
  rcases hv with rfl | ⟨a, rfl⟩
  · exact lv_astoreN Y.1.1 Y.1.2.1 hd Y.2.2.2.2.1 hn rfl (fun ls' hl => k p l e R s m args below meth c H locs ls' ⟨Y.1, Y.2.1, Y.2.2.1, Y.2.2.2.1, LV.set1 hp hl, Y.2.2.2.2.2⟩)
  · exact lv_astore Y.1.1 Y.1.2.1 hd Y.2.2.2.2.1 hn rfl (fun ls' hl => k p l e R s m args below meth c H locs ls' ⟨Y.1, Y.2.1, Y.2.2.1, Y.2.2.2.1, LV.set1 hp hl, Y.2.2.2.2.2⟩)
theorem lvA_place {lv : List (Option Value)} {i : Nat} {v : Value} (hl : lv[i]? = some (some v)) : ∃ k : Nat, (lvA 0 lv)[k]? = some (i, v) := List.getElem?_of_mem ((lvA_mem lv 0 i v).mpr ⟨Nat.zero_le _, by simpa using hl⟩)
theorem ev_iinc {i : Nat} {n x : Int} (hd : decode M.2.1 pc = .ok (.iinc i n, 3)) (hl : lv[i]? = some (some (iV x))) (hp : lnl lv i) (hn : i < M.2.2.1) (k : Ev ω M d PQ mc ms cl sl sh pt z h (pc + 3) (lv.set i (some (iV (x + n)))) st) : Ev ω M d PQ mc ms cl sl sh pt z h pc lv st := by
  intro p l e R s m args below meth c H locs ls Y
  obtain ⟨j, hj⟩ := lvA_place hl
  exact lv_iinc (v := Int32.ofInt (x + n)) Y.1.1 Y.1.2.1 hd Y.2.2.2.2.1 hj (by simp) hn rfl (fun ls' hl => k p l e R s m args below meth c H locs ls' ⟨Y.1, Y.2.1, Y.2.2.1, Y.2.2.2.1, LV.set1 hp hl, Y.2.2.2.2.2⟩)
theorem ev_iadd {x y : Int} (hd : decode M.2.1 pc = .ok (.iadd, 1)) (k : Ev ω M d PQ mc ms cl sl sh pt z h (pc + 1) lv (iV (x + y) :: st)) : Ev ω M d PQ mc ms cl sl sh pt z h pc lv (iV y :: iV x :: st) := by
  intro p l e R s m args below meth c H locs ls Y
  refine lv_iadd Y.1.1 Y.1.2.1 hd ?_
  rw [iV_add]
  exact k p l e R s m args below meth c H locs ls Y
theorem ev_isub {x y : Int} (hd : decode M.2.1 pc = .ok (.isub, 1)) (k : Ev ω M d PQ mc ms cl sl sh pt z h (pc + 1) lv (iV (x - y) :: st)) : Ev ω M d PQ mc ms cl sl sh pt z h pc lv (iV y :: iV x :: st) := by
  intro p l e R s m args below meth c H locs ls Y
  refine lv_isub Y.1.1 Y.1.2.1 hd ?_
  rw [iV_sub]
  exact k p l e R s m args below meth c H locs ls Y
theorem ev_imul {x y : Int} (hd : decode M.2.1 pc = .ok (.imul, 1)) (k : Ev ω M d PQ mc ms cl sl sh pt z h (pc + 1) lv (iV (x * y) :: st)) : Ev ω M d PQ mc ms cl sl sh pt z h pc lv (iV y :: iV x :: st) := by
  intro p l e R s m args below meth c H locs ls Y
  refine lv_imul Y.1.1 Y.1.2.1 hd ?_
  rw [iV_mul]
  exact k p l e R s m args below meth c H locs ls Y
theorem ev_iand {x y : Int} (hd : decode M.2.1 pc = .ok (.iand, 1)) (k : Ev ω M d PQ mc ms cl sl sh pt z h (pc + 1) lv (iV (iand x y) :: st)) : Ev ω M d PQ mc ms cl sl sh pt z h pc lv (iV y :: iV x :: st) := by
  intro p l e R s m args below meth c H locs ls Y
  refine lv_iand Y.1.1 Y.1.2.1 hd ?_
  rw [← iV_toInt]
  exact k p l e R s m args below meth c H locs ls Y
theorem ev_ior {x y : Int} (hd : decode M.2.1 pc = .ok (.ior, 1)) (k : Ev ω M d PQ mc ms cl sl sh pt z h (pc + 1) lv (iV (ior x y) :: st)) : Ev ω M d PQ mc ms cl sl sh pt z h pc lv (iV y :: iV x :: st) := by
  intro p l e R s m args below meth c H locs ls Y
  refine lv_ior Y.1.1 Y.1.2.1 hd ?_
  rw [← iV_toInt]
  exact k p l e R s m args below meth c H locs ls Y
theorem ev_ixor {x y : Int} (hd : decode M.2.1 pc = .ok (.ixor, 1)) (k : Ev ω M d PQ mc ms cl sl sh pt z h (pc + 1) lv (iV (ixor x y) :: st)) : Ev ω M d PQ mc ms cl sl sh pt z h pc lv (iV y :: iV x :: st) := by
  intro p l e R s m args below meth c H locs ls Y
  refine lv_ixor Y.1.1 Y.1.2.1 hd ?_
  rw [← iV_toInt]
  exact k p l e R s m args below meth c H locs ls Y
theorem ev_ishl {x y : Int} (hd : decode M.2.1 pc = .ok (.ishl, 1)) (k : Ev ω M d PQ mc ms cl sl sh pt z h (pc + 1) lv (iV (ishl x y) :: st)) : Ev ω M d PQ mc ms cl sl sh pt z h pc lv (iV y :: iV x :: st) := by
  intro p l e R s m args below meth c H locs ls Y
  refine lv_ishl Y.1.1 Y.1.2.1 hd ?_
  rw [← iV_toInt]
  exact k p l e R s m args below meth c H locs ls Y
theorem ev_ishr {x y : Int} (hd : decode M.2.1 pc = .ok (.ishr, 1)) (k : Ev ω M d PQ mc ms cl sl sh pt z h (pc + 1) lv (iV (ishr x y) :: st)) : Ev ω M d PQ mc ms cl sl sh pt z h pc lv (iV y :: iV x :: st) := by
  intro p l e R s m args below meth c H locs ls Y
  refine lv_ishr Y.1.1 Y.1.2.1 hd ?_
  rw [← iV_toInt]
  exact k p l e R s m args below meth c H locs ls Y
theorem ev_iushr {x y : Int} (hd : decode M.2.1 pc = .ok (.iushr, 1)) (k : Ev ω M d PQ mc ms cl sl sh pt z h (pc + 1) lv (iV (iushr x y) :: st)) : Ev ω M d PQ mc ms cl sl sh pt z h pc lv (iV y :: iV x :: st) := by
  intro p l e R s m args below meth c H locs ls Y
  refine lv_iushr Y.1.1 Y.1.2.1 hd rfl ?_
  rw [← iV_toInt]
  exact k p l e R s m args below meth c H locs ls Y
theorem ev_ineg {x : Int} (hd : decode M.2.1 pc = .ok (.ineg, 1)) (k : Ev ω M d PQ mc ms cl sl sh pt z h (pc + 1) lv (iV (-x) :: st)) : Ev ω M d PQ mc ms cl sl sh pt z h pc lv (iV x :: st) := by
  intro p l e R s m args below meth c H locs ls Y
  refine lv_ineg Y.1.1 Y.1.2.1 hd ?_
  rw [iV_neg]
  exact k p l e R s m args below meth c H locs ls Y
theorem ev_ladd {x y : Int} (hd : decode M.2.1 pc = .ok (.ladd, 1)) (k : Ev ω M d PQ mc ms cl sl sh pt z h (pc + 1) lv (lV (x + y) :: st)) : Ev ω M d PQ mc ms cl sl sh pt z h pc lv (lV y :: lV x :: st) := by
  intro p l e R s m args below meth c H locs ls Y
  refine lv_ladd Y.1.1 Y.1.2.1 hd ?_
  rw [lV_add]
  exact k p l e R s m args below meth c H locs ls Y
theorem ev_lsub {x y : Int} (hd : decode M.2.1 pc = .ok (.lsub, 1)) (k : Ev ω M d PQ mc ms cl sl sh pt z h (pc + 1) lv (lV (x - y) :: st)) : Ev ω M d PQ mc ms cl sl sh pt z h pc lv (lV y :: lV x :: st) := by
  intro p l e R s m args below meth c H locs ls Y
  refine lv_lsub Y.1.1 Y.1.2.1 hd ?_
  rw [lV_sub]
  exact k p l e R s m args below meth c H locs ls Y
theorem ev_lmul {x y : Int} (hd : decode M.2.1 pc = .ok (.lmul, 1)) (k : Ev ω M d PQ mc ms cl sl sh pt z h (pc + 1) lv (lV (x * y) :: st)) : Ev ω M d PQ mc ms cl sl sh pt z h pc lv (lV y :: lV x :: st) := by
  intro p l e R s m args below meth c H locs ls Y
  refine lv_lmul Y.1.1 Y.1.2.1 hd ?_
  rw [lV_mul]
  exact k p l e R s m args below meth c H locs ls Y
theorem ev_land {x y : Int} (hd : decode M.2.1 pc = .ok (.land, 1)) (k : Ev ω M d PQ mc ms cl sl sh pt z h (pc + 1) lv (lV (land x y) :: st)) : Ev ω M d PQ mc ms cl sl sh pt z h pc lv (lV y :: lV x :: st) := by
  intro p l e R s m args below meth c H locs ls Y
  refine lv_land Y.1.1 Y.1.2.1 hd ?_
  rw [← lV_toInt]
  exact k p l e R s m args below meth c H locs ls Y
theorem ev_lor {x y : Int} (hd : decode M.2.1 pc = .ok (.lor, 1)) (k : Ev ω M d PQ mc ms cl sl sh pt z h (pc + 1) lv (lV (lor x y) :: st)) : Ev ω M d PQ mc ms cl sl sh pt z h pc lv (lV y :: lV x :: st) := by
  intro p l e R s m args below meth c H locs ls Y
  refine lv_lor Y.1.1 Y.1.2.1 hd ?_
  rw [← lV_toInt]
  exact k p l e R s m args below meth c H locs ls Y
theorem ev_lxor {x y : Int} (hd : decode M.2.1 pc = .ok (.lxor, 1)) (k : Ev ω M d PQ mc ms cl sl sh pt z h (pc + 1) lv (lV (lxor x y) :: st)) : Ev ω M d PQ mc ms cl sl sh pt z h pc lv (lV y :: lV x :: st) := by
  intro p l e R s m args below meth c H locs ls Y
  refine lv_lxor Y.1.1 Y.1.2.1 hd ?_
  rw [← lV_toInt]
  exact k p l e R s m args below meth c H locs ls Y
theorem ev_lushr {x y : Int} (hd : decode M.2.1 pc = .ok (.lushr, 1)) (k : Ev ω M d PQ mc ms cl sl sh pt z h (pc + 1) lv (lV (lushr x y) :: st)) : Ev ω M d PQ mc ms cl sl sh pt z h pc lv (iV y :: lV x :: st) := by
  intro p l e R s m args below meth c H locs ls Y
  refine lv_lushr Y.1.1 Y.1.2.1 hd rfl ?_
  rw [← lV_toInt]
  exact k p l e R s m args below meth c H locs ls Y
theorem ev_lshl {x y : Int} (hd : decode M.2.1 pc = .ok (.lshl, 1)) (k : Ev ω M d PQ mc ms cl sl sh pt z h (pc + 1) lv (lV (Int64.ofInt x <<< ((Int32.ofInt y).toInt64 &&& 63)).toInt :: st)) : Ev ω M d PQ mc ms cl sl sh pt z h pc lv (iV y :: lV x :: st) := by
  intro p l e R s m args below meth c H locs ls Y
  refine lv_lshl Y.1.1 Y.1.2.1 hd rfl ?_
  rw [← lV_toInt]
  exact k p l e R s m args below meth c H locs ls Y
theorem ev_lcmp {x y : Int} (hd : decode M.2.1 pc = .ok (.lcmp, 1)) (k : Ev ω M d PQ mc ms cl sl sh pt z h (pc + 1) lv (iV (lcm x y) :: st)) : Ev ω M d PQ mc ms cl sl sh pt z h pc lv (lV y :: lV x :: st) := by
  intro p l e R s m args below meth c H locs ls Y
  refine W.lcmp Y.1.1 Y.1.2.1 hd ?_
  rw [iV_lcm]
  exact k p l e R s m args below meth c H locs ls Y
theorem ev_i2l {x : Int} (hd : decode M.2.1 pc = .ok (.i2l, 1)) (k : Ev ω M d PQ mc ms cl sl sh pt z h (pc + 1) lv (lV (w32 x) :: st)) : Ev ω M d PQ mc ms cl sl sh pt z h pc lv (iV x :: st) := by
  intro p l e R s m args below meth c H locs ls Y
  refine lv_i2l Y.1.1 Y.1.2.1 hd rfl ?_
  rw [iV_i2l]
  exact k p l e R s m args below meth c H locs ls Y
theorem ev_l2i {x : Int} (hd : decode M.2.1 pc = .ok (.l2i, 1)) (k : Ev ω M d PQ mc ms cl sl sh pt z h (pc + 1) lv (iV x :: st)) : Ev ω M d PQ mc ms cl sl sh pt z h pc lv (lV x :: st) := by
  intro p l e R s m args below meth c H locs ls Y
  refine lv_l2i Y.1.1 Y.1.2.1 hd rfl ?_
  rw [lV_l2i]
  exact k p l e R s m args below meth c H locs ls Y
theorem ev_i2b {x : Int} (hd : decode M.2.1 pc = .ok (.i2b, 1)) (k : Ev ω M d PQ mc ms cl sl sh pt z h (pc + 1) lv (iV (w8 x) :: st)) : Ev ω M d PQ mc ms cl sl sh pt z h pc lv (iV x :: st) := by
  intro p l e R s m args below meth c H locs ls Y
  refine lv_i2b Y.1.1 Y.1.2.1 hd rfl ?_
  rw [iV_i2b]
  exact k p l e R s m args below meth c H locs ls Y
variable {α : Type} {A B o : Option α}
def cD (y : Int) (A : Option α) : Option α := if w32 y = 0 then none else A
def cDl (y : Int) (A : Option α) : Option α := if w64 y = 0 then none else A
theorem ev_idiv {x y : Int} {o : α} (hd : decode M.2.1 pc = .ok (.idiv, 1)) (hL : cD y A = some o) (k : A = some o → Ev ω M d PQ mc ms cl sl sh pt z h (pc + 1) lv (iV ((w32 x).tdiv (w32 y)) :: st)) : Ev ω M d PQ mc ms cl sl sh pt z h pc lv (iV y :: iV x :: st) := by
  have hy : ¬ w32 y = 0 := fun e => by unfold cD at hL; rw [if_pos e] at hL; cases hL
  unfold cD at hL
  rw [if_neg hy] at hL
  have k := k hL
  intro p l e R s m args below meth c H locs ls Y
  refine lv_idiv Y.1.1 Y.1.2.1 hd (fun e => hy ?_) ?_
  · have e : Int32.ofInt y = Int32.ofInt 0 := e
    rw [iv_eq] at e
    rw [e]; decide
  · rw [iV_div]
    exact k p l e R s m args below meth c H locs ls Y
theorem ev_irem {x y : Int} {o : α} (hd : decode M.2.1 pc = .ok (.irem, 1)) (hL : cD y A = some o) (k : A = some o → Ev ω M d PQ mc ms cl sl sh pt z h (pc + 1) lv (iV ((w32 x).tmod (w32 y)) :: st)) : Ev ω M d PQ mc ms cl sl sh pt z h pc lv (iV y :: iV x :: st) := by
  have hy : ¬ w32 y = 0 := fun e => by unfold cD at hL; rw [if_pos e] at hL; cases hL
  unfold cD at hL
  rw [if_neg hy] at hL
  have k := k hL
  intro p l e R s m args below meth c H locs ls Y
  refine lv_irem Y.1.1 Y.1.2.1 hd (fun e => hy ?_) ?_
  · have e : Int32.ofInt y = Int32.ofInt 0 := e
    rw [iv_eq] at e
    rw [e]; decide
  · rw [iV_rem]
    exact k p l e R s m args below meth c H locs ls Y
theorem ev_ldiv {x y : Int} {o : α} (hd : decode M.2.1 pc = .ok (.ldiv, 1)) (hL : cDl y A = some o) (k : A = some o → Ev ω M d PQ mc ms cl sl sh pt z h (pc + 1) lv (lV ((w64 x).tdiv (w64 y)) :: st)) : Ev ω M d PQ mc ms cl sl sh pt z h pc lv (lV y :: lV x :: st) := by
  have hy : ¬ w64 y = 0 := fun e => by unfold cDl at hL; rw [if_pos e] at hL; cases hL
  unfold cDl at hL
  rw [if_neg hy] at hL
  have k := k hL
  intro p l e R s m args below meth c H locs ls Y
  refine lv_ldiv Y.1.1 Y.1.2.1 hd (fun e => hy ?_) ?_
  · have e : Int64.ofInt y = Int64.ofInt 0 := e
    rw [lv_eqI] at e
    rw [e]; decide
  · rw [lV_div]
    exact k p l e R s m args below meth c H locs ls Y
theorem ev_lrem {x y : Int} {o : α} (hd : decode M.2.1 pc = .ok (.lrem, 1)) (hL : cDl y A = some o) (k : A = some o → Ev ω M d PQ mc ms cl sl sh pt z h (pc + 1) lv (lV ((w64 x).tmod (w64 y)) :: st)) : Ev ω M d PQ mc ms cl sl sh pt z h pc lv (lV y :: lV x :: st) := by
  have hy : ¬ w64 y = 0 := fun e => by unfold cDl at hL; rw [if_pos e] at hL; cases hL
  unfold cDl at hL
  rw [if_neg hy] at hL
  have k := k hL
  intro p l e R s m args below meth c H locs ls Y
  refine lv_lrem Y.1.1 Y.1.2.1 hd (fun e => hy ?_) ?_
  · have e : Int64.ofInt y = Int64.ofInt 0 := e
    rw [lv_eqI] at e
    rw [e]; decide
  · rw [lV_rem]
    exact k p l e R s m args below meth c H locs ls Y
theorem ev_dup {v : Value} (hd : decode M.2.1 pc = .ok (.dup, 1)) (hv : v.category = 1) (k : Ev ω M d PQ mc ms cl sl sh pt z h (pc + 1) lv (v :: v :: st)) : Ev ω M d PQ mc ms cl sl sh pt z h pc lv (v :: st) := by
  intro p l e R s m args below meth c H locs ls Y
  exact lv_dup Y.1.1 Y.1.2.1 hd hv (k p l e R s m args below meth c H locs ls Y)
theorem ev_pop {v : Value} (hd : decode M.2.1 pc = .ok (.pop, 1)) (hv : v.category = 1) (k : Ev ω M d PQ mc ms cl sl sh pt z h (pc + 1) lv st) : Ev ω M d PQ mc ms cl sl sh pt z h pc lv (v :: st) := by
  intro p l e R s m args below meth c H locs ls Y
  exact lv_pop Y.1.1 Y.1.2.1 hd hv (k p l e R s m args below meth c H locs ls Y)
theorem ev_dup_x1 {v w : Value} (hd : decode M.2.1 pc = .ok (.dup_x1, 1)) (hv : v.category = 1) (hw : w.category = 1) (k : Ev ω M d PQ mc ms cl sl sh pt z h (pc + 1) lv (v :: w :: v :: st)) : Ev ω M d PQ mc ms cl sl sh pt z h pc lv (v :: w :: st) := by
  intro p l e R s m args below meth c H locs ls Y
  exact lv_dup_x1 Y.1.1 Y.1.2.1 hd hv hw (k p l e R s m args below meth c H locs ls Y)
theorem ev_dup2 {v w : Value} (hd : decode M.2.1 pc = .ok (.dup2, 1)) (hv : v.category = 1) (hw : w.category = 1) (k : Ev ω M d PQ mc ms cl sl sh pt z h (pc + 1) lv (v :: w :: v :: w :: st)) : Ev ω M d PQ mc ms cl sl sh pt z h pc lv (v :: w :: st) := by
  intro p l e R s m args below meth c H locs ls Y
  exact lv_dup2_11 Y.1.1 Y.1.2.1 hd hv hw (k p l e R s m args below meth c H locs ls Y)
theorem ev_goto {off : Int} {tgt : Nat} (hd : decode M.2.1 pc = .ok (.goto off, 3)) (ht : (pc : Int) + off = (tgt : Int)) (k : Ev ω M d PQ mc ms cl sl sh pt z h tgt lv st) : Ev ω M d PQ mc ms cl sl sh pt z h pc lv st := by
  intro p l e R s m args below meth c H locs ls Y
  exact lv_goto Y.1.1 Y.1.2.1 hd ht (k p l e R s m args below meth c H locs ls Y)
theorem ev_le {lw : List (Option Value)} (hw : lvle lw lv) (k : Ev ω M d PQ mc ms cl sl sh pt z h pc lw st) : Ev ω M d PQ mc ms cl sl sh pt z h pc lv st := by
  intro p l e R s m args below meth c H locs ls Y
  exact k p l e R s m args below meth c H locs ls ⟨Y.1, Y.2.1, Y.2.2.1, Y.2.2.2.1, Y.2.2.2.2.1.le hw, Y.2.2.2.2.2⟩
theorem ev_pc {pc2 : Nat} (hp : pc = pc2) (k : Ev ω M d PQ mc ms cl sl sh pt z h pc2 lv st) : Ev ω M d PQ mc ms cl sl sh pt z h pc lv st := hp ▸ k
theorem iv_0 : (0 : Int32) = Int32.ofInt 0 := rfl
theorem w32_0 : w32 0 = 0 := by decide
theorem ev_if_eq {x : Int} {off : Int} {tgt : Nat} {C : Option α} (hd : decode M.2.1 pc = .ok (.ifCond .eq off, 3)) (ht : (pc : Int) + off = (tgt : Int)) (hL : C = o) (hC : C = if w32 x = 0 then A else B) (kA : A = o → Ev ω M d PQ mc ms cl sl sh pt z h tgt lv st) (kB : B = o → Ev ω M d PQ mc ms cl sl sh pt z h (pc + 3) lv st) : Ev ω M d PQ mc ms cl sl sh pt z h pc lv (iV x :: st) := by
  rw [hC] at hL
  intro p l e R s m args below meth c H locs ls Y
  have hz : ∀ q : Prop, q → q := fun _ q => q
  refine lv_if_eq Y.1.1 Y.1.2.1 hd ht (fun g => ?_) (fun g => ?_)
  all_goals (
    by_cases hp : w32 x = 0
    · first
        | exact kA (by rw [if_pos hp] at hL; exact hL) p l e R s m args below meth c H locs ls Y
        | (exfalso; simp only [iv_0, iv_eq, iv_lt, iv_le, w32_0] at g; omega)
    · first
        | exact kB (by rw [if_neg hp] at hL; exact hL) p l e R s m args below meth c H locs ls Y
        | (exfalso; simp only [iv_0, iv_eq, iv_lt, iv_le, w32_0] at g; omega))
theorem ev_icmp_eq {x y : Int} {off : Int} {tgt : Nat} {C : Option α} (hd : decode M.2.1 pc = .ok (.if_icmp .eq off, 3)) (ht : (pc : Int) + off = (tgt : Int)) (hL : C = o) (hC : C = if w32 x = w32 y then A else B) (kA : A = o → Ev ω M d PQ mc ms cl sl sh pt z h tgt lv st) (kB : B = o → Ev ω M d PQ mc ms cl sl sh pt z h (pc + 3) lv st) : Ev ω M d PQ mc ms cl sl sh pt z h pc lv (iV y :: iV x :: st) := by
  rw [hC] at hL
  intro p l e R s m args below meth c H locs ls Y
  have hz : ∀ q : Prop, q → q := fun _ q => q
  refine lv_icmp_eq Y.1.1 Y.1.2.1 hd ht (fun g => ?_) (fun g => ?_)
  all_goals (
    by_cases hp : w32 x = w32 y
    · first
        | exact kA (by rw [if_pos hp] at hL; exact hL) p l e R s m args below meth c H locs ls Y
        | (exfalso; simp only [iv_0, iv_eq, iv_lt, iv_le, w32_0] at g; omega)
    · first
        | exact kB (by rw [if_neg hp] at hL; exact hL) p l e R s m args below meth c H locs ls Y
        | (exfalso; simp only [iv_0, iv_eq, iv_lt, iv_le, w32_0] at g; omega))
theorem ev_if_ne {x : Int} {off : Int} {tgt : Nat} {C : Option α} (hd : decode M.2.1 pc = .ok (.ifCond .ne off, 3)) (ht : (pc : Int) + off = (tgt : Int)) (hL : C = o) (hC : C = if w32 x = 0 then A else B) (kA : A = o → Ev ω M d PQ mc ms cl sl sh pt z h (pc + 3) lv st) (kB : B = o → Ev ω M d PQ mc ms cl sl sh pt z h tgt lv st) : Ev ω M d PQ mc ms cl sl sh pt z h pc lv (iV x :: st) := by
  rw [hC] at hL
  intro p l e R s m args below meth c H locs ls Y
  have hz : ∀ q : Prop, q → q := fun _ q => q
  refine lv_if_ne Y.1.1 Y.1.2.1 hd ht (fun g => ?_) (fun g => ?_)
  all_goals (
    by_cases hp : w32 x = 0
    · first
        | exact kA (by rw [if_pos hp] at hL; exact hL) p l e R s m args below meth c H locs ls Y
        | (exfalso; simp only [iv_0, iv_eq, iv_lt, iv_le, w32_0] at g; omega)
    · first
        | exact kB (by rw [if_neg hp] at hL; exact hL) p l e R s m args below meth c H locs ls Y
        | (exfalso; simp only [iv_0, iv_eq, iv_lt, iv_le, w32_0] at g; omega))
theorem ev_icmp_ne {x y : Int} {off : Int} {tgt : Nat} {C : Option α} (hd : decode M.2.1 pc = .ok (.if_icmp .ne off, 3)) (ht : (pc : Int) + off = (tgt : Int)) (hL : C = o) (hC : C = if w32 x = w32 y then A else B) (kA : A = o → Ev ω M d PQ mc ms cl sl sh pt z h (pc + 3) lv st) (kB : B = o → Ev ω M d PQ mc ms cl sl sh pt z h tgt lv st) : Ev ω M d PQ mc ms cl sl sh pt z h pc lv (iV y :: iV x :: st) := by
  rw [hC] at hL
  intro p l e R s m args below meth c H locs ls Y
  have hz : ∀ q : Prop, q → q := fun _ q => q
  refine lv_icmp_ne Y.1.1 Y.1.2.1 hd ht (fun g => ?_) (fun g => ?_)
  all_goals (
    by_cases hp : w32 x = w32 y
    · first
        | exact kA (by rw [if_pos hp] at hL; exact hL) p l e R s m args below meth c H locs ls Y
        | (exfalso; simp only [iv_0, iv_eq, iv_lt, iv_le, w32_0] at g; omega)
    · first
        | exact kB (by rw [if_neg hp] at hL; exact hL) p l e R s m args below meth c H locs ls Y
        | (exfalso; simp only [iv_0, iv_eq, iv_lt, iv_le, w32_0] at g; omega))
theorem ev_if_lt {x : Int} {off : Int} {tgt : Nat} {C : Option α} (hd : decode M.2.1 pc = .ok (.ifCond .lt off, 3)) (ht : (pc : Int) + off = (tgt : Int)) (hL : C = o) (hC : C = if w32 x < 0 then A else B) (kA : A = o → Ev ω M d PQ mc ms cl sl sh pt z h tgt lv st) (kB : B = o → Ev ω M d PQ mc ms cl sl sh pt z h (pc + 3) lv st) : Ev ω M d PQ mc ms cl sl sh pt z h pc lv (iV x :: st) := by
  rw [hC] at hL
  intro p l e R s m args below meth c H locs ls Y
  have hz : ∀ q : Prop, q → q := fun _ q => q
  refine lv_if_lt Y.1.1 Y.1.2.1 hd ht (fun g => ?_) (fun g => ?_)
  all_goals (
    by_cases hp : w32 x < 0
    · first
        | exact kA (by rw [if_pos hp] at hL; exact hL) p l e R s m args below meth c H locs ls Y
        | (exfalso; simp only [iv_0, iv_eq, iv_lt, iv_le, w32_0] at g; omega)
    · first
        | exact kB (by rw [if_neg hp] at hL; exact hL) p l e R s m args below meth c H locs ls Y
        | (exfalso; simp only [iv_0, iv_eq, iv_lt, iv_le, w32_0] at g; omega))
theorem ev_icmp_lt {x y : Int} {off : Int} {tgt : Nat} {C : Option α} (hd : decode M.2.1 pc = .ok (.if_icmp .lt off, 3)) (ht : (pc : Int) + off = (tgt : Int)) (hL : C = o) (hC : C = if w32 x < w32 y then A else B) (kA : A = o → Ev ω M d PQ mc ms cl sl sh pt z h tgt lv st) (kB : B = o → Ev ω M d PQ mc ms cl sl sh pt z h (pc + 3) lv st) : Ev ω M d PQ mc ms cl sl sh pt z h pc lv (iV y :: iV x :: st) := by
  rw [hC] at hL
  intro p l e R s m args below meth c H locs ls Y
  have hz : ∀ q : Prop, q → q := fun _ q => q
  refine lv_icmp_lt Y.1.1 Y.1.2.1 hd ht (fun g => ?_) (fun g => ?_)
  all_goals (
    by_cases hp : w32 x < w32 y
    · first
        | exact kA (by rw [if_pos hp] at hL; exact hL) p l e R s m args below meth c H locs ls Y
        | (exfalso; simp only [iv_0, iv_eq, iv_lt, iv_le, w32_0] at g; omega)
    · first
        | exact kB (by rw [if_neg hp] at hL; exact hL) p l e R s m args below meth c H locs ls Y
        | (exfalso; simp only [iv_0, iv_eq, iv_lt, iv_le, w32_0] at g; omega))
theorem ev_if_ge {x : Int} {off : Int} {tgt : Nat} {C : Option α} (hd : decode M.2.1 pc = .ok (.ifCond .ge off, 3)) (ht : (pc : Int) + off = (tgt : Int)) (hL : C = o) (hC : C = if w32 x < 0 then A else B) (kA : A = o → Ev ω M d PQ mc ms cl sl sh pt z h (pc + 3) lv st) (kB : B = o → Ev ω M d PQ mc ms cl sl sh pt z h tgt lv st) : Ev ω M d PQ mc ms cl sl sh pt z h pc lv (iV x :: st) := by
  rw [hC] at hL
  intro p l e R s m args below meth c H locs ls Y
  have hz : ∀ q : Prop, q → q := fun _ q => q
  refine lv_if_ge Y.1.1 Y.1.2.1 hd ht (fun g => ?_) (fun g => ?_)
  all_goals (
    by_cases hp : w32 x < 0
    · first
        | exact kA (by rw [if_pos hp] at hL; exact hL) p l e R s m args below meth c H locs ls Y
        | (exfalso; simp only [iv_0, iv_eq, iv_lt, iv_le, w32_0] at g; omega)
    · first
        | exact kB (by rw [if_neg hp] at hL; exact hL) p l e R s m args below meth c H locs ls Y
        | (exfalso; simp only [iv_0, iv_eq, iv_lt, iv_le, w32_0] at g; omega))
theorem ev_icmp_ge {x y : Int} {off : Int} {tgt : Nat} {C : Option α} (hd : decode M.2.1 pc = .ok (.if_icmp .ge off, 3)) (ht : (pc : Int) + off = (tgt : Int)) (hL : C = o) (hC : C = if w32 x < w32 y then A else B) (kA : A = o → Ev ω M d PQ mc ms cl sl sh pt z h (pc + 3) lv st) (kB : B = o → Ev ω M d PQ mc ms cl sl sh pt z h tgt lv st) : Ev ω M d PQ mc ms cl sl sh pt z h pc lv (iV y :: iV x :: st) := by
  rw [hC] at hL
  intro p l e R s m args below meth c H locs ls Y
  have hz : ∀ q : Prop, q → q := fun _ q => q
  refine lv_icmp_ge Y.1.1 Y.1.2.1 hd ht (fun g => ?_) (fun g => ?_)
  all_goals (
    by_cases hp : w32 x < w32 y
    · first
        | exact kA (by rw [if_pos hp] at hL; exact hL) p l e R s m args below meth c H locs ls Y
        | (exfalso; simp only [iv_0, iv_eq, iv_lt, iv_le, w32_0] at g; omega)
    · first
        | exact kB (by rw [if_neg hp] at hL; exact hL) p l e R s m args below meth c H locs ls Y
        | (exfalso; simp only [iv_0, iv_eq, iv_lt, iv_le, w32_0] at g; omega))
theorem ev_if_gt {x : Int} {off : Int} {tgt : Nat} {C : Option α} (hd : decode M.2.1 pc = .ok (.ifCond .gt off, 3)) (ht : (pc : Int) + off = (tgt : Int)) (hL : C = o) (hC : C = if 0 < w32 x then A else B) (kA : A = o → Ev ω M d PQ mc ms cl sl sh pt z h tgt lv st) (kB : B = o → Ev ω M d PQ mc ms cl sl sh pt z h (pc + 3) lv st) : Ev ω M d PQ mc ms cl sl sh pt z h pc lv (iV x :: st) := by
  rw [hC] at hL
  intro p l e R s m args below meth c H locs ls Y
  have hz : ∀ q : Prop, q → q := fun _ q => q
  refine lv_if_gt Y.1.1 Y.1.2.1 hd ht (fun g => ?_) (fun g => ?_)
  all_goals (
    by_cases hp : 0 < w32 x
    · first
        | exact kA (by rw [if_pos hp] at hL; exact hL) p l e R s m args below meth c H locs ls Y
        | (exfalso; simp only [iv_0, iv_eq, iv_lt, iv_le, w32_0] at g; omega)
    · first
        | exact kB (by rw [if_neg hp] at hL; exact hL) p l e R s m args below meth c H locs ls Y
        | (exfalso; simp only [iv_0, iv_eq, iv_lt, iv_le, w32_0] at g; omega))
theorem ev_icmp_gt {x y : Int} {off : Int} {tgt : Nat} {C : Option α} (hd : decode M.2.1 pc = .ok (.if_icmp .gt off, 3)) (ht : (pc : Int) + off = (tgt : Int)) (hL : C = o) (hC : C = if w32 y < w32 x then A else B) (kA : A = o → Ev ω M d PQ mc ms cl sl sh pt z h tgt lv st) (kB : B = o → Ev ω M d PQ mc ms cl sl sh pt z h (pc + 3) lv st) : Ev ω M d PQ mc ms cl sl sh pt z h pc lv (iV y :: iV x :: st) := by
  rw [hC] at hL
  intro p l e R s m args below meth c H locs ls Y
  have hz : ∀ q : Prop, q → q := fun _ q => q
  refine lv_icmp_gt Y.1.1 Y.1.2.1 hd ht (fun g => ?_) (fun g => ?_)
  all_goals (
    by_cases hp : w32 y < w32 x
    · first
        | exact kA (by rw [if_pos hp] at hL; exact hL) p l e R s m args below meth c H locs ls Y
        | (exfalso; simp only [iv_0, iv_eq, iv_lt, iv_le, w32_0] at g; omega)
    · first
        | exact kB (by rw [if_neg hp] at hL; exact hL) p l e R s m args below meth c H locs ls Y
        | (exfalso; simp only [iv_0, iv_eq, iv_lt, iv_le, w32_0] at g; omega))
theorem ev_if_le {x : Int} {off : Int} {tgt : Nat} {C : Option α} (hd : decode M.2.1 pc = .ok (.ifCond .le off, 3)) (ht : (pc : Int) + off = (tgt : Int)) (hL : C = o) (hC : C = if 0 < w32 x then A else B) (kA : A = o → Ev ω M d PQ mc ms cl sl sh pt z h (pc + 3) lv st) (kB : B = o → Ev ω M d PQ mc ms cl sl sh pt z h tgt lv st) : Ev ω M d PQ mc ms cl sl sh pt z h pc lv (iV x :: st) := by
  rw [hC] at hL
  intro p l e R s m args below meth c H locs ls Y
  have hz : ∀ q : Prop, q → q := fun _ q => q
  refine lv_if_le Y.1.1 Y.1.2.1 hd ht (fun g => ?_) (fun g => ?_)
  all_goals (
    by_cases hp : 0 < w32 x
    · first
        | exact kA (by rw [if_pos hp] at hL; exact hL) p l e R s m args below meth c H locs ls Y
        | (exfalso; simp only [iv_0, iv_eq, iv_lt, iv_le, w32_0] at g; omega)
    · first
        | exact kB (by rw [if_neg hp] at hL; exact hL) p l e R s m args below meth c H locs ls Y
        | (exfalso; simp only [iv_0, iv_eq, iv_lt, iv_le, w32_0] at g; omega))
theorem ev_icmp_le {x y : Int} {off : Int} {tgt : Nat} {C : Option α} (hd : decode M.2.1 pc = .ok (.if_icmp .le off, 3)) (ht : (pc : Int) + off = (tgt : Int)) (hL : C = o) (hC : C = if w32 y < w32 x then A else B) (kA : A = o → Ev ω M d PQ mc ms cl sl sh pt z h (pc + 3) lv st) (kB : B = o → Ev ω M d PQ mc ms cl sl sh pt z h tgt lv st) : Ev ω M d PQ mc ms cl sl sh pt z h pc lv (iV y :: iV x :: st) := by
  rw [hC] at hL
  intro p l e R s m args below meth c H locs ls Y
  have hz : ∀ q : Prop, q → q := fun _ q => q
  refine lv_icmp_le Y.1.1 Y.1.2.1 hd ht (fun g => ?_) (fun g => ?_)
  all_goals (
    by_cases hp : w32 y < w32 x
    · first
        | exact kA (by rw [if_pos hp] at hL; exact hL) p l e R s m args below meth c H locs ls Y
        | (exfalso; simp only [iv_0, iv_eq, iv_lt, iv_le, w32_0] at g; omega)
    · first
        | exact kB (by rw [if_neg hp] at hL; exact hL) p l e R s m args below meth c H locs ls Y
        | (exfalso; simp only [iv_0, iv_eq, iv_lt, iv_le, w32_0] at g; omega))
theorem ev_ifnull {off : Int} {tgt : Nat} {x : Int} {C : Option α} (hd : decode M.2.1 pc = .ok (.ifnull off, 3)) (ht : (pc : Int) + off = (tgt : Int)) (hL : C = o) (hC : C = if x < 0 then A else B) (kA : A = o → Ev ω M d PQ mc ms cl sl sh pt z h tgt lv st) (kB : B = o → Ev ω M d PQ mc ms cl sl sh pt z h (pc + 3) lv st) : Ev ω M d PQ mc ms cl sl sh pt z h pc lv (aV ω x :: st) := by
  rw [hC] at hL
  intro p l e R s m args below meth c H locs ls Y
  by_cases hp : x < 0
  · have eq9 : aV ω x = .null := if_pos hp
    rw [eq9]
    exact lv_ifnullN Y.1.1 Y.1.2.1 hd ht (kA (by rw [if_pos hp] at hL; exact hL) p l e R s m args below meth c H locs ls Y)
  · have eq9 : aV ω x = .ref (ω.1 x) := if_neg hp
    rw [eq9]
    exact lv_ifnull Y.1.1 Y.1.2.1 hd (kB (by rw [if_neg hp] at hL; exact hL) p l e R s m args below meth c H locs ls Y)
theorem ev_ifnonnull {off : Int} {tgt : Nat} {x : Int} {C : Option α} (hd : decode M.2.1 pc = .ok (.ifnonnull off, 3)) (ht : (pc : Int) + off = (tgt : Int)) (hL : C = o) (hC : C = if x < 0 then A else B) (kA : A = o → Ev ω M d PQ mc ms cl sl sh pt z h (pc + 3) lv st) (kB : B = o → Ev ω M d PQ mc ms cl sl sh pt z h tgt lv st) : Ev ω M d PQ mc ms cl sl sh pt z h pc lv (aV ω x :: st) := by
  rw [hC] at hL
  intro p l e R s m args below meth c H locs ls Y
  by_cases hp : x < 0
  · have eq9 : aV ω x = .null := if_pos hp
    rw [eq9]
    exact lv_ifnonnullN Y.1.1 Y.1.2.1 hd (kA (by rw [if_pos hp] at hL; exact hL) p l e R s m args below meth c H locs ls Y)
  · have eq9 : aV ω x = .ref (ω.1 x) := if_neg hp
    rw [eq9]
    exact lv_ifnonnull Y.1.1 Y.1.2.1 hd ht (kB (by rw [if_neg hp] at hL; exact hL) p l e R s m args below meth c H locs ls Y)
theorem ev_null (hd : decode M.2.1 pc = .ok (.aconst_null, 1)) (k : Ev ω M d PQ mc ms cl sl sh pt z h (pc + 1) lv (aV ω (-1) :: st)) : Ev ω M d PQ mc ms cl sl sh pt z h pc lv st := by
  intro p l e R s m args below meth c H locs ls Y
  exact lv_null Y.1.1 Y.1.2.1 hd (k p l e R s m args below meth c H locs ls Y)
theorem ev_ldc {i : Nat} {x : Int} (hd : decode M.2.1 pc = .ok (.ldc i, 2)) (hw : Cond.constant M.1.cls i (Int32.ofInt x) ∈ WS) (k : Ev ω M d PQ mc ms cl sl sh pt z h (pc + 2) lv (iV x :: st)) : Ev ω M d PQ mc ms cl sl sh pt z h pc lv st := by
  intro p l e R s m args below meth c H locs ls Y
  exact lv_ldc Y.1.1 Y.1.2.1 Y.1.2.2.2.2.1 (Y.1.2.2.2.2.2.1 _ hw) hd (k p l e R s m args below meth c H locs ls Y)
theorem ev_ldc_w {i : Nat} {x : Int} (hd : decode M.2.1 pc = .ok (.ldc_w i, 3)) (hw : Cond.constant M.1.cls i (Int32.ofInt x) ∈ WS) (k : Ev ω M d PQ mc ms cl sl sh pt z h (pc + 3) lv (iV x :: st)) : Ev ω M d PQ mc ms cl sl sh pt z h pc lv st := by
  intro p l e R s m args below meth c H locs ls Y
  exact lv_ldcw Y.1.1 Y.1.2.1 Y.1.2.2.2.2.1 (Y.1.2.2.2.2.2.1 _ hw) hd (k p l e R s m args below meth c H locs ls Y)
theorem ev_ldc2 {i : Nat} {x : Int} (hd : decode M.2.1 pc = .ok (.ldc2_w i, 3)) (hw : Cond.constantLong M.1.cls i (Int64.ofInt x) ∈ WS) (k : Ev ω M d PQ mc ms cl sl sh pt z h (pc + 3) lv (lV x :: st)) : Ev ω M d PQ mc ms cl sl sh pt z h pc lv st := by
  intro p l e R s m args below meth c H locs ls Y
  exact lv_ldc2 Y.1.1 Y.1.2.1 Y.1.2.2.2.2.1 (Y.1.2.2.2.2.2.1 _ hw) hd (k p l e R s m args below meth c H locs ls Y)
theorem ev_ldcS {i : Nat} {n : Nat} (hn : n < 7) (ho : kOwn n = M.1.cls) (hx : kIx n = i) (hd : decode M.2.1 pc = .ok (.ldc i, 2)) (k : Ev ω M d PQ mc ms cl sl sh pt z h (pc + 2) lv (aV ω (10 + (n : Int)) :: st)) : Ev ω M d PQ mc ms cl sl sh pt z h pc lv st := by
  intro p l e R s m args below meth c H locs ls Y
  have hz := Y.2.2.1.2.1 n hn
  rw [ho, hx] at hz
  have eq9 : aV ω (10 + (n : Int)) = .ref (ω.1 (10 + (n : Int))) := if_neg (by omega)
  have k := k p l e R s m args below meth c H locs ls Y
  rw [eq9] at k
  exact va_ldcS Y.1.1 Y.1.2.1 Y.1.2.2.2.2.1 hz hd k
end EvRows
