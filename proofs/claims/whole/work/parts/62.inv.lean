section PureInv
/-! THE INVARIANT: what the class and the reference hold alike, part by part; the cells that each part looks at -/
def Eq2 (C : Int → Int → Prop) (h h' : Hp) : Prop := ∀ a k : Int, C a k → h' a k = h a k
theorem On.e {T C : Int → Int → Prop} {h h' : Hp} (F : On T h h') (d : ∀ a k, T a k → C a k → False) : Eq2 C h h' := fun a k c => F a k (fun t => d a k t c)
def TpI (h : Hp) : Prop := ∃ (L : Nat) (B : Nat → Int), BOK B L ∧ h 21 1 = (L : Int) ∧ h 2000 6 = (L : Int) ∧ (∀ k : Nat, k < L → h 22 (k : Int) = B k) ∧ ∀ k : Nat, k < L → h 2001 (k : Int) = w8 (B k)
def TpC (a k : Int) : Prop := (a = 21 ∧ k = 1) ∨ a = 22 ∨ (a = 2000 ∧ k = 6) ∨ a = 2001
def CyB (n W : Nat) (ru pd wd : Int → Int) : Prop := (0 < n → 2 ≤ n ∧ (1 ≤ ru 0 ∧ ru 0 ≤ 30) ∧ 0 ≤ ru 1 ∧ ru 1 ≤ 99) ∧ (∀ p : Int, 0 ≤ p → p < 3 * (n : Int) → 0 ≤ pd p ∧ pd p ≤ 9) ∧ (∀ w : Int, 0 ≤ w → w < (W : Int) → (0 ≤ wd (3 * w) ∧ wd (3 * w) < n) ∧ (0 ≤ wd (3 * w + 1) ∧ wd (3 * w + 1) < n) ∧ wd (3 * w) ≠ wd (3 * w + 1) ∧ 1 ≤ wd (3 * w + 2) ∧ wd (3 * w + 2) ≤ 9) ∧ (n = 0 → W = 0)
def CtI (h : Hp) (n W : Nat) (ru pd wd : Int → Int) : Prop := CtA h n W ru pd wd ∧ CtM h n W ru pd wd ∧ CyB n W ru pd wd ∧ h 20 2 = 70 - h 20 1
def CtC (c a k : Int) : Prop := (a = 20 ∧ (k = 1 ∨ k = 2)) ∨ (a = c ∧ (k = 4 ∨ k = 5)) ∨ a = c + 1 ∨ a = c + 2 ∨ a = c + 3 ∨ (a = 2000 ∧ (k = 26 ∨ k = 27)) ∨ a = 2018 ∨ a = 2020 ∨ a = 2022
def LhC (a k : Int) : Prop := (a = 20 ∧ k = 6) ∨ (a = 2000 ∧ k = 34)
def LwC (lc : Nat) (a k : Int) : Prop := (a = 20 ∧ k = 5) ∨ (a = 2000 ∧ k = 7) ∨ (a = 2003 ∧ k < (lc : Int)) ∨ (a = 2002 ∧ k < 240 * (lc : Int)) ∨ (1000 ≤ a ∧ a < 1000 + 10 * (lc : Int) ∧ ((a % 10 = 0 ∧ k = 2) ∨ a % 10 = 1))
def MmC (a k : Int) : Prop := a = 2036 ∨ a = 2037
def SsI (h : Hp) (sc : Nat) : Prop := h 20 7 = (sc : Int) ∧ h 2000 30 = (sc : Int) ∧ sc ≤ 4 ∧ ∀ i : Nat, i < sc → ∃ s : Sst, SsB s ∧ 1 ≤ s.1 ∧ SsA h (1100 + 10 * (i : Int)) s ∧ h 2025 (i : Int) = (s.1 : Int) ∧ ∀ k : Int, 0 ≤ k → k < 3 * (s.1 : Int) → h 2024 (48 * (i : Int) + k) = s.2 k
def SsC (sc : Nat) (a k : Int) : Prop := (a = 20 ∧ k = 7) ∨ (a = 2000 ∧ k = 30) ∨ (1100 ≤ a ∧ a < 1100 + 10 * (sc : Int) ∧ a % 10 < 2) ∨ (a = 2025 ∧ k < (sc : Int)) ∨ (a = 2024 ∧ k < 48 * (sc : Int))
def SnI (h : Hp) (sn : Int) : Prop := h 20 8 = sn ∧ h 2000 35 = sn ∧ 0 ≤ sn ∧ sn ≤ 9
def SnC (a k : Int) : Prop := (a = 20 ∧ k = 8) ∨ (a = 2000 ∧ k = 35)
def FB (W : Nat) (f : Int → Int) : Prop := (0 ≤ f 48 ∧ f 48 < ((2 ^ W : Nat) : Int)) ∧ (0 ≤ f 49 ∧ f 49 ≤ 999) ∧ (0 ≤ f 51 ∧ f 51 ≤ 999)
def NwI (h : Hp) (n W : Nat) (f : Int → Int) : Prop := StA h 110 n f ∧ StM h 2032 n f ∧ FB W f
def NwC (a k : Int) : Prop := (a = 110 ∧ 4 ≤ k ∧ k < 9) ∨ a = 111 ∨ a = 112 ∨ a = 113 ∨ (a = 2000 ∧ k = 26) ∨ (a = 2032 ∧ k < 52)
def EN (note a b c : Int) : Prop := iand note 7 = a ∧ iand (ishr note 3) 63 = b ∧ ishr note 9 = c
def lgF (g : Int → Int) (i j : Int) : Int := g (53 + 3 * (g 52 - 1 - i) + j)
def LG (nt g : Int → Int) (e : Int) : Prop := g 52 = min 60 e ∧ ∀ i : Int, 0 ≤ i → i < min 60 e → EN (nt (e - i)) (lgF g i 0) (lgF g i 1) (lgF g i 2)
def LgC (a k : Int) : Prop := a = 61 ∨ (a = 2032 ∧ 52 ≤ k)
def f0V (n : Nat) (ru pd : Int → Int) : Int → Int := fun k => if 36 ≤ k ∧ k < 36 + 2 * (n : Int) then (if k % 2 = 0 then pd (3 * ((k - 36) / 2)) else pd (3 * ((k - 36) / 2) + 1)) else if k = 49 then ru 1 else 0
def TdI (h : Hp) (n : Nat) (ru pd : Int → Int) : Prop := 0 < n → StA h 100 n (f0V n ru pd)
def TdC (a k : Int) : Prop := (a = 100 ∧ 4 ≤ k ∧ k < 9) ∨ a = 101 ∨ a = 102 ∨ a = 103
def ImI (h : Hp) (n W : Nat) : Prop := (h 20 12 = 0 ∧ h 2000 53 = 0) ∨ (h 20 12 = 1 ∧ h 2000 53 = 1 ∧ ∃ g : Int → Int, StA h 120 n g ∧ (∀ k : Int, 0 ≤ k → k < 52 → h 2052 k = g k) ∧ FB W g ∧ LG (fun x => h 62 (g 51 - x)) (h 2052) (g 51))
def ImC (a k : Int) : Prop := (a = 20 ∧ k = 12) ∨ (a = 2000 ∧ k = 53) ∨ (a = 120 ∧ 4 ≤ k ∧ k < 9) ∨ a = 121 ∨ a = 122 ∨ a = 123 ∨ a = 62 ∨ a = 2052
/-- the j-th state of the past stands here -/
def paA (fst j : Nat) : Int := 200 + 10 * (((fst + j) % 41 : Nat) : Int)
def PaI (h : Hp) (n W : Nat) (e : Int) : Prop := ∃ (fst acts : Nat) (F : Nat → Int → Int), h 55 1 = (fst : Int) ∧ h 55 2 = (acts : Int) ∧ h 2000 42 = (acts : Int) ∧ fst < 41 ∧ acts ≤ 40 ∧ (∀ j : Nat, j < acts → StA h (paA fst j) n (F j) ∧ (∀ k : Int, 0 ≤ k → k < 52 → h 2041 (233 * (j : Int) + k) = F j k) ∧ FB W (F j) ∧ LG (h 61) (fun k => h 2041 (233 * (j : Int) + k)) (F j 51) ∧ F j 51 ≤ e) ∧ ∀ i j : Nat, i ≤ j → j < acts → F i 51 ≤ F j 51
def PaC (a k : Int) : Prop := (a = 55 ∧ (k = 1 ∨ k = 2)) ∨ (a = 2000 ∧ k = 42) ∨ (200 ≤ a ∧ a < 610 ∧ ((a % 10 = 0 ∧ 4 ≤ k ∧ k < 9) ∨ (1 ≤ a % 10 ∧ a % 10 < 4))) ∨ a = 61 ∨ a = 2041
def GvI (h : Hp) (W : Nat) : Prop := ∃ gc : Nat, h 65 4 = (gc : Int) ∧ h 2000 50 = (gc : Int) ∧ gc ≤ 10 ∧ ∀ i : Int, 0 ≤ i → i < (gc : Int) → (h 66 i = h 2049 (3 * i) ∧ 0 ≤ h 66 i ∧ h 66 i < (W : Int)) ∧ (h 67 i = h 2049 (3 * i + 1) ∧ 1 ≤ h 67 i ∧ h 67 i ≤ 30) ∧ h 68 i = h 2049 (3 * i + 2) ∧ (h 68 i = 0 ∨ h 68 i = 1)
def GvC (a k : Int) : Prop := (a = 65 ∧ k = 4) ∨ a = 66 ∨ a = 67 ∨ a = 68 ∨ (a = 2000 ∧ k = 50) ∨ a = 2049
/-- all rows by which anybody may sit with anybody, rising: the seats first -/
def seF (n : Nat) : Nat → Nat → (Int → Int) → List (Int → Int)
  | 0, _, st => [st]
  | d + 1, p, st => if p < n then (if st (p : Int) = -1 then seG n (seF n d (p + 1)) p (n - (p + 1)) (p + 1) st ++ seF n d (p + 1) (ud st (p : Int) 9) else seF n d (p + 1) st) else [st]
where
  seG (n : Nat) (rec : (Int → Int) → List (Int → Int)) (p : Nat) : Nat → Nat → (Int → Int) → List (Int → Int)
    | 0, _, _ => []
    | c + 1, q, st => (if st (q : Int) = -1 then rec (ud (ud st (p : Int) (q : Int)) (q : Int) (p : Int)) else []) ++ seG n rec p c (q + 1) st
def seL (n : Nat) : List (Int → Int) := seF n 7 0 (fun _ => -1)
def RwI (h : Hp) (n : Nat) : Prop := 0 < n → h 70 3 = (n : Int) ∧ h 70 2 = ((seL n).length : Int) ∧ ∀ (i : Nat) (st : Int → Int), (seL n)[i]? = some st → h 71 (i : Int) = rowN n st
def RwC (a k : Int) : Prop := (a = 70 ∧ (k = 2 ∨ k = 3)) ∨ a = 71
def IvP (h : Hp) (n W lc sc : Nat) (ru pd wd f : Int → Int) (ly : Nat → Pw) (k sn : Int) : Prop := TpI h ∧ CtI h n W ru pd wd ∧ LwI h lc ly ∧ LhI h lc k ∧ MmI h lc ly ∧ SsI h sc ∧ SnI h sn ∧ NwI h n W f ∧ LG (h 61) (h 2032) (f 51) ∧ TdI h n ru pd ∧ ImI h n W ∧ PaI h n W (f 51) ∧ GvI h W ∧ RwI h n
def Inv (h : Hp) : Prop := ∃ (n W lc sc : Nat) (ru pd wd f : Int → Int) (ly : Nat → Pw) (k sn : Int), IvP h n W lc sc ru pd wd f ly k sn
section E
variable {h h' : Hp} {n W lc sc : Nat} {f ru pd wd : Int → Int} {ly : Nat → Pw} {k sn s : Int}
theorem row_e {C : Int → Int → Prop} (E : Eq2 C h h') {a : Int} (c : ∀ k, C a k) : h' a = h a := funext fun k => E a k (c k)
theorem TpI.e (I : TpI h) (E : Eq2 TpC h h') : TpI h' := by
  obtain ⟨L, B, b, i1, i2, i3, i4⟩ := I
  exact ⟨L, B, b, by rw [E 21 1 (Or.inl ⟨rfl, rfl⟩)]; exact i1, by rw [E 2000 6 (Or.inr (Or.inr (Or.inl ⟨rfl, rfl⟩)))]; exact i2, fun k hk => by rw [E 22 _ (Or.inr (Or.inl rfl))]; exact i3 k hk, fun k hk => by rw [E 2001 _ (Or.inr (Or.inr (Or.inr rfl)))]; exact i4 k hk⟩
theorem CtI.e (I : CtI h n W ru pd wd) (E : Eq2 (CtC (h 20 1)) h h') : CtI h' n W ru pd wd := by
  obtain ⟨⟨⟨a1, a2, a3⟩, a4, a5, a6, a7, a8⟩, ⟨m1, m2, m3, m4, m5, m6, m7⟩, b, d⟩ := I
  have e1 : h' 20 1 = h 20 1 := E 20 1 (Or.inl ⟨rfl, Or.inl rfl⟩)
  refine ⟨⟨⟨by rw [e1]; exact a1, by rw [e1, E _ 4 (Or.inr (Or.inl ⟨rfl, Or.inl rfl⟩))]; exact a2, a3⟩, by rw [e1, E _ 5 (Or.inr (Or.inl ⟨rfl, Or.inr rfl⟩))]; exact a4, a5, fun k k0 k1 => by rw [e1, E _ k (Or.inr (Or.inr (Or.inl rfl)))]; exact a6 k k0 k1, fun k k0 k1 => by rw [e1, E _ k (Or.inr (Or.inr (Or.inr (Or.inl rfl))))]; exact a7 k k0 k1, fun k k0 k1 => by rw [e1, E _ k (Or.inr (Or.inr (Or.inr (Or.inr (Or.inl rfl)))))]; exact a8 k k0 k1⟩, ⟨by rw [E 2000 26 (by unfold CtC; omega)]; exact m1, m2, by rw [E 2000 27 (by unfold CtC; omega)]; exact m3, m4, fun k k0 k1 => by rw [E 2018 k (by unfold CtC; omega)]; exact m5 k k0 k1, fun k k0 k1 => by rw [E 2020 k (by unfold CtC; omega)]; exact m6 k k0 k1, fun k k0 k1 => by rw [E 2022 k (by unfold CtC; omega)]; exact m7 k k0 k1⟩, b, by rw [e1, E 20 2 (Or.inl ⟨rfl, Or.inr rfl⟩)]; exact d⟩
theorem LwI.e (I : LwI h lc ly) (E : Eq2 (LwC lc) h h') : LwI h' lc ly := by
  obtain ⟨i1, i2, i3, i4⟩ := I
  refine ⟨by rw [E 20 5 (by unfold LwC; omega)]; exact i1, by rw [E 2000 7 (by unfold LwC; omega)]; exact i2, i3, fun i hi => ?_⟩
  obtain ⟨B, L, q, z1, z2, z3, z4, ⟨z5, z6⟩, z7⟩ := i4 i hi
  have L240 := z1.1
  exact ⟨B, L, q, z1, z2, by rw [E 2003 _ (by unfold LwC; omega)]; exact z3, fun k hk => by rw [E 2002 _ (by unfold LwC; omega)]; exact z4 k hk, ⟨by rw [E _ 2 (by unfold LwC; omega)]; exact z5, fun j x e => by rw [E _ _ (by unfold LwC; omega)]; exact z6 j x e⟩, z7⟩
theorem LhI.e (I : LhI h lc k) (E : Eq2 LhC h h') : LhI h' lc k := ⟨by rw [E 20 6 (Or.inl ⟨rfl, rfl⟩)]; exact I.1, by rw [E 2000 34 (Or.inr ⟨rfl, rfl⟩)]; exact I.2.1, I.2.2⟩
theorem MmI.e (I : MmI h lc ly) (E : Eq2 MmC h h') : MmI h' lc ly := fun s s0 s1 => by
  rw [E 2036 s (Or.inl rfl), E 2037 s (Or.inr rfl)]
  exact I s s0 s1
theorem SsI.e (I : SsI h sc) (E : Eq2 (SsC sc) h h') : SsI h' sc := by
  obtain ⟨i1, i2, i3, i4⟩ := I
  refine ⟨by rw [E 20 7 (by unfold SsC; omega)]; exact i1, by rw [E 2000 30 (by unfold SsC; omega)]; exact i2, i3, fun i hi => ?_⟩
  obtain ⟨s, z1, z2, ⟨z3, z4⟩, z5, z6⟩ := i4 i hi
  have s16 := z1.1
  exact ⟨s, z1, z2, ⟨by rw [E _ 1 (by unfold SsC; omega)]; exact z3, fun k k0 k1 => by rw [E _ k (by unfold SsC; omega)]; exact z4 k k0 k1⟩, by rw [E 2025 _ (by unfold SsC; omega)]; exact z5, fun k k0 k1 => by rw [E 2024 _ (by unfold SsC; omega)]; exact z6 k k0 k1⟩
theorem SnI.e (I : SnI h sn) (E : Eq2 SnC h h') : SnI h' sn := ⟨by rw [E 20 8 (Or.inl ⟨rfl, rfl⟩)]; exact I.1, by rw [E 2000 35 (Or.inr ⟨rfl, rfl⟩)]; exact I.2.1, I.2.2⟩
/-- a State whose cells stay -/
theorem StA.c (A : StA h s n f) (e0 : ∀ k : Int, 4 ≤ k → k < 9 → h' s k = h s k) (r : ∀ j : Int, 1 ≤ j → j < 4 → h' (s + j) = h (s + j)) : StA h' s n f := ⟨A.1, by rw [e0 4 (by decide) (by decide)]; exact A.2.1, by
    rw [cR_c (e0 4 (by decide) (by decide)) (e0 5 (by decide) (by decide)) (e0 6 (by decide) (by decide)) (e0 7 (by decide) (by decide)) (e0 8 (by decide) (by decide)) (r 1 (by decide) (by decide)) (r 2 (by decide) (by decide)) (r 3 (by decide) (by decide))]
    exact A.2.2.1, A.2.2.2⟩
theorem mR_e {w : Int} (E : ∀ k : Int, 0 ≤ k → k < 52 → h' w k = h w k) : mR h' w = mR h w := by
  funext k
  unfold mR
  by_cases c : 0 ≤ k ∧ k < 52
  · rw [if_pos c, if_pos c, E k c.1 c.2]
  · rw [if_neg c, if_neg c]
theorem NwI.e (I : NwI h n W f) (E : Eq2 NwC h h') : NwI h' n W f := by
  obtain ⟨A, M, b⟩ := I
  refine ⟨A.c (fun k k0 k1 => E 110 k (by unfold NwC; omega)) (fun j j0 j1 => row_e E (fun k => by unfold NwC; omega)), ⟨M.1, by rw [E 2000 26 (by unfold NwC; omega)]; exact M.2.1, by rw [mR_e (fun k k0 k1 => E 2032 k (by unfold NwC; omega))]; exact M.2.2.1, M.2.2.2⟩, b⟩
theorem LG.c {e : Int} {nt nt' g g' : Int → Int} (I : LG nt g e) (e1 : ∀ i : Int, 0 ≤ i → i < 60 → i < e → nt' (e - i) = nt (e - i)) (e2 : ∀ k : Int, 52 ≤ k → g' k = g k) : LG nt' g' e := by
  obtain ⟨i1, i2⟩ := I
  have e52 : g' 52 = g 52 := e2 52 (by decide)
  refine ⟨by rw [e52]; exact i1, fun i i0 i1' => ?_⟩
  have q : ∀ j : Int, 0 ≤ j → lgF g' i j = lgF g i j := fun j j0 => by
    unfold lgF
    rw [e52]
    exact e2 _ (by omega)
  rw [q 0 (by decide), q 1 (by decide), q 2 (by decide), e1 i i0 (by omega) (by omega)]
  exact i2 i i0 i1'
theorem TdI.e (I : TdI h n ru pd) (E : Eq2 TdC h h') : TdI h' n ru pd := fun c => (I c).c (fun k k0 k1 => E 100 k (by unfold TdC; omega)) (fun j j0 j1 => row_e E (fun k => by unfold TdC; omega))
theorem ImI.e (I : ImI h n W) (E : Eq2 ImC h h') : ImI h' n W := by
  have e1 : h' 20 12 = h 20 12 := E 20 12 (by unfold ImC; omega)
  have e2 : h' 2000 53 = h 2000 53 := E 2000 53 (by unfold ImC; omega)
  have r1 : h' 62 = h 62 := row_e E (fun k => by unfold ImC; omega)
  have r2 : h' 2052 = h 2052 := row_e E (fun k => by unfold ImC; omega)
  unfold ImI
  rw [e1, e2, r1, r2]
  rcases I with i | ⟨i1, i2, g, i3, i4⟩
  · exact Or.inl i
  · exact Or.inr ⟨i1, i2, g, i3.c (fun k k0 k1 => E 120 k (by unfold ImC; omega)) (fun j j0 j1 => row_e E (fun k => by unfold ImC; omega)), i4⟩
theorem paA_b (fst j : Nat) : 200 ≤ paA fst j ∧ paA fst j ≤ 600 ∧ paA fst j % 10 = 0 := by
  unfold paA
  have : (fst + j) % 41 < 41 := Nat.mod_lt _ (by decide)
  omega
theorem PaI.e {e : Int} (I : PaI h n W e) (E : Eq2 PaC h h') : PaI h' n W e := by
  obtain ⟨fst, acts, F, i1, i2, i3, i4, i5, i6, i7⟩ := I
  have r1 : h' 61 = h 61 := row_e E (fun k => by unfold PaC; omega)
  have r2 : h' 2041 = h 2041 := row_e E (fun k => by unfold PaC; omega)
  refine ⟨fst, acts, F, by rw [E 55 1 (by unfold PaC; omega)]; exact i1, by rw [E 55 2 (by unfold PaC; omega)]; exact i2, by rw [E 2000 42 (by unfold PaC; omega)]; exact i3, i4, i5, fun j hj => ?_, i7⟩
  obtain ⟨z1, z2⟩ := i6 j hj
  have pb := paA_b fst j
  rw [r1, r2]
  exact ⟨z1.c (fun k k0 k1 => E _ k (by unfold PaC; omega)) (fun i i0 i1 => row_e E (fun k => by unfold PaC; omega)), z2⟩
theorem GvI.e (I : GvI h W) (E : Eq2 GvC h h') : GvI h' W := by
  obtain ⟨gc, i1, i2, i3, i4⟩ := I
  have r1 : h' 66 = h 66 := row_e E (fun k => by unfold GvC; omega)
  have r2 : h' 67 = h 67 := row_e E (fun k => by unfold GvC; omega)
  have r3 : h' 68 = h 68 := row_e E (fun k => by unfold GvC; omega)
  have r4 : h' 2049 = h 2049 := row_e E (fun k => by unfold GvC; omega)
  exact ⟨gc, by rw [E 65 4 (by unfold GvC; omega)]; exact i1, by rw [E 2000 50 (by unfold GvC; omega)]; exact i2, i3, fun i i0 i1 => by rw [r1, r2, r3, r4]; exact i4 i i0 i1⟩
theorem RwI.e (I : RwI h n) (E : Eq2 RwC h h') : RwI h' n := fun c => by
  obtain ⟨i1, i2, i3⟩ := I c
  exact ⟨by rw [E 70 3 (by unfold RwC; omega)]; exact i1, by rw [E 70 2 (by unfold RwC; omega)]; exact i2, fun i st e => by rw [E 71 _ (by unfold RwC; omega)]; exact i3 i st e⟩
end E
end PureInv
