section PureSin
/-! YEARS: a sin by draws -/
def siV (n : Nat) (sn s : Int) (f : Int → Int) : Int × (Int → Int) := if drV (lcg s) 10 < sn then (lcg (lcg (lcg (lcg s))), if drV (lcg (lcg s)) n = drV (lcg (lcg (lcg s))) n then f else oweR f (drV (lcg (lcg s)) n) (drV (lcg (lcg (lcg s))) n) (drV (lcg (lcg (lcg (lcg s)))) 9 + 1)) else (lcg s, f)
theorem c_sinA {h : Hp} {n : Nat} {f : Int → Int} {sn : Int} (A : StA h 110 n f) (n0 : 0 < n) (h8 : h 20 8 = sn) (s0 : 0 ≤ sn ∧ sn ≤ 9) : ∃ h', Cc_sinAhead h 20 = some (0, h') ∧ On (fun a k => a = 111 ∨ (a = 20 ∧ k = 19)) h h' ∧ h' 20 19 = (siV n sn (h 20 19) f).1 ∧ StA h' 110 n (siV n sn (h 20 19) f).2 := by
  have n6 := A.2.2.2.1
  have s7 := (IsS_sh A.1).1
  generalize hs : h 20 19 = s
  have d1 := drV_b (lcg s) (m := 10) (by decide) (by decide)
  have d2 := drV_b (lcg (lcg s)) (m := (n : Int)) (by omega) (by omega)
  have d3 := drV_b (lcg (lcg (lcg s))) (m := (n : Int)) (by omega) (by omega)
  have d4 := drV_b (lcg (lcg (lcg (lcg s)))) (m := 9) (by decide) (by decide)
  have u : ∀ (g : Hp) (v k : Int), up g 20 19 v 110 k = g 110 k := fun g v k => up_ne (by decide) k
  unfold Cc_sinAhead siV
  rw [cC_s SH20' rfl, c_draw h (by decide) (by decide), cl_s, hs, w32_n (x := drV (lcg s) 10) (by omega) (by omega), up_off (by decide), h8, w32_n (x := sn) (by omega) (by omega)]
  by_cases c : drV (lcg s) 10 < sn
  · rw [if_pos c, if_pos c, cC_s s7 rfl, u, A.2.1, c_draw _ (by omega) (by omega), cl_s, up_at, u, u, A.2.1, c_draw _ (by omega) (by omega), cl_s, up_at, c_draw _ (by decide) (by decide), cl_s, up_at, bd_s, w32_n (x := drV (lcg (lcg s)) n) (by omega) (by omega), w32_n (x := drV (lcg (lcg (lcg s))) n) (by omega) (by omega)]
    have F : On (fun a k => a = 111 ∨ (a = 20 ∧ k = 19)) h (up (up (up (up h 20 19 (lcg s)) 20 19 (lcg (lcg s))) 20 19 (lcg (lcg (lcg s)))) 20 19 (lcg (lcg (lcg (lcg s))))) := (((On.up (Or.inr ⟨rfl, rfl⟩)).tr (On.up (Or.inr ⟨rfl, rfl⟩))).tr (On.up (Or.inr ⟨rfl, rfl⟩))).tr (On.up (Or.inr ⟨rfl, rfl⟩))
    have B : StA (up (up (up (up h 20 19 (lcg s)) 20 19 (lcg (lcg s))) 20 19 (lcg (lcg (lcg s)))) 20 19 (lcg (lcg (lcg (lcg s))))) 110 n f := A.c (fun k _ _ => by rw [u, u, u, u]) (fun j j0 j1 => by rw [up_off_row (by omega), up_off_row (by omega), up_off_row (by omega), up_off_row (by omega)])
    have x : up (up (up (up h 20 19 (lcg s)) 20 19 (lcg (lcg s))) 20 19 (lcg (lcg (lcg s)))) 20 19 (lcg (lcg (lcg (lcg s)))) 20 19 = lcg (lcg (lcg (lcg s))) := up_at
    generalize up (up (up (up h 20 19 (lcg s)) 20 19 (lcg (lcg s))) 20 19 (lcg (lcg (lcg s)))) 20 19 (lcg (lcg (lcg (lcg s)))) = g at F B x
    by_cases z : drV (lcg (lcg s)) n = drV (lcg (lcg (lcg s))) n
    · rw [if_pos z, if_pos z]
      exact ⟨g, rfl, F, x, B⟩
    · have db := Gd_d B.2.2.2 d2.1 (show drV (lcg (lcg s)) n < 6 by omega) d3.1 (show drV (lcg (lcg (lcg s))) n < 6 by omega)
      obtain ⟨h', e, F', c'⟩ := St_owe_e B (a := drV (lcg (lcg s)) n) (b := drV (lcg (lcg (lcg s))) n) (m := drV (lcg (lcg (lcg (lcg s)))) 9 + 1) d2.1 (by omega) d3.1 (by omega) (by omega) (by omega)
      rw [if_neg z, if_neg z, e, cl_s]
      exact ⟨h', rfl, F.tr (F'.on (fun a q k => Or.inl (by omega))), by rw [F' 20 (by omega)]; exact x, ⟨B.1, by rw [F' 110 (by omega)]; exact B.2.1, c', Gd_owe B.2.2.2 d2.1 (by omega) d3.1 (by omega) z (by omega)⟩⟩
  · rw [if_neg c, if_neg c]
    exact ⟨_, rfl, On.up (Or.inr ⟨rfl, rfl⟩), up_at, A.c (fun k _ _ => u _ _ _) (fun j j0 j1 => up_off_row (by omega))⟩
end PureSin
