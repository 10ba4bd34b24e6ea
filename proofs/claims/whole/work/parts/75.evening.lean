section PureEvening
/-! EVENING -/
def Tme (a k : Int) : Prop := a = 61 ∨ (a = 2000 ∧ (k = 0 ∨ k = 39 ∨ k = 40 ∨ k = 42)) ∨ a = 2041 ∨ a = 2032 ∨ a = 2038
theorem FrG.ac {h h' : Hp} (F : FrG 2032 h h') : On Tme h h' := fun a k t => by
  by_cases z : a = 2000
  · subst z
    exact F.2 k (fun e => t (by unfold Tme; omega)) (fun e => t (by unfold Tme; omega))
  · rw [F.1 a (fun e => t (by unfold Tme; omega)) (fun e => t (by unfold Tme; omega)) z]
theorem So_evening : S_evening Inv := by
  intro h I
  obtain ⟨n, W, lc, sc, ru, pd, wd, f, ly, k0, sn, J⟩ := I
  obtain ⟨fst, acts, PF, h1, e1, J1, X, A1⟩ := act_open J
  have J10 := J1.qs (h' := up h1 2000 0 0) t0_sc
  have Ct := J1.2.1
  have Nw := J1.2.2.2.2.2.2.2.1
  have Lg := J1.2.2.2.2.2.2.2.2.1
  have Mm := J1.2.2.2.2.1
  have n6 := Ct.1.1.2.2
  have s7 := (IsS_sh Nw.1.1).1
  have e8 : h1 110 8 = f 51 := sta_e Nw.1
  have fb := Nw.2.2
  have f51 := fb.2.2
  have no : ∃ (r2 : Int) (h2 : Hp), some ((-1 : Int), up h1 2000 0 0) = some (r2, h2) ∧ w32 (-1) = w32 r2 ∧ Inv h2 := ⟨_, _, rfl, rfl, ⟨n, W, lc, sc, ru, pd, wd, f, ly, k0, sn, J10⟩⟩
  have o26 : up h1 2000 0 0 2000 26 = (n : Int) := by rw [up_off (by decide)]; exact Ct.2.1.1
  have o51 : up h1 2000 0 0 2032 51 = f 51 := by rw [up_ne (by decide)]; exact Nw.2.1.rd (by decide) (by decide)
  unfold Cc_evening Md_evening Cc_eveningIn
  rw [cC_s SH20' rfl, cC_s SH55 rfl, e1, cl_s, cC_s SH20' rfl]
  by_cases z : n = 0
  · rw [told0 Ct.1.1 z, cl_s, if_pos wz0, cl_s, if_pos wz0]
    refine so_s ?_
    rw [cC_s SH2000' rfl, pu_s, o26, w32_n (x := (n : Int)) (by omega) (by omega), if_pos (by omega)]
    exact no
  · rw [told1 Ct.1.1 z, cl_s, if_neg wn1, cC_s s7 rfl, e8, w32_n (x := f 51) (by omega) (by omega)]
    by_cases c : f 51 < 999
    · obtain ⟨h2, e2, F2, S2, -, x9, x10⟩ := St_pass_e Nw.1 (bed := -1) ir_m1
      have r2 : ∀ a : Int, ¬ (110 ≤ a ∧ a ≤ 114) → h2 a = h1 a := fun a q => F2 a (fun t => q (by unfold InS at t; omega))
      obtain ⟨h3, e3, F3, y1, y2⟩ := keep_e2 (h := h2) (fst := fst) (acts := acts) (by rw [r2 55 (by decide)]; exact X.1) (by rw [r2 55 (by decide)]; exact X.2.1) X.2.2.2.1 X.2.2.2.2.1
      have S3 : StA h3 110 n (psR n (-1) f).1 := S2.c (fun k _ _ => F3 110 k (by omega)) (fun j j0 j1 => F3.row (fun k => by omega))
      have pk := psR_k (f := f) n6 (-1)
      have pc := psC_b (bed := -1) (f := f) n6
      obtain ⟨B, hB, B64⟩ := psB_b (bed := -1) (f := f) n6
      have z9 : h3 110 9 = psC n (-1) f := by rw [F3 110 9 (by omega)]; exact x9
      have z10 : h3 110 10 = (psR n (-1) f).2 := by rw [F3 110 10 (by omega)]; exact x10
      obtain ⟨v, e4, en⟩ := write_e S3 (by rw [pk.2.2]; omega) z9 z10 ⟨pc.1, by omega⟩ (by rw [hB]; omega)
      rw [pk.2.2] at e4
      have e9 : up h3 61 (f 51 + 1) v 110 9 = psC n (-1) f := by rw [up_ne (by decide)]; exact z9
      rw [if_pos c, e2, cl_s, cl_s, if_neg wn1, e3, cl_s, cC_s SH60 rfl, e4, cl_s, cC_s s7 rfl, e9]
      have Fc : On Tac h1 (up (up h3 61 (f 51 + 1) v) 2000 0 0) := (((F2.on (T := Tac) (fun a q k => by unfold InS at q; unfold Tac; omega)).tr (F3.w (fun a k q => by unfold Tac; omega))).tr (On.up (Or.inr (Or.inl rfl)))).tr (On.up (by unfold Tac; omega))
      have c61 : ∀ x : Int, up (up h3 61 (f 51 + 1) v) 2000 0 0 61 x = if x = f 51 + 1 then v else h1 61 x := fun x => by
        rw [up_ne (by decide)]
        by_cases q : x = f 51 + 1
        · rw [if_pos q, q, up_at]
        · rw [if_neg q, up_off q, F3 61 x (by omega), r2 61 (by decide)]
      have c32 : ∀ k : Int, up (up h3 61 (f 51 + 1) v) 2000 0 0 2032 k = h1 2032 k := fun k => by rw [up_ne (by decide), up_ne (by decide), F3 2032 k (by omega), r2 2032 (by decide)]
      have c41 : ∀ k : Int, up (up h3 61 (f 51 + 1) v) 2000 0 0 2041 k = h1 2041 k := fun k => by rw [up_ne (by decide), up_ne (by decide), F3 2041 k (by omega), r2 2041 (by decide)]
      have c20 : ∀ k : Int, k ≠ 0 → up (up h3 61 (f 51 + 1) v) 2000 0 0 2000 k = h1 2000 k := fun k q => by rw [up_off q, up_ne (by decide), F3 2000 k (by omega), r2 2000 (by decide)]
      have c55 : ∀ k : Int, up (up h3 61 (f 51 + 1) v) 2000 0 0 55 k = h3 55 k := fun k => by rw [up_ne (by decide), up_ne (by decide)]
      have c110 : ∀ a k : Int, 110 ≤ a → a ≤ 114 → up (up h3 61 (f 51 + 1) v) 2000 0 0 a k = h3 a k := fun a k a0 a1 => by rw [up_ne (by omega), up_ne (by omega)]
      generalize hg : up (up h3 61 (f 51 + 1) v) 2000 0 0 = g0 at Fc c61 c32 c41 c20 c55 c110
      obtain ⟨h5, e5, F5, y42, r41, s41⟩ := remember_e (h := g0) (acts := acts) (by rw [c20 42 (by decide)]; exact X.2.2.1) X.2.2.2.2.1
      have q32 : ∀ k : Int, h5 2032 k = h1 2032 k := fun k => by rw [F5 2032 k (by omega), c32]
      have M5 : StM h5 2032 n f := ⟨Nw.2.1.1, by rw [F5 2000 26 (by omega), c20 26 (by decide)]; exact Nw.2.1.2.1, by rw [mR_e (h := h1) (fun k _ _ => q32 k)]; exact Nw.2.1.2.2.1, Nw.2.1.2.2.2⟩
      have l52 : h5 2032 52 = min 60 (f 51) := by rw [q32]; exact Lg.1
      obtain ⟨h6, e6, F6, M6, -, -, -, L6⟩ := Md_goEvening_e M5 Abed0 (by rw [l52]; omega)
      have G6 := FrG.ac F6
      have F56 : On Tme g0 h6 := (F5.w (fun a k q => by unfold Tme; omega)).tr G6
      have F : On Tac h1 h6 := Fc.tr (F56.w (fun a k q => by unfold Tme at q; unfold Tac; omega))
      have k61 : ∀ x : Int, h6 61 x = if x = f 51 + 1 then v else h1 61 x := fun x => by rw [F6.1 61 (by decide) (by decide) (by decide), F5 61 x (by omega), c61]
      have k41 : ∀ x : Int, h6 2041 x = h5 2041 x := fun x => by rw [F6.1 2041 (by decide) (by decide) (by decide)]
      refine so_s ⟨psC n (-1) f, h6, ?_, rfl, ⟨n, W, lc, sc, ru, pd, wd, (psR n (-1) f).1, ly, k0, sn, ?_⟩⟩
      · rw [cC_s SH2000' rfl, hg, pu_s, c20 26 (by decide), Ct.2.1.1, w32_n (x := (n : Int)) (by omega) (by omega), if_neg (by omega), cX_s SH2032' (by decide) (by decide) (by decide), rd_ge (by decide), c32, Nw.2.1.rd (by decide) (by decide), w32_n (x := f 51) (by omega) (by omega), if_neg (by omega), e5, cl_s, e6, cl_s]
      · refine act_close J1 X A1 (F.w (fun a k q => Or.inl q)) (MmI.e Mm (F.e (fun a k t c => by unfold Tac at t; unfold MmC at c; omega))) ?_ ?_ ?_ ?_ ?_ ?_ ?_ ?_ (by rw [pk.2.2]; omega)
        · refine ⟨S3.c (fun k _ _ => ?_) (fun j j0 j1 => funext fun k => ?_), M6, by rw [pk.1]; exact fb.1, by rw [pk.2.1]; exact fb.2.1, by rw [pk.2.2]; omega⟩
          · rw [F56 110 k (by unfold Tme; omega), c110 110 k (by decide) (by decide)]
          · rw [F56 (110 + j) k (by unfold Tme; omega), c110 (110 + j) k (by omega) (by omega)]
        · rw [pk.2.2]
          refine lg_step (h := h5) (nt := h1 61) (Lg.c (fun _ _ _ _ => rfl) (fun k _ => q32 k)) (by omega) L6 ?_ (fun i hi => by rw [k61, if_neg (by omega)])
          rw [k61, if_pos rfl]
          exact en
        · rw [F56 55 1 (by unfold Tme; omega), c55]; exact y1
        · rw [F56 55 2 (by unfold Tme; omega), c55]; exact y2
        · rw [F6.2 42 (by decide) (by decide)]; exact y42
        · intro q
          obtain ⟨t1, t2⟩ := r41 q
          exact ⟨fun k hk => by rw [k41, t1 k hk, c41], fun k k0' k1 => by rw [k41, t2 k k0' k1, c32]⟩
        · intro q
          obtain ⟨t1, t2⟩ := s41 q
          exact ⟨fun x x0 x1 => by rw [k41, t1 x x0 x1, c41], fun k k0' k1 => by rw [k41, t2 k k0' k1, c32]⟩
        · intro x hx
          rw [k61, if_neg (by omega)]
    · rw [if_neg c, cl_s, if_pos wz0]
      refine so_s ?_
      rw [cC_s SH2000' rfl, pu_s, o26, w32_n (x := (n : Int)) (by omega) (by omega), if_neg (by omega), cX_s SH2032' (by decide) (by decide) (by decide), rd_ge (by decide), o51, w32_n (x := f 51) (by omega) (by omega), if_pos (by omega)]
      exact no
end PureEvening
