section LawLoop
def N_La_law : Mt := (yL_law, cL_law, 7, some .boolean)
theorem ml_La_19 : ML RL 19 yX9_feed := Or.inl (WS_of (w := Cond.methodLink RL 19 yX9_feed) (by decide +kernel) (by decide +kernel))
theorem ml_La_23 : ML RL 23 yX10_feed := Or.inl (WS_of (w := Cond.methodLink RL 23 yX10_feed) (by decide +kernel) (by decide +kernel))
theorem ml_La_24 : ML RL 24 yX9_end := Or.inl (WS_of (w := Cond.methodLink RL 24 yX9_end) (by decide +kernel) (by decide +kernel))
theorem ml_La_28 : ML RL 28 yX10_end := Or.inl (WS_of (w := Cond.methodLink RL 28 yX10_end) (by decide +kernel) (by decide +kernel))
theorem ml_La_29 : ML RL 29 yX9_fault := Or.inl (WS_of (w := Cond.methodLink RL 29 yX9_fault) (by decide +kernel) (by decide +kernel))
theorem ml_La_33 : ML RL 33 yX10_fault := Or.inl (WS_of (w := Cond.methodLink RL 33 yX10_fault) (by decide +kernel) (by decide +kernel))
theorem ml_La_34 : ML RL 34 yX9_text := Or.inl (WS_of (w := Cond.methodLink RL 34 yX9_text) (by decide +kernel) (by decide +kernel))
theorem ml_La_37 : ML RL 37 yX10_text := Or.inl (WS_of (w := Cond.methodLink RL 37 yX10_text) (by decide +kernel) (by decide +kernel))
theorem ml_La_38 : ML RL 38 yL_person := Or.inl (WS_of (w := Cond.methodLink RL 38 yL_person) (by decide +kernel) (by decide +kernel))
theorem ml_La_43 : ML RL 43 yX10_person := Or.inl (WS_of (w := Cond.methodLink RL 43 yX10_person) (by decide +kernel) (by decide +kernel))
theorem ml_La_44 : ML RL 44 yX10_thrown := Or.inl (WS_of (w := Cond.methodLink RL 44 yX10_thrown) (by decide +kernel) (by decide +kernel))
theorem ml_La_48 : ML RL 48 yX9_wrong := Or.inl (WS_of (w := Cond.methodLink RL 48 yX9_wrong) (by decide +kernel) (by decide +kernel))
theorem ml_La_51 : ML RL 51 yX10_wrong := Or.inl (WS_of (w := Cond.methodLink RL 51 yX10_wrong) (by decide +kernel) (by decide +kernel))
theorem ml_La_52 : ML RL 52 yX9_law := Or.inl (WS_of (w := Cond.methodLink RL 52 yX9_law) (by decide +kernel) (by decide +kernel))
theorem ml_La_55 : ML RL 55 yX10_law := Or.inl (WS_of (w := Cond.methodLink RL 55 yX10_law) (by decide +kernel) (by decide +kernel))
theorem ml_La_56 : ML RL 56 yX9_sin := Or.inl (WS_of (w := Cond.methodLink RL 56 yX9_sin) (by decide +kernel) (by decide +kernel))
theorem ml_La_59 : ML RL 59 yX10_sin := Or.inl (WS_of (w := Cond.methodLink RL 59 yX10_sin) (by decide +kernel) (by decide +kernel))
theorem ml_La_60 : ML RL 60 yX9_sentence := Or.inl (WS_of (w := Cond.methodLink RL 60 yX9_sentence) (by decide +kernel) (by decide +kernel))
theorem ml_La_63 : ML RL 63 yX10_sentence := Or.inl (WS_of (w := Cond.methodLink RL 63 yX10_sentence) (by decide +kernel) (by decide +kernel))
theorem ml_La_64 : ML RL 64 yX9_evening := Or.inl (WS_of (w := Cond.methodLink RL 64 yX9_evening) (by decide +kernel) (by decide +kernel))
theorem ml_La_67 : ML RL 67 yX10_evening := Or.inl (WS_of (w := Cond.methodLink RL 67 yX10_evening) (by decide +kernel) (by decide +kernel))
theorem ml_La_68 : ML RL 68 yX9_appeal := Or.inl (WS_of (w := Cond.methodLink RL 68 yX9_appeal) (by decide +kernel) (by decide +kernel))
theorem ml_La_71 : ML RL 71 yX10_appeal := Or.inl (WS_of (w := Cond.methodLink RL 71 yX10_appeal) (by decide +kernel) (by decide +kernel))
theorem ml_La_72 : ML RL 72 yX9_pardon := Or.inl (WS_of (w := Cond.methodLink RL 72 yX9_pardon) (by decide +kernel) (by decide +kernel))
theorem ml_La_75 : ML RL 75 yX10_pardon := Or.inl (WS_of (w := Cond.methodLink RL 75 yX10_pardon) (by decide +kernel) (by decide +kernel))
theorem ml_La_76 : ML RL 76 yX9_lunch := Or.inl (WS_of (w := Cond.methodLink RL 76 yX9_lunch) (by decide +kernel) (by decide +kernel))
theorem ml_La_79 : ML RL 79 yX10_lunch := Or.inl (WS_of (w := Cond.methodLink RL 79 yX10_lunch) (by decide +kernel) (by decide +kernel))
theorem ml_La_80 : ML RL 80 yX9_teach := Or.inl (WS_of (w := Cond.methodLink RL 80 yX9_teach) (by decide +kernel) (by decide +kernel))
theorem ml_La_83 : ML RL 83 yX10_teach := Or.inl (WS_of (w := Cond.methodLink RL 83 yX10_teach) (by decide +kernel) (by decide +kernel))
theorem ml_La_84 : ML RL 84 yX9_give := Or.inl (WS_of (w := Cond.methodLink RL 84 yX9_give) (by decide +kernel) (by decide +kernel))
theorem ml_La_87 : ML RL 87 yX10_give := Or.inl (WS_of (w := Cond.methodLink RL 87 yX10_give) (by decide +kernel) (by decide +kernel))
theorem ml_La_90 : ML RL 90 yX9_years := Or.inl (WS_of (w := Cond.methodLink RL 90 yX9_years) (by decide +kernel) (by decide +kernel))
theorem ml_La_94 : ML RL 94 yX10_years := Or.inl (WS_of (w := Cond.methodLink RL 94 yX10_years) (by decide +kernel) (by decide +kernel))
theorem ml_La_95 : ML RL 95 yX9_undo := Or.inl (WS_of (w := Cond.methodLink RL 95 yX9_undo) (by decide +kernel) (by decide +kernel))
theorem ml_La_98 : ML RL 98 yX10_undo := Or.inl (WS_of (w := Cond.methodLink RL 98 yX10_undo) (by decide +kernel) (by decide +kernel))
theorem ml_La_99 : ML RL 99 yX9_log := Or.inl (WS_of (w := Cond.methodLink RL 99 yX9_log) (by decide +kernel) (by decide +kernel))
theorem ml_La_102 : ML RL 102 yX10_log := Or.inl (WS_of (w := Cond.methodLink RL 102 yX10_log) (by decide +kernel) (by decide +kernel))
theorem ml_La_103 : ML RL 103 yX9_step := Or.inl (WS_of (w := Cond.methodLink RL 103 yX9_step) (by decide +kernel) (by decide +kernel))
theorem ml_La_107 : ML RL 107 yX10_step := Or.inl (WS_of (w := Cond.methodLink RL 107 yX10_step) (by decide +kernel) (by decide +kernel))
theorem ml_La_108 : ML RL 108 yX9_run := Or.inl (WS_of (w := Cond.methodLink RL 108 yX9_run) (by decide +kernel) (by decide +kernel))
theorem ml_La_111 : ML RL 111 yX10_run := Or.inl (WS_of (w := Cond.methodLink RL 111 yX10_run) (by decide +kernel) (by decide +kernel))
theorem ml_La_112 : ML RL 112 yX9_perform := Or.inl (WS_of (w := Cond.methodLink RL 112 yX9_perform) (by decide +kernel) (by decide +kernel))
theorem ml_La_115 : ML RL 115 yX10_perform := Or.inl (WS_of (w := Cond.methodLink RL 115 yX10_perform) (by decide +kernel) (by decide +kernel))
theorem ml_La_116 : ML RL 116 yX9_owed := Or.inl (WS_of (w := Cond.methodLink RL 116 yX9_owed) (by decide +kernel) (by decide +kernel))
theorem ml_La_119 : ML RL 119 yX10_owed := Or.inl (WS_of (w := Cond.methodLink RL 119 yX10_owed) (by decide +kernel) (by decide +kernel))
theorem ml_La_120 : ML RL 120 yX9_tonight := Or.inl (WS_of (w := Cond.methodLink RL 120 yX9_tonight) (by decide +kernel) (by decide +kernel))
theorem ml_La_123 : ML RL 123 yX10_tonight := Or.inl (WS_of (w := Cond.methodLink RL 123 yX10_tonight) (by decide +kernel) (by decide +kernel))
theorem ml_La_124 : ML RL 124 yX9_served := Or.inl (WS_of (w := Cond.methodLink RL 124 yX9_served) (by decide +kernel) (by decide +kernel))
theorem ml_La_127 : ML RL 127 yX10_served := Or.inl (WS_of (w := Cond.methodLink RL 127 yX10_served) (by decide +kernel) (by decide +kernel))
theorem ml_La_128 : ML RL 128 yX9_sooner := Or.inl (WS_of (w := Cond.methodLink RL 128 yX9_sooner) (by decide +kernel) (by decide +kernel))
theorem ml_La_131 : ML RL 131 yX10_sooner := Or.inl (WS_of (w := Cond.methodLink RL 131 yX10_sooner) (by decide +kernel) (by decide +kernel))
theorem ml_La_132 : ML RL 132 yX9_matched := Or.inl (WS_of (w := Cond.methodLink RL 132 yX9_matched) (by decide +kernel) (by decide +kernel))
theorem ml_La_135 : ML RL 135 yX10_matched := Or.inl (WS_of (w := Cond.methodLink RL 135 yX10_matched) (by decide +kernel) (by decide +kernel))
theorem ml_La_136 : ML RL 136 yX9_firm := Or.inl (WS_of (w := Cond.methodLink RL 136 yX9_firm) (by decide +kernel) (by decide +kernel))
theorem ml_La_139 : ML RL 139 yX10_firm := Or.inl (WS_of (w := Cond.methodLink RL 139 yX10_firm) (by decide +kernel) (by decide +kernel))
theorem ml_La_140 : ML RL 140 yX9_given := Or.inl (WS_of (w := Cond.methodLink RL 140 yX9_given) (by decide +kernel) (by decide +kernel))
theorem ml_La_144 : ML RL 144 yX10_given := Or.inl (WS_of (w := Cond.methodLink RL 144 yX10_given) (by decide +kernel) (by decide +kernel))
theorem ml_La_145 : ML RL 145 yX9_graves := Or.inl (WS_of (w := Cond.methodLink RL 145 yX9_graves) (by decide +kernel) (by decide +kernel))
theorem ml_La_148 : ML RL 148 yX10_graves := Or.inl (WS_of (w := Cond.methodLink RL 148 yX10_graves) (by decide +kernel) (by decide +kernel))
theorem ml_La_149 : ML RL 149 yX9_ask := Or.inl (WS_of (w := Cond.methodLink RL 149 yX9_ask) (by decide +kernel) (by decide +kernel))
theorem ml_La_152 : ML RL 152 yX10_ask := Or.inl (WS_of (w := Cond.methodLink RL 152 yX10_ask) (by decide +kernel) (by decide +kernel))
theorem ml_La_153 : ML RL 153 yX9_crime := Or.inl (WS_of (w := Cond.methodLink RL 153 yX9_crime) (by decide +kernel) (by decide +kernel))
theorem ml_La_156 : ML RL 156 yX10_crime := Or.inl (WS_of (w := Cond.methodLink RL 156 yX10_crime) (by decide +kernel) (by decide +kernel))
theorem ml_La_157 : ML RL 157 yX9_game := Or.inl (WS_of (w := Cond.methodLink RL 157 yX9_game) (by decide +kernel) (by decide +kernel))
theorem ml_La_160 : ML RL 160 yX10_game := Or.inl (WS_of (w := Cond.methodLink RL 160 yX10_game) (by decide +kernel) (by decide +kernel))
theorem ml_La_161 : ML RL 161 yX9_rests := Or.inl (WS_of (w := Cond.methodLink RL 161 yX9_rests) (by decide +kernel) (by decide +kernel))
theorem ml_La_164 : ML RL 164 yX10_rests := Or.inl (WS_of (w := Cond.methodLink RL 164 yX10_rests) (by decide +kernel) (by decide +kernel))
theorem ml_La_165 : ML RL 165 yX9_odds := Or.inl (WS_of (w := Cond.methodLink RL 165 yX9_odds) (by decide +kernel) (by decide +kernel))
theorem ml_La_168 : ML RL 168 yX10_odds := Or.inl (WS_of (w := Cond.methodLink RL 168 yX10_odds) (by decide +kernel) (by decide +kernel))
theorem ml_La_169 : ML RL 169 yX9_all := Or.inl (WS_of (w := Cond.methodLink RL 169 yX9_all) (by decide +kernel) (by decide +kernel))
theorem ml_La_172 : ML RL 172 yX10_all := Or.inl (WS_of (w := Cond.methodLink RL 172 yX10_all) (by decide +kernel) (by decide +kernel))
theorem ml_La_173 : ML RL 173 yX9_circle := Or.inl (WS_of (w := Cond.methodLink RL 173 yX9_circle) (by decide +kernel) (by decide +kernel))
theorem ml_La_176 : ML RL 176 yX10_circle := Or.inl (WS_of (w := Cond.methodLink RL 176 yX10_circle) (by decide +kernel) (by decide +kernel))
theorem ml_La_177 : ML RL 177 yX9_image := Or.inl (WS_of (w := Cond.methodLink RL 177 yX9_image) (by decide +kernel) (by decide +kernel))
theorem ml_La_180 : ML RL 180 yX10_image := Or.inl (WS_of (w := Cond.methodLink RL 180 yX10_image) (by decide +kernel) (by decide +kernel))
theorem ml_La_181 : ML RL 181 yX9_back := Or.inl (WS_of (w := Cond.methodLink RL 181 yX9_back) (by decide +kernel) (by decide +kernel))
theorem ml_La_184 : ML RL 184 yX10_back := Or.inl (WS_of (w := Cond.methodLink RL 184 yX10_back) (by decide +kernel) (by decide +kernel))
theorem ml_La_185 : ML RL 185 yX9_count := Or.inl (WS_of (w := Cond.methodLink RL 185 yX9_count) (by decide +kernel) (by decide +kernel))
theorem ml_La_188 : ML RL 188 yX10_count := Or.inl (WS_of (w := Cond.methodLink RL 188 yX10_count) (by decide +kernel) (by decide +kernel))
theorem w_La_88 : Cond.constantLong RL 88 (Int64.ofInt 4294967295) ∈ WS := WS_of (by decide +kernel) (by decide +kernel)
def ir (x : Int) : Prop := -2147483648 ≤ x ∧ x < 2147483648
def lr (x : Int) : Prop := -9223372036854775808 ≤ x ∧ x < 9223372036854775808
theorem ir_toInt (x : Int32) : ir x.toInt := ⟨Int32.le_toInt x, Int32.toInt_lt x⟩
theorem lr_toInt (x : Int64) : lr x.toInt := ⟨Int64.le_toInt x, Int64.toInt_lt x⟩
def S_feed (I : Hp → Prop) : Prop := ∀ (h : Hp) (a1 a2 a3 a4 a5 : Int), I h → ir a1 → ir a2 → ir a3 → ir a4 → ir a5 → ∃ (r : Int) (h1 : Hp) (r2 : Int) (h2 : Hp), Cc_feed h 20 a1 a2 a3 a4 a5 = some (r, h1) ∧ Md_feed h1 2000 a1 a2 a3 a4 a5 = some (r2, h2) ∧ w32 r = w32 r2 ∧ I h2
def S_end (I : Hp → Prop) : Prop := ∀ (h : Hp) (a1 : Int), I h → ir a1 → ∃ (r : Int) (h1 : Hp) (r2 : Int) (h2 : Hp), Cc_end h 20 a1 = some (r, h1) ∧ Md_end h1 2000 a1 = some (r2, h2) ∧ w32 r = w32 r2 ∧ I h2
def S_fault (I : Hp → Prop) : Prop := ∀ (h : Hp) (a1 : Int), I h → ir a1 → ∃ (r : Int) (h1 : Hp) (r2 : Int) (h2 : Hp), Cc_fault h 20 a1 = some (r, h1) ∧ Md_fault h1 2000 a1 = some (r2, h2) ∧ w32 r = w32 r2 ∧ I h2
def S_text (I : Hp → Prop) : Prop := ∀ (h : Hp) (a1 : Int), I h → ir a1 → ∃ (r : Int) (h1 : Hp) (r2 : Int) (h2 : Hp), Cc_text h 20 a1 = some (r, h1) ∧ Md_text h1 2000 a1 = some (r2, h2) ∧ w32 r = w32 r2 ∧ I h2
def S_wrong (I : Hp → Prop) : Prop := ∀ (h : Hp) (a1 a2 : Int), I h → ir a1 → ir a2 → ∃ (r : Int) (h1 : Hp) (r2 : Int) (h2 : Hp), Cc_wrong h 20 a1 a2 = some (r, h1) ∧ Md_wrong h1 2000 a1 a2 = some (r2, h2) ∧ w32 r = w32 r2 ∧ I h2
def S_law (I : Hp → Prop) : Prop := ∀ (h : Hp) (a1 : Int), I h → ir a1 → ∃ (r : Int) (h1 : Hp) (r2 : Int) (h2 : Hp), Cc_law h 20 a1 = some (r, h1) ∧ Md_law h1 2000 a1 = some (r2, h2) ∧ w32 r = w32 r2 ∧ I h2
def S_sin (I : Hp → Prop) : Prop := ∀ (h : Hp) (a1 : Int), I h → ir a1 → ∃ (r : Int) (h1 : Hp) (r2 : Int) (h2 : Hp), Cc_sin h 20 a1 = some (r, h1) ∧ Md_sin h1 2000 a1 = some (r2, h2) ∧ w32 r = w32 r2 ∧ I h2
def S_sentence (I : Hp → Prop) : Prop := ∀ (h : Hp) (a1 : Int), I h → ir a1 → ∃ (r : Int) (h1 : Hp) (r2 : Int) (h2 : Hp), Cc_sentence h 20 a1 = some (r, h1) ∧ Md_sentence h1 2000 a1 = some (r2, h2) ∧ w32 r = w32 r2 ∧ I h2
def S_evening (I : Hp → Prop) : Prop := ∀ (h : Hp), I h → ∃ (r : Int) (h1 : Hp) (r2 : Int) (h2 : Hp), Cc_evening h 20 = some (r, h1) ∧ Md_evening h1 2000 = some (r2, h2) ∧ w32 r = w32 r2 ∧ I h2
def S_appeal (I : Hp → Prop) : Prop := ∀ (h : Hp) (a1 a2 : Int), I h → ir a1 → ir a2 → ∃ (r : Int) (h1 : Hp) (r2 : Int) (h2 : Hp), Cc_appeal h 20 a1 a2 = some (r, h1) ∧ Md_appeal h1 2000 a1 a2 = some (r2, h2) ∧ w32 r = w32 r2 ∧ I h2
def S_pardon (I : Hp → Prop) : Prop := ∀ (h : Hp) (a1 a2 : Int), I h → ir a1 → ir a2 → ∃ (r : Int) (h1 : Hp) (r2 : Int) (h2 : Hp), Cc_pardon h 20 a1 a2 = some (r, h1) ∧ Md_pardon h1 2000 a1 a2 = some (r2, h2) ∧ w32 r = w32 r2 ∧ I h2
def S_lunch (I : Hp → Prop) : Prop := ∀ (h : Hp) (a1 a2 : Int), I h → ir a1 → ir a2 → ∃ (r : Int) (h1 : Hp) (r2 : Int) (h2 : Hp), Cc_lunch h 20 a1 a2 = some (r, h1) ∧ Md_lunch h1 2000 a1 a2 = some (r2, h2) ∧ w32 r = w32 r2 ∧ I h2
def S_teach (I : Hp → Prop) : Prop := ∀ (h : Hp) (a1 : Int), I h → ir a1 → ∃ (r : Int) (h1 : Hp) (r2 : Int) (h2 : Hp), Cc_teach h 20 a1 = some (r, h1) ∧ Md_teach h1 2000 a1 = some (r2, h2) ∧ w32 r = w32 r2 ∧ I h2
def S_give (I : Hp → Prop) : Prop := ∀ (h : Hp) (a1 : Int), I h → ir a1 → ∃ (r : Int) (h1 : Hp) (r2 : Int) (h2 : Hp), Cc_give h 20 a1 = some (r, h1) ∧ Md_give h1 2000 a1 = some (r2, h2) ∧ w32 r = w32 r2 ∧ I h2
def S_years (I : Hp → Prop) : Prop := ∀ (h : Hp) (a1 a2 : Int), I h → ir a1 → lr a2 → ∃ (r : Int) (h1 : Hp) (r2 : Int) (h2 : Hp), Cc_years h 20 a1 a2 = some (r, h1) ∧ Md_years h1 2000 a1 a2 = some (r2, h2) ∧ w32 r = w32 r2 ∧ I h2
def S_undo (I : Hp → Prop) : Prop := ∀ (h : Hp), I h → ∃ (r : Int) (h1 : Hp) (r2 : Int) (h2 : Hp), Cc_undo h 20 = some (r, h1) ∧ Md_undo h1 2000 = some (r2, h2) ∧ w32 r = w32 r2 ∧ I h2
def S_log (I : Hp → Prop) : Prop := ∀ (h : Hp) (a1 a2 : Int), I h → ir a1 → ir a2 → ∃ (r : Int) (h1 : Hp) (r2 : Int) (h2 : Hp), Cc_log h 20 a1 a2 = some (r, h1) ∧ Md_log h1 2000 a1 a2 = some (r2, h2) ∧ w32 r = w32 r2 ∧ I h2
def S_step (I : Hp → Prop) : Prop := ∀ (h : Hp) (a1 a2 a3 : Int), I h → ir a1 → ir a2 → ir a3 → ∃ (r : Int) (h1 : Hp) (r2 : Int) (h2 : Hp), Cc_step h 20 a1 a2 a3 = some (r, h1) ∧ Md_step h1 2000 a1 a2 a3 = some (r2, h2) ∧ w32 r = w32 r2 ∧ I h2
def S_run (I : Hp → Prop) : Prop := ∀ (h : Hp) (a1 a2 : Int), I h → ir a1 → ir a2 → ∃ (r : Int) (h1 : Hp) (r2 : Int) (h2 : Hp), Cc_run h 20 a1 a2 = some (r, h1) ∧ Md_run h1 2000 a1 a2 = some (r2, h2) ∧ w32 r = w32 r2 ∧ I h2
def S_perform (I : Hp → Prop) : Prop := ∀ (h : Hp) (a1 : Int), I h → ir a1 → ∃ (r : Int) (h1 : Hp) (r2 : Int) (h2 : Hp), Cc_perform h 20 a1 = some (r, h1) ∧ Md_perform h1 2000 a1 = some (r2, h2) ∧ w32 r = w32 r2 ∧ I h2
def S_owed (I : Hp → Prop) : Prop := ∀ (h : Hp) (a1 a2 : Int), I h → ir a1 → ir a2 → ∃ (r : Int) (h1 : Hp) (r2 : Int) (h2 : Hp), Cc_owed h 20 a1 a2 = some (r, h1) ∧ Md_owed h1 2000 a1 a2 = some (r2, h2) ∧ w32 r = w32 r2 ∧ I h2
def S_tonight (I : Hp → Prop) : Prop := ∀ (h : Hp), I h → ∃ (r : Int) (h1 : Hp) (r2 : Int) (h2 : Hp), Cc_tonight h 20 = some (r, h1) ∧ Md_tonight h1 2000 = some (r2, h2) ∧ w32 r = w32 r2 ∧ I h2
def S_served (I : Hp → Prop) : Prop := ∀ (h : Hp), I h → ∃ (r : Int) (h1 : Hp) (r2 : Int) (h2 : Hp), Cc_served h 20 = some (r, h1) ∧ Md_served h1 2000 = some (r2, h2) ∧ w32 r = w32 r2 ∧ I h2
def S_sooner (I : Hp → Prop) : Prop := ∀ (h : Hp), I h → ∃ (r : Int) (h1 : Hp) (r2 : Int) (h2 : Hp), Cc_sooner h 20 = some (r, h1) ∧ Md_sooner h1 2000 = some (r2, h2) ∧ w32 r = w32 r2 ∧ I h2
def S_matched (I : Hp → Prop) : Prop := ∀ (h : Hp) (a1 : Int), I h → ir a1 → ∃ (r : Int) (h1 : Hp) (r2 : Int) (h2 : Hp), Cc_matched h 20 a1 = some (r, h1) ∧ Md_matched h1 2000 a1 = some (r2, h2) ∧ w32 r = w32 r2 ∧ I h2
def S_firm (I : Hp → Prop) : Prop := ∀ (h : Hp) (a1 : Int), I h → ir a1 → ∃ (r : Int) (h1 : Hp) (r2 : Int) (h2 : Hp), Cc_firm h 20 a1 = some (r, h1) ∧ Md_firm h1 2000 a1 = some (r2, h2) ∧ w32 r = w32 r2 ∧ I h2
def S_given (I : Hp → Prop) : Prop := ∀ (h : Hp) (a1 a2 a3 : Int), I h → ir a1 → ir a2 → (a3 = 0 ∨ a3 = 1) → ∃ (r : Int) (h1 : Hp) (r2 : Int) (h2 : Hp), Cc_given h 20 a1 a2 a3 = some (r, h1) ∧ Md_given h1 2000 a1 a2 a3 = some (r2, h2) ∧ w32 r = w32 r2 ∧ I h2
def S_graves (I : Hp → Prop) : Prop := ∀ (h : Hp) (a1 a2 : Int), I h → ir a1 → ir a2 → ∃ (r : Int) (h1 : Hp) (r2 : Int) (h2 : Hp), Cc_graves h 20 a1 a2 = some (r, h1) ∧ Md_graves h1 2000 a1 a2 = some (r2, h2) ∧ w32 r = w32 r2 ∧ I h2
def S_ask (I : Hp → Prop) : Prop := ∀ (h : Hp) (a1 : Int), I h → ir a1 → ∃ (r : Int) (h1 : Hp) (r2 : Int) (h2 : Hp), Cc_ask h 20 a1 = some (r, h1) ∧ Md_ask h1 2000 a1 = some (r2, h2) ∧ w32 r = w32 r2 ∧ I h2
def S_crime (I : Hp → Prop) : Prop := ∀ (h : Hp) (a1 a2 a3 : Int), I h → ir a1 → ir a2 → ir a3 → ∃ (r : Int) (h1 : Hp) (r2 : Int) (h2 : Hp), Cc_crime h 20 a1 a2 a3 = some (r, h1) ∧ Md_crime h1 2000 a1 a2 a3 = some (r2, h2) ∧ w32 r = w32 r2 ∧ I h2
def S_game (I : Hp → Prop) : Prop := ∀ (h : Hp) (a1 a2 a3 a4 a5 : Int), I h → ir a1 → ir a2 → ir a3 → ir a4 → ir a5 → ∃ (r : Int) (h1 : Hp) (r2 : Int) (h2 : Hp), Cc_game h 20 a1 a2 a3 a4 a5 = some (r, h1) ∧ Md_game h1 2000 a1 a2 a3 a4 a5 = some (r2, h2) ∧ w32 r = w32 r2 ∧ I h2
def S_rests (I : Hp → Prop) : Prop := ∀ (h : Hp) (a1 a2 a3 : Int), I h → ir a1 → ir a2 → ir a3 → ∃ (r : Int) (h1 : Hp) (r2 : Int) (h2 : Hp), Cc_rests h 20 a1 a2 a3 = some (r, h1) ∧ Md_rests h1 2000 a1 a2 a3 = some (r2, h2) ∧ w32 r = w32 r2 ∧ I h2
def S_odds (I : Hp → Prop) : Prop := ∀ (h : Hp) (a1 a2 a3 : Int), I h → ir a1 → ir a2 → ir a3 → ∃ (r : Int) (h1 : Hp) (r2 : Int) (h2 : Hp), Cc_odds h 20 a1 a2 a3 = some (r, h1) ∧ Md_odds h1 2000 a1 a2 a3 = some (r2, h2) ∧ w32 r = w32 r2 ∧ I h2
def S_all (I : Hp → Prop) : Prop := ∀ (h : Hp) (a1 : Int), I h → ir a1 → ∃ (r : Int) (h1 : Hp) (r2 : Int) (h2 : Hp), Cc_all h 20 a1 = some (r, h1) ∧ Md_all h1 2000 a1 = some (r2, h2) ∧ w32 r = w32 r2 ∧ I h2
def S_circle (I : Hp → Prop) : Prop := ∀ (h : Hp) (a1 a2 : Int), I h → ir a1 → ir a2 → ∃ (r : Int) (h1 : Hp) (r2 : Int) (h2 : Hp), Cc_circle h 20 a1 a2 = some (r, h1) ∧ Md_circle h1 2000 a1 a2 = some (r2, h2) ∧ w32 r = w32 r2 ∧ I h2
def S_image (I : Hp → Prop) : Prop := ∀ (h : Hp), I h → ∃ (r : Int) (h1 : Hp) (r2 : Int) (h2 : Hp), Cc_image h 20 = some (r, h1) ∧ Md_image h1 2000 = some (r2, h2) ∧ w32 r = w32 r2 ∧ I h2
def S_back (I : Hp → Prop) : Prop := ∀ (h : Hp), I h → ∃ (r : Int) (h1 : Hp) (r2 : Int) (h2 : Hp), Cc_back h 20 = some (r, h1) ∧ Md_back h1 2000 = some (r2, h2) ∧ w32 r = w32 r2 ∧ I h2
def S_count (I : Hp → Prop) : Prop := ∀ (h : Hp) (a1 : Int), I h → ir a1 → ∃ (r : Int) (h1 : Hp) (r2 : Int) (h2 : Hp), Cc_count h 20 a1 = some (r, h1) ∧ Md_count h1 2000 a1 = some (r2, h2) ∧ w32 r = w32 r2 ∧ I h2
def S_person (I : Hp → Prop) : Prop := ∀ (h : Hp) (a1 a2 : Int), I h → ir a1 → ir a2 →
  (∃ (r b : Int) (h1 h2 : Hp) (t : Int) (h3 : Hp), Cc_person h 20 a1 a2 = some (r, h1) ∧ Md_person (up h1 80 0 (w32 r)) 2000 a1 a2 = some (b, h2) ∧ Md_thrown h2 2000 = some (t, h3) ∧ w32 t = 0 ∧ h3 80 0 = w32 b ∧ I h3) ∨
  (∃ (q b : Int) (h2 : Hp) (t : Int) (h3 : Hp), Cc_isPerson h 20 a1 = some (q, h) ∧ (w32 q = 0 ∨ w32 a2 < 0 ∨ 3 < w32 a2) ∧ Md_person h 2000 a1 a2 = some (b, h2) ∧ Md_thrown h2 2000 = some (t, h3) ∧ w32 t = 1 ∧ I h3)
def S_all39 (I : Hp → Prop) : Prop := S_feed I ∧ S_end I ∧ S_fault I ∧ S_text I ∧ S_person I ∧ S_wrong I ∧ S_law I ∧ S_sin I ∧ S_sentence I ∧ S_evening I ∧ S_appeal I ∧ S_pardon I ∧ S_lunch I ∧ S_teach I ∧ S_give I ∧ S_years I ∧ S_undo I ∧ S_log I ∧ S_step I ∧ S_run I ∧ S_perform I ∧ S_owed I ∧ S_tonight I ∧ S_served I ∧ S_sooner I ∧ S_matched I ∧ S_firm I ∧ S_given I ∧ S_graves I ∧ S_ask I ∧ S_crime I ∧ S_game I ∧ S_rests I ∧ S_odds I ∧ S_all I ∧ S_circle I ∧ S_image I ∧ S_back I ∧ S_count I
def sx (ω : Wd) (i : Int) : Int := (ω.2.2.2.2.2.2.2 (w32 i).toNat).toInt
def lvL (ω : Wd) (i : Int) : List (Option Value) := [some (.ref ω.2.2.2.2.2.1), some (aV ω 20), some (aV ω 2000), some (aV ω 80), some (iV i), none, none]
abbrev EvL (ω : Wd) (PQ : PQt) (cl sl : Nat) (h : Hp) (pc : Nat) (i : Int) (st : List Value) : Prop := Ev ω N_La_law 1390 PQ 601024 7293034 cl sl SH PT (zB ω) h pc (lvL ω i) st
section R
variable {ω : Wd} {M : Mt} {d mc ms cl sl : Nat} {PQ : PQt} {z : Nat → Prop} {h : Hp} {pc : Nat} {lv : List (Option Value)} {st : List Value}
theorem evC_I {idx d' n c9 : Nat} {a : Int} {N : Mt} {As rest st0 : List Value} {r : Int} {h1 : Hp} (hC : CtB ω N d' (aV ω a :: As) z h (some (iV r)) h1) (hd : decode M.2.1 pc = .ok (.invokevirtual idx, 3)) (hM : MT N n) (hst : Cond.instanceMethod N.1 ∈ WS ∧ Cond.selects N.1.cls N.1 N.1 ∈ WS) (hL : ML M.1.cls idx N.1) (hs : (SH a).1 = c9) (hc : c9 < 100) (hy : ∃ q, vwCl[c9]? = some q ∧ q.1 = N.1.cls) (hd' : d' + 1 ≤ d) (hn : As.length = n) (h0 : st0 = As.reverse ++ aV ω a :: rest) (hw : (rest.map fun v => v.category).sum ≤ 8) (hcl : cl ≤ mc) (hsl : sl ≤ ms)
    (k : Ev ω M d PQ mc ms cl sl SH PT z h1 (pc + 3) lv (iV r :: rest)) : Ev ω M d PQ mc ms cl sl SH PT z h pc lv st0 := by
  subst h0
  refine ev_callV hC hd hM hst hL hc hs hy hd' hn hw hcl hsl (fun v sh' pt' z' h' hq => ?_)
  obtain ⟨rfl, rfl, rfl, rfl, rfl⟩ := hq
  exact k
theorem evP_icmp_eq {x y : Int} {off : Int} {tgt : Nat} {sh : Shp} {pt : Ptr} (hd : decode M.2.1 pc = .ok (.if_icmp .eq off, 3)) (ht : (pc : Int) + off = (tgt : Int)) (kA : w32 x = w32 y → Ev ω M d PQ mc ms cl sl sh pt z h tgt lv st) (kB : ¬ w32 x = w32 y → Ev ω M d PQ mc ms cl sl sh pt z h (pc + 3) lv st) : Ev ω M d PQ mc ms cl sl sh pt z h pc lv (iV y :: iV x :: st) :=
  ev_icmp_eq (A := some true) (B := some false) hd ht rfl rfl (fun e => kA (opt_if e)) (fun e => kB (opt_if' e))
theorem evP_icmp_gt {x y : Int} {off : Int} {tgt : Nat} {sh : Shp} {pt : Ptr} (hd : decode M.2.1 pc = .ok (.if_icmp .gt off, 3)) (ht : (pc : Int) + off = (tgt : Int)) (kA : w32 y < w32 x → Ev ω M d PQ mc ms cl sl sh pt z h tgt lv st) (kB : ¬ w32 y < w32 x → Ev ω M d PQ mc ms cl sl sh pt z h (pc + 3) lv st) : Ev ω M d PQ mc ms cl sl sh pt z h pc lv (iV y :: iV x :: st) :=
  ev_icmp_gt (A := some true) (B := some false) hd ht rfl rfl (fun e => kA (opt_if e)) (fun e => kB (opt_if' e))
theorem evP_if_ne {x : Int} {off : Int} {tgt : Nat} {sh : Shp} {pt : Ptr} (hd : decode M.2.1 pc = .ok (.ifCond .ne off, 3)) (ht : (pc : Int) + off = (tgt : Int)) (kA : w32 x = 0 → Ev ω M d PQ mc ms cl sl sh pt z h (pc + 3) lv st) (kB : ¬ w32 x = 0 → Ev ω M d PQ mc ms cl sl sh pt z h tgt lv st) : Ev ω M d PQ mc ms cl sl sh pt z h pc lv (iV x :: st) :=
  ev_if_ne (A := some true) (B := some false) hd ht rfl rfl (fun e => kA (opt_if e)) (fun e => kB (opt_if' e))
theorem ev_tswIn {sh : Shp} {pt : Ptr} {dflt lo hi : Int} {offs : Array Int} {len : Nat} {x y off : Int} {tgt : Nat} (hd : decode M.2.1 pc = .ok (.tableswitch dflt lo hi offs, len)) (hx : w32 x = y) (h1 : lo ≤ y) (h2 : y ≤ hi) (ho : offs[(y - lo).toNat]? = some off) (ht : (pc : Int) + off = (tgt : Int)) (k : Ev ω M d PQ mc ms cl sl sh pt z h tgt lv st) : Ev ω M d PQ mc ms cl sl sh pt z h pc lv (iV x :: st) := by
  intro p l e R s m args below meth c H locs ls Y
  have hz : (Int32.ofInt x).toInt = y := by rw [w32_toInt, hx]
  exact lv_tableIn Y.1.1 Y.1.2.1 hd (by rw [hz]; omega) (by rw [hz]; omega) (by rw [hz]; exact ho) ht (k p l e R s m args below meth c H locs ls Y)
theorem ev_tswOut {sh : Shp} {pt : Ptr} {dflt lo hi : Int} {offs : Array Int} {len : Nat} {x : Int} {tgt : Nat} (hd : decode M.2.1 pc = .ok (.tableswitch dflt lo hi offs, len)) (hx : w32 x < lo ∨ hi < w32 x) (ht : (pc : Int) + dflt = (tgt : Int)) (k : Ev ω M d PQ mc ms cl sl sh pt z h tgt lv st) : Ev ω M d PQ mc ms cl sl sh pt z h pc lv (iV x :: st) := by
  intro p l e R s m args below meth c H locs ls Y
  exact lv_tableOut Y.1.1 Y.1.2.1 hd (by rw [w32_toInt]; exact hx) ht (k p l e R s m args below meth c H locs ls Y)
/-- the script is read -/
theorem ev_sld {sh : Shp} {pt : Ptr} {i : Int} (hd : decode M.2.1 pc = .ok (.iaload, 1)) (h0 : 0 ≤ w32 i) (h1 : w32 i < (ω.2.2.2.2.2.2.1 : Int)) (k : Ev ω M d PQ mc ms cl sl sh pt z h (pc + 1) lv (iV (sx ω i) :: st)) : Ev ω M d PQ mc ms cl sl sh pt z h pc lv (iV i :: .ref ω.2.2.2.2.2.1 :: st) := by
  intro p l e R s m args below meth c H locs ls Y
  obtain ⟨C, rm9, hV, hH, hl, hS⟩ := id Y
  have hX := hH.2.2.2.2.2.2.2.2.2.1
  have hb := hH.2.2.2.2.2.2.2.2.2.2.1
  have hlt : ω.2.2.2.2.2.1 < H.size := by
    obtain ⟨scr, g, -⟩ := hX
    exact (Array.getElem?_eq_some_iff.mp g).1
  have K := va_sld (below := below) (p := p) (l := l) (e := e) (R := R) (cells := cl) (slots := sl) (Q := PQ below args s) (meth := meth) (ls := ls) (rest := st) (m := m) (args := args) (c := c) (cc := M.2.1) (A := fr ω) (H0 := H) (H := H) (locs := locs) C.1 C.2.1 hX hlt (Nat.not_le.mpr hb) ⟨Nat.le_refl _, fun _ _ _ => rfl, hS.2.2⟩ (ix_ok h0 h1 (Nat.le_refl _)) hd
  refine K ?_
  have e1 : Value.int (ω.2.2.2.2.2.2.2 (Int32.ofInt i).toNatClampNeg) = iV (sx ω i) := by rw [iv_clamp]; exact (iV_toInt _).symm
  rw [e1]
  exact k p l e R s m args below meth c H locs ls Y
theorem ev_slen {sh : Shp} {pt : Ptr} (hd : decode M.2.1 pc = .ok (.arraylength, 1)) (k : Ev ω M d PQ mc ms cl sl sh pt z h (pc + 1) lv (iV (ω.2.2.2.2.2.2.1 : Int) :: st)) : Ev ω M d PQ mc ms cl sl sh pt z h pc lv (.ref ω.2.2.2.2.2.1 :: st) := by
  intro p l e R s m args below meth c H locs ls Y
  obtain ⟨C, rm9, hV, hH, hl, hS⟩ := id Y
  have hX := hH.2.2.2.2.2.2.2.2.2.1
  have hb := hH.2.2.2.2.2.2.2.2.2.2.1
  have hlt : ω.2.2.2.2.2.1 < H.size := by
    obtain ⟨scr, g, -⟩ := hX
    exact (Array.getElem?_eq_some_iff.mp g).1
  exact va_slen (A := fr ω) (H0 := H) C.1 C.2.1 hX hlt (Nat.not_le.mpr hb) ⟨Nat.le_refl _, fun _ _ _ => rfl, hS.2.2⟩ hd (k p l e R s m args below meth c H locs ls Y)
end R
/-- one int of the script, six bytes of code -/
theorem evL_arg {ω : Wd} {PQ : PQt} {cl sl : Nat} {h : Hp} {pc : Nat} {i n : Int} {lv : List (Option Value)} {st : List Value} (hl0 : lv[0]? = some (some (.ref ω.2.2.2.2.2.1))) (hl4 : lv[4]? = some (some (iV i))) (hB : 0 ≤ i ∧ i + 6 ≤ (ω.2.2.2.2.2.2.1 : Int) ∧ ω.2.2.2.2.2.2.1 ≤ 3072) (hn : 0 ≤ n ∧ n < 6) (d0 : decode cL_law pc = .ok (.aload_n 0, 1)) (d1 : decode cL_law (pc + 1) = .ok (.iload 4, 2)) (d2 : decode cL_law (pc + 3) = .ok (.iconst n, 1)) (d3 : decode cL_law (pc + 4) = .ok (.iadd, 1)) (d4 : decode cL_law (pc + 5) = .ok (.iaload, 1)) (k : Ev ω N_La_law 1390 PQ 601024 7293034 cl sl SH PT (zB ω) h (pc + 6) lv (iV (sx ω (i + n)) :: st)) : Ev ω N_La_law 1390 PQ 601024 7293034 cl sl SH PT (zB ω) h pc lv st := by
  have hw : w32 (i + n) = i + n := w32_id (by omega) (by omega)
  refine ev_aload_nG (pc := pc) (i := 0) (isA_ref _) d0 rfl hl0 ?_
  refine ev_iload (pc := pc + 1) (i := 4) d1 hl4 ?_
  refine ev_iconst (pc := pc + 3) d2 ?_
  refine ev_iadd (pc := pc + 4) d3 ?_
  exact ev_sld (pc := pc + 5) d4 (by omega) (by omega) k
def jx (ω : Wd) (i : Int) : Int := lor ((Int64.ofInt (w32 (sx ω (i + 2))) <<< ((Int32.ofInt 32).toInt64 &&& 63)).toInt) (land (w32 (sx ω (i + 3))) 4294967295)
def zx (ω : Wd) (i : Int) : Int := if w32 (sx ω (i + 3)) = 0 then 0 else 1
theorem zx_01 (ω : Wd) (i : Int) : zx ω i = 0 ∨ zx ω i = 1 := by
  unfold zx
  split
  · exact Or.inl rfl
  · exact Or.inr rfl
theorem SH2000 : (SH 2000).1 = 10 := by decide +kernel
abbrev hBt (ω : Wd) (i : Int) : Prop := 0 ≤ i ∧ i + 6 ≤ (ω.2.2.2.2.2.2.1 : Int) ∧ ω.2.2.2.2.2.2.1 ≤ 3072
theorem evB_z {ω : Wd} {PQ : PQt} {cl sl : Nat} {h : Hp} {pc : Nat} {i : Int} {o1 o2 : Int} {st : List Value} (d0 : decode cL_law pc = .ok (.ifCond .eq o1, 3)) (d1 : decode cL_law (pc + 3) = .ok (.iconst 1, 1)) (d2 : decode cL_law (pc + 4) = .ok (.goto o2, 3)) (d3 : decode cL_law (pc + 7) = .ok (.iconst 0, 1)) (ht1 : (pc : Int) + o1 = ((pc + 7 : Nat) : Int)) (ht2 : ((pc + 4 : Nat) : Int) + o2 = ((pc + 8 : Nat) : Int)) (k : EvL ω PQ cl sl h (pc + 8) i (iV (zx ω i) :: st)) : EvL ω PQ cl sl h pc i (iV (sx ω (i + 3)) :: st) := by
  refine evP_if_eq (pc := pc) (tgt := pc + 7) d0 ht1 (fun h0 => ?_) (fun h0 => ?_)
  · refine ev_iconst (pc := pc + 7) d3 ?_
    have e : zx ω i = 0 := if_pos h0
    rw [e] at k
    exact k
  · refine ev_iconst (pc := pc + 3) d1 ?_
    refine ev_goto (pc := pc + 4) (tgt := pc + 8) d2 ht2 ?_
    have e : zx ω i = 1 := if_neg h0
    rw [e] at k
    exact k
set_option maxHeartbeats 1000000 in
theorem L_feed {I : Hp → Prop} {ω : Wd} {PQ : PQt} {cl sl : Nat} {h : Hp} {i : Int} (hB : hBt ω i) (hcl : cl ≤ 601024) (hsl : sl ≤ 7293034) (hS : S_feed I) (hI : I h) (k : ∀ h2 : Hp, I h2 → EvL ω PQ cl sl h2 1530 i []) : EvL ω PQ cl sl h 212 i [] := by
  obtain ⟨r, h1, r2, h2, c1, c2, c3, c4⟩ := hS h (sx ω (i + 1)) (sx ω (i + 2)) (sx ω (i + 3)) (sx ω (i + 4)) (sx ω (i + 5)) hI (ir_toInt _) (ir_toInt _) (ir_toInt _) (ir_toInt _) (ir_toInt _)
  refine ev_aload_n (pc := 212) (i := 1) dL_law_212 rfl rfl ?_
  refine evL_arg (pc := 213) (n := 1) rfl rfl hB (by decide) dL_law_213 dL_law_214 dL_law_216 dL_law_217 dL_law_218 ?_
  refine evL_arg (pc := 219) (n := 2) rfl rfl hB (by decide) dL_law_219 dL_law_220 dL_law_222 dL_law_223 dL_law_224 ?_
  refine evL_arg (pc := 225) (n := 3) rfl rfl hB (by decide) dL_law_225 dL_law_226 dL_law_228 dL_law_229 dL_law_230 ?_
  refine evL_arg (pc := 231) (n := 4) rfl rfl hB (by decide) dL_law_231 dL_law_232 dL_law_234 dL_law_235 dL_law_236 ?_
  refine evL_arg (pc := 237) (n := 5) rfl rfl hB (by decide) dL_law_237 dL_law_238 dL_law_240 dL_law_241 dL_law_242 ?_
  refine evC_I (pc := 243) (As := [iV (sx ω (i + 1)), iV (sx ω (i + 2)), iV (sx ω (i + 3)), iV (sx ω (i + 4)), iV (sx ω (i + 5))]) (rest := []) (M_Cc_feed c1) dL_law_243 mt_Cc_feed st_Cc_feed ml_La_19 SH20 (by decide) ⟨_, rfl, rfl⟩ (Nat.le_of_ble_eq_true rfl) rfl rfl (Nat.le_trans sm_z (by decide)) hcl hsl ?_
  refine ev_aload_n (pc := 246) (i := 2) dL_law_246 rfl rfl ?_
  refine evL_arg (pc := 247) (n := 1) rfl rfl hB (by decide) dL_law_247 dL_law_248 dL_law_250 dL_law_251 dL_law_252 ?_
  refine evL_arg (pc := 253) (n := 2) rfl rfl hB (by decide) dL_law_253 dL_law_254 dL_law_256 dL_law_257 dL_law_258 ?_
  refine evL_arg (pc := 259) (n := 3) rfl rfl hB (by decide) dL_law_259 dL_law_260 dL_law_262 dL_law_263 dL_law_264 ?_
  refine evL_arg (pc := 265) (n := 4) rfl rfl hB (by decide) dL_law_265 dL_law_266 dL_law_268 dL_law_269 dL_law_270 ?_
  refine evL_arg (pc := 271) (n := 5) rfl rfl hB (by decide) dL_law_271 dL_law_272 dL_law_274 dL_law_275 dL_law_276 ?_
  refine evC_I (pc := 277) (As := [iV (sx ω (i + 1)), iV (sx ω (i + 2)), iV (sx ω (i + 3)), iV (sx ω (i + 4)), iV (sx ω (i + 5))]) (rest := [iV r]) (M_Md_feed c2) dL_law_277 mt_Md_feed st_Md_feed ml_La_23 SH2000 (by decide) ⟨_, rfl, rfl⟩ (Nat.le_of_ble_eq_true rfl) rfl rfl (Nat.le_trans (sm_1 (cat_iV _) sm_z) (by decide)) hcl hsl ?_
  exact evP_icmp_eq (pc := 280) (tgt := 1530) dL_law_280 rfl (fun _ => k h2 c4) (fun g => absurd c3 g)
set_option maxHeartbeats 1000000 in
theorem L_end {I : Hp → Prop} {ω : Wd} {PQ : PQt} {cl sl : Nat} {h : Hp} {i : Int} (hB : hBt ω i) (hcl : cl ≤ 601024) (hsl : sl ≤ 7293034) (hS : S_end I) (hI : I h) (k : ∀ h2 : Hp, I h2 → EvL ω PQ cl sl h2 1530 i []) : EvL ω PQ cl sl h 285 i [] := by
  obtain ⟨r, h1, r2, h2, c1, c2, c3, c4⟩ := hS h (sx ω (i + 1)) hI (ir_toInt _)
  refine ev_aload_n (pc := 285) (i := 1) dL_law_285 rfl rfl ?_
  refine evL_arg (pc := 286) (n := 1) rfl rfl hB (by decide) dL_law_286 dL_law_287 dL_law_289 dL_law_290 dL_law_291 ?_
  refine evC_I (pc := 292) (As := [iV (sx ω (i + 1))]) (rest := []) (M_Cc_end c1) dL_law_292 mt_Cc_end st_Cc_end ml_La_24 SH20 (by decide) ⟨_, rfl, rfl⟩ (Nat.le_of_ble_eq_true rfl) rfl rfl (Nat.le_trans sm_z (by decide)) hcl hsl ?_
  refine ev_aload_n (pc := 295) (i := 2) dL_law_295 rfl rfl ?_
  refine evL_arg (pc := 296) (n := 1) rfl rfl hB (by decide) dL_law_296 dL_law_297 dL_law_299 dL_law_300 dL_law_301 ?_
  refine evC_I (pc := 302) (As := [iV (sx ω (i + 1))]) (rest := [iV r]) (M_Md_end c2) dL_law_302 mt_Md_end st_Md_end ml_La_28 SH2000 (by decide) ⟨_, rfl, rfl⟩ (Nat.le_of_ble_eq_true rfl) rfl rfl (Nat.le_trans (sm_1 (cat_iV _) sm_z) (by decide)) hcl hsl ?_
  exact evP_icmp_eq (pc := 305) (tgt := 1530) dL_law_305 rfl (fun _ => k h2 c4) (fun g => absurd c3 g)
set_option maxHeartbeats 1000000 in
theorem L_fault {I : Hp → Prop} {ω : Wd} {PQ : PQt} {cl sl : Nat} {h : Hp} {i : Int} (hB : hBt ω i) (hcl : cl ≤ 601024) (hsl : sl ≤ 7293034) (hS : S_fault I) (hI : I h) (k : ∀ h2 : Hp, I h2 → EvL ω PQ cl sl h2 1530 i []) : EvL ω PQ cl sl h 310 i [] := by
  obtain ⟨r, h1, r2, h2, c1, c2, c3, c4⟩ := hS h (sx ω (i + 1)) hI (ir_toInt _)
  refine ev_aload_n (pc := 310) (i := 1) dL_law_310 rfl rfl ?_
  refine evL_arg (pc := 311) (n := 1) rfl rfl hB (by decide) dL_law_311 dL_law_312 dL_law_314 dL_law_315 dL_law_316 ?_
  refine evC_I (pc := 317) (As := [iV (sx ω (i + 1))]) (rest := []) (M_Cc_fault c1) dL_law_317 mt_Cc_fault st_Cc_fault ml_La_29 SH20 (by decide) ⟨_, rfl, rfl⟩ (Nat.le_of_ble_eq_true rfl) rfl rfl (Nat.le_trans sm_z (by decide)) hcl hsl ?_
  refine ev_aload_n (pc := 320) (i := 2) dL_law_320 rfl rfl ?_
  refine evL_arg (pc := 321) (n := 1) rfl rfl hB (by decide) dL_law_321 dL_law_322 dL_law_324 dL_law_325 dL_law_326 ?_
  refine evC_I (pc := 327) (As := [iV (sx ω (i + 1))]) (rest := [iV r]) (M_Md_fault c2) dL_law_327 mt_Md_fault st_Md_fault ml_La_33 SH2000 (by decide) ⟨_, rfl, rfl⟩ (Nat.le_of_ble_eq_true rfl) rfl rfl (Nat.le_trans (sm_1 (cat_iV _) sm_z) (by decide)) hcl hsl ?_
  exact evP_icmp_eq (pc := 330) (tgt := 1530) dL_law_330 rfl (fun _ => k h2 c4) (fun g => absurd c3 g)
set_option maxHeartbeats 1000000 in
theorem L_text {I : Hp → Prop} {ω : Wd} {PQ : PQt} {cl sl : Nat} {h : Hp} {i : Int} (hB : hBt ω i) (hcl : cl ≤ 601024) (hsl : sl ≤ 7293034) (hS : S_text I) (hI : I h) (k : ∀ h2 : Hp, I h2 → EvL ω PQ cl sl h2 1530 i []) : EvL ω PQ cl sl h 335 i [] := by
  obtain ⟨r, h1, r2, h2, c1, c2, c3, c4⟩ := hS h (sx ω (i + 1)) hI (ir_toInt _)
  refine ev_aload_n (pc := 335) (i := 1) dL_law_335 rfl rfl ?_
  refine evL_arg (pc := 336) (n := 1) rfl rfl hB (by decide) dL_law_336 dL_law_337 dL_law_339 dL_law_340 dL_law_341 ?_
  refine evC_I (pc := 342) (As := [iV (sx ω (i + 1))]) (rest := []) (M_Cc_text c1) dL_law_342 mt_Cc_text st_Cc_text ml_La_34 SH20 (by decide) ⟨_, rfl, rfl⟩ (Nat.le_of_ble_eq_true rfl) rfl rfl (Nat.le_trans sm_z (by decide)) hcl hsl ?_
  refine ev_aload_n (pc := 345) (i := 2) dL_law_345 rfl rfl ?_
  refine evL_arg (pc := 346) (n := 1) rfl rfl hB (by decide) dL_law_346 dL_law_347 dL_law_349 dL_law_350 dL_law_351 ?_
  refine evC_I (pc := 352) (As := [iV (sx ω (i + 1))]) (rest := [iV r]) (M_Md_text c2) dL_law_352 mt_Md_text st_Md_text ml_La_37 SH2000 (by decide) ⟨_, rfl, rfl⟩ (Nat.le_of_ble_eq_true rfl) rfl rfl (Nat.le_trans (sm_1 (cat_iV _) sm_z) (by decide)) hcl hsl ?_
  exact evP_icmp_eq (pc := 355) (tgt := 1530) dL_law_355 rfl (fun _ => k h2 c4) (fun g => absurd c3 g)
set_option maxHeartbeats 1000000 in
theorem L_wrong {I : Hp → Prop} {ω : Wd} {PQ : PQt} {cl sl : Nat} {h : Hp} {i : Int} (hB : hBt ω i) (hcl : cl ≤ 601024) (hsl : sl ≤ 7293034) (hS : S_wrong I) (hI : I h) (k : ∀ h2 : Hp, I h2 → EvL ω PQ cl sl h2 1530 i []) : EvL ω PQ cl sl h 428 i [] := by
  obtain ⟨r, h1, r2, h2, c1, c2, c3, c4⟩ := hS h (sx ω (i + 1)) (sx ω (i + 2)) hI (ir_toInt _) (ir_toInt _)
  refine ev_aload_n (pc := 428) (i := 1) dL_law_428 rfl rfl ?_
  refine evL_arg (pc := 429) (n := 1) rfl rfl hB (by decide) dL_law_429 dL_law_430 dL_law_432 dL_law_433 dL_law_434 ?_
  refine evL_arg (pc := 435) (n := 2) rfl rfl hB (by decide) dL_law_435 dL_law_436 dL_law_438 dL_law_439 dL_law_440 ?_
  refine evC_I (pc := 441) (As := [iV (sx ω (i + 1)), iV (sx ω (i + 2))]) (rest := []) (M_Cc_wrong c1) dL_law_441 mt_Cc_wrong st_Cc_wrong ml_La_48 SH20 (by decide) ⟨_, rfl, rfl⟩ (Nat.le_of_ble_eq_true rfl) rfl rfl (Nat.le_trans sm_z (by decide)) hcl hsl ?_
  refine ev_aload_n (pc := 444) (i := 2) dL_law_444 rfl rfl ?_
  refine evL_arg (pc := 445) (n := 1) rfl rfl hB (by decide) dL_law_445 dL_law_446 dL_law_448 dL_law_449 dL_law_450 ?_
  refine evL_arg (pc := 451) (n := 2) rfl rfl hB (by decide) dL_law_451 dL_law_452 dL_law_454 dL_law_455 dL_law_456 ?_
  refine evC_I (pc := 457) (As := [iV (sx ω (i + 1)), iV (sx ω (i + 2))]) (rest := [iV r]) (M_Md_wrong c2) dL_law_457 mt_Md_wrong st_Md_wrong ml_La_51 SH2000 (by decide) ⟨_, rfl, rfl⟩ (Nat.le_of_ble_eq_true rfl) rfl rfl (Nat.le_trans (sm_1 (cat_iV _) sm_z) (by decide)) hcl hsl ?_
  exact evP_icmp_eq (pc := 460) (tgt := 1530) dL_law_460 rfl (fun _ => k h2 c4) (fun g => absurd c3 g)
set_option maxHeartbeats 1000000 in
theorem L_law {I : Hp → Prop} {ω : Wd} {PQ : PQt} {cl sl : Nat} {h : Hp} {i : Int} (hB : hBt ω i) (hcl : cl ≤ 601024) (hsl : sl ≤ 7293034) (hS : S_law I) (hI : I h) (k : ∀ h2 : Hp, I h2 → EvL ω PQ cl sl h2 1530 i []) : EvL ω PQ cl sl h 465 i [] := by
  obtain ⟨r, h1, r2, h2, c1, c2, c3, c4⟩ := hS h (sx ω (i + 1)) hI (ir_toInt _)
  refine ev_aload_n (pc := 465) (i := 1) dL_law_465 rfl rfl ?_
  refine evL_arg (pc := 466) (n := 1) rfl rfl hB (by decide) dL_law_466 dL_law_467 dL_law_469 dL_law_470 dL_law_471 ?_
  refine evC_I (pc := 472) (As := [iV (sx ω (i + 1))]) (rest := []) (M_Cc_law c1) dL_law_472 mt_Cc_law st_Cc_law ml_La_52 SH20 (by decide) ⟨_, rfl, rfl⟩ (Nat.le_of_ble_eq_true rfl) rfl rfl (Nat.le_trans sm_z (by decide)) hcl hsl ?_
  refine ev_aload_n (pc := 475) (i := 2) dL_law_475 rfl rfl ?_
  refine evL_arg (pc := 476) (n := 1) rfl rfl hB (by decide) dL_law_476 dL_law_477 dL_law_479 dL_law_480 dL_law_481 ?_
  refine evC_I (pc := 482) (As := [iV (sx ω (i + 1))]) (rest := [iV r]) (M_Md_law c2) dL_law_482 mt_Md_law st_Md_law ml_La_55 SH2000 (by decide) ⟨_, rfl, rfl⟩ (Nat.le_of_ble_eq_true rfl) rfl rfl (Nat.le_trans (sm_1 (cat_iV _) sm_z) (by decide)) hcl hsl ?_
  exact evP_icmp_eq (pc := 485) (tgt := 1530) dL_law_485 rfl (fun _ => k h2 c4) (fun g => absurd c3 g)
set_option maxHeartbeats 1000000 in
theorem L_sin {I : Hp → Prop} {ω : Wd} {PQ : PQt} {cl sl : Nat} {h : Hp} {i : Int} (hB : hBt ω i) (hcl : cl ≤ 601024) (hsl : sl ≤ 7293034) (hS : S_sin I) (hI : I h) (k : ∀ h2 : Hp, I h2 → EvL ω PQ cl sl h2 1530 i []) : EvL ω PQ cl sl h 490 i [] := by
  obtain ⟨r, h1, r2, h2, c1, c2, c3, c4⟩ := hS h (sx ω (i + 1)) hI (ir_toInt _)
  refine ev_aload_n (pc := 490) (i := 1) dL_law_490 rfl rfl ?_
  refine evL_arg (pc := 491) (n := 1) rfl rfl hB (by decide) dL_law_491 dL_law_492 dL_law_494 dL_law_495 dL_law_496 ?_
  refine evC_I (pc := 497) (As := [iV (sx ω (i + 1))]) (rest := []) (M_Cc_sin c1) dL_law_497 mt_Cc_sin st_Cc_sin ml_La_56 SH20 (by decide) ⟨_, rfl, rfl⟩ (Nat.le_of_ble_eq_true rfl) rfl rfl (Nat.le_trans sm_z (by decide)) hcl hsl ?_
  refine ev_aload_n (pc := 500) (i := 2) dL_law_500 rfl rfl ?_
  refine evL_arg (pc := 501) (n := 1) rfl rfl hB (by decide) dL_law_501 dL_law_502 dL_law_504 dL_law_505 dL_law_506 ?_
  refine evC_I (pc := 507) (As := [iV (sx ω (i + 1))]) (rest := [iV r]) (M_Md_sin c2) dL_law_507 mt_Md_sin st_Md_sin ml_La_59 SH2000 (by decide) ⟨_, rfl, rfl⟩ (Nat.le_of_ble_eq_true rfl) rfl rfl (Nat.le_trans (sm_1 (cat_iV _) sm_z) (by decide)) hcl hsl ?_
  exact evP_icmp_eq (pc := 510) (tgt := 1530) dL_law_510 rfl (fun _ => k h2 c4) (fun g => absurd c3 g)
set_option maxHeartbeats 1000000 in
theorem L_sentence {I : Hp → Prop} {ω : Wd} {PQ : PQt} {cl sl : Nat} {h : Hp} {i : Int} (hB : hBt ω i) (hcl : cl ≤ 601024) (hsl : sl ≤ 7293034) (hS : S_sentence I) (hI : I h) (k : ∀ h2 : Hp, I h2 → EvL ω PQ cl sl h2 1530 i []) : EvL ω PQ cl sl h 515 i [] := by
  obtain ⟨r, h1, r2, h2, c1, c2, c3, c4⟩ := hS h (sx ω (i + 1)) hI (ir_toInt _)
  refine ev_aload_n (pc := 515) (i := 1) dL_law_515 rfl rfl ?_
  refine evL_arg (pc := 516) (n := 1) rfl rfl hB (by decide) dL_law_516 dL_law_517 dL_law_519 dL_law_520 dL_law_521 ?_
  refine evC_I (pc := 522) (As := [iV (sx ω (i + 1))]) (rest := []) (M_Cc_sentence c1) dL_law_522 mt_Cc_sentence st_Cc_sentence ml_La_60 SH20 (by decide) ⟨_, rfl, rfl⟩ (Nat.le_of_ble_eq_true rfl) rfl rfl (Nat.le_trans sm_z (by decide)) hcl hsl ?_
  refine ev_aload_n (pc := 525) (i := 2) dL_law_525 rfl rfl ?_
  refine evL_arg (pc := 526) (n := 1) rfl rfl hB (by decide) dL_law_526 dL_law_527 dL_law_529 dL_law_530 dL_law_531 ?_
  refine evC_I (pc := 532) (As := [iV (sx ω (i + 1))]) (rest := [iV r]) (M_Md_sentence c2) dL_law_532 mt_Md_sentence st_Md_sentence ml_La_63 SH2000 (by decide) ⟨_, rfl, rfl⟩ (Nat.le_of_ble_eq_true rfl) rfl rfl (Nat.le_trans (sm_1 (cat_iV _) sm_z) (by decide)) hcl hsl ?_
  exact evP_icmp_eq (pc := 535) (tgt := 1530) dL_law_535 rfl (fun _ => k h2 c4) (fun g => absurd c3 g)
set_option maxHeartbeats 1000000 in
theorem L_evening {I : Hp → Prop} {ω : Wd} {PQ : PQt} {cl sl : Nat} {h : Hp} {i : Int} (hB : hBt ω i) (hcl : cl ≤ 601024) (hsl : sl ≤ 7293034) (hS : S_evening I) (hI : I h) (k : ∀ h2 : Hp, I h2 → EvL ω PQ cl sl h2 1530 i []) : EvL ω PQ cl sl h 540 i [] := by
  obtain ⟨r, h1, r2, h2, c1, c2, c3, c4⟩ := hS h hI
  refine ev_aload_n (pc := 540) (i := 1) dL_law_540 rfl rfl ?_
  refine evC_I (pc := 541) (As := []) (rest := []) (M_Cc_evening c1) dL_law_541 mt_Cc_evening st_Cc_evening ml_La_64 SH20 (by decide) ⟨_, rfl, rfl⟩ (Nat.le_of_ble_eq_true rfl) rfl rfl (Nat.le_trans sm_z (by decide)) hcl hsl ?_
  refine ev_aload_n (pc := 544) (i := 2) dL_law_544 rfl rfl ?_
  refine evC_I (pc := 545) (As := []) (rest := [iV r]) (M_Md_evening c2) dL_law_545 mt_Md_evening st_Md_evening ml_La_67 SH2000 (by decide) ⟨_, rfl, rfl⟩ (Nat.le_of_ble_eq_true rfl) rfl rfl (Nat.le_trans (sm_1 (cat_iV _) sm_z) (by decide)) hcl hsl ?_
  exact evP_icmp_eq (pc := 548) (tgt := 1530) dL_law_548 rfl (fun _ => k h2 c4) (fun g => absurd c3 g)
set_option maxHeartbeats 1000000 in
theorem L_appeal {I : Hp → Prop} {ω : Wd} {PQ : PQt} {cl sl : Nat} {h : Hp} {i : Int} (hB : hBt ω i) (hcl : cl ≤ 601024) (hsl : sl ≤ 7293034) (hS : S_appeal I) (hI : I h) (k : ∀ h2 : Hp, I h2 → EvL ω PQ cl sl h2 1530 i []) : EvL ω PQ cl sl h 553 i [] := by
  obtain ⟨r, h1, r2, h2, c1, c2, c3, c4⟩ := hS h (sx ω (i + 1)) (sx ω (i + 2)) hI (ir_toInt _) (ir_toInt _)
  refine ev_aload_n (pc := 553) (i := 1) dL_law_553 rfl rfl ?_
  refine evL_arg (pc := 554) (n := 1) rfl rfl hB (by decide) dL_law_554 dL_law_555 dL_law_557 dL_law_558 dL_law_559 ?_
  refine evL_arg (pc := 560) (n := 2) rfl rfl hB (by decide) dL_law_560 dL_law_561 dL_law_563 dL_law_564 dL_law_565 ?_
  refine evC_I (pc := 566) (As := [iV (sx ω (i + 1)), iV (sx ω (i + 2))]) (rest := []) (M_Cc_appeal c1) dL_law_566 mt_Cc_appeal st_Cc_appeal ml_La_68 SH20 (by decide) ⟨_, rfl, rfl⟩ (Nat.le_of_ble_eq_true rfl) rfl rfl (Nat.le_trans sm_z (by decide)) hcl hsl ?_
  refine ev_aload_n (pc := 569) (i := 2) dL_law_569 rfl rfl ?_
  refine evL_arg (pc := 570) (n := 1) rfl rfl hB (by decide) dL_law_570 dL_law_571 dL_law_573 dL_law_574 dL_law_575 ?_
  refine evL_arg (pc := 576) (n := 2) rfl rfl hB (by decide) dL_law_576 dL_law_577 dL_law_579 dL_law_580 dL_law_581 ?_
  refine evC_I (pc := 582) (As := [iV (sx ω (i + 1)), iV (sx ω (i + 2))]) (rest := [iV r]) (M_Md_appeal c2) dL_law_582 mt_Md_appeal st_Md_appeal ml_La_71 SH2000 (by decide) ⟨_, rfl, rfl⟩ (Nat.le_of_ble_eq_true rfl) rfl rfl (Nat.le_trans (sm_1 (cat_iV _) sm_z) (by decide)) hcl hsl ?_
  exact evP_icmp_eq (pc := 585) (tgt := 1530) dL_law_585 rfl (fun _ => k h2 c4) (fun g => absurd c3 g)
set_option maxHeartbeats 1000000 in
theorem L_pardon {I : Hp → Prop} {ω : Wd} {PQ : PQt} {cl sl : Nat} {h : Hp} {i : Int} (hB : hBt ω i) (hcl : cl ≤ 601024) (hsl : sl ≤ 7293034) (hS : S_pardon I) (hI : I h) (k : ∀ h2 : Hp, I h2 → EvL ω PQ cl sl h2 1530 i []) : EvL ω PQ cl sl h 590 i [] := by
  obtain ⟨r, h1, r2, h2, c1, c2, c3, c4⟩ := hS h (sx ω (i + 1)) (sx ω (i + 2)) hI (ir_toInt _) (ir_toInt _)
  refine ev_aload_n (pc := 590) (i := 1) dL_law_590 rfl rfl ?_
  refine evL_arg (pc := 591) (n := 1) rfl rfl hB (by decide) dL_law_591 dL_law_592 dL_law_594 dL_law_595 dL_law_596 ?_
  refine evL_arg (pc := 597) (n := 2) rfl rfl hB (by decide) dL_law_597 dL_law_598 dL_law_600 dL_law_601 dL_law_602 ?_
  refine evC_I (pc := 603) (As := [iV (sx ω (i + 1)), iV (sx ω (i + 2))]) (rest := []) (M_Cc_pardon c1) dL_law_603 mt_Cc_pardon st_Cc_pardon ml_La_72 SH20 (by decide) ⟨_, rfl, rfl⟩ (Nat.le_of_ble_eq_true rfl) rfl rfl (Nat.le_trans sm_z (by decide)) hcl hsl ?_
  refine ev_aload_n (pc := 606) (i := 2) dL_law_606 rfl rfl ?_
  refine evL_arg (pc := 607) (n := 1) rfl rfl hB (by decide) dL_law_607 dL_law_608 dL_law_610 dL_law_611 dL_law_612 ?_
  refine evL_arg (pc := 613) (n := 2) rfl rfl hB (by decide) dL_law_613 dL_law_614 dL_law_616 dL_law_617 dL_law_618 ?_
  refine evC_I (pc := 619) (As := [iV (sx ω (i + 1)), iV (sx ω (i + 2))]) (rest := [iV r]) (M_Md_pardon c2) dL_law_619 mt_Md_pardon st_Md_pardon ml_La_75 SH2000 (by decide) ⟨_, rfl, rfl⟩ (Nat.le_of_ble_eq_true rfl) rfl rfl (Nat.le_trans (sm_1 (cat_iV _) sm_z) (by decide)) hcl hsl ?_
  exact evP_icmp_eq (pc := 622) (tgt := 1530) dL_law_622 rfl (fun _ => k h2 c4) (fun g => absurd c3 g)
set_option maxHeartbeats 1000000 in
theorem L_lunch {I : Hp → Prop} {ω : Wd} {PQ : PQt} {cl sl : Nat} {h : Hp} {i : Int} (hB : hBt ω i) (hcl : cl ≤ 601024) (hsl : sl ≤ 7293034) (hS : S_lunch I) (hI : I h) (k : ∀ h2 : Hp, I h2 → EvL ω PQ cl sl h2 1530 i []) : EvL ω PQ cl sl h 627 i [] := by
  obtain ⟨r, h1, r2, h2, c1, c2, c3, c4⟩ := hS h (sx ω (i + 1)) (sx ω (i + 2)) hI (ir_toInt _) (ir_toInt _)
  refine ev_aload_n (pc := 627) (i := 1) dL_law_627 rfl rfl ?_
  refine evL_arg (pc := 628) (n := 1) rfl rfl hB (by decide) dL_law_628 dL_law_629 dL_law_631 dL_law_632 dL_law_633 ?_
  refine evL_arg (pc := 634) (n := 2) rfl rfl hB (by decide) dL_law_634 dL_law_635 dL_law_637 dL_law_638 dL_law_639 ?_
  refine evC_I (pc := 640) (As := [iV (sx ω (i + 1)), iV (sx ω (i + 2))]) (rest := []) (M_Cc_lunch c1) dL_law_640 mt_Cc_lunch st_Cc_lunch ml_La_76 SH20 (by decide) ⟨_, rfl, rfl⟩ (Nat.le_of_ble_eq_true rfl) rfl rfl (Nat.le_trans sm_z (by decide)) hcl hsl ?_
  refine ev_aload_n (pc := 643) (i := 2) dL_law_643 rfl rfl ?_
  refine evL_arg (pc := 644) (n := 1) rfl rfl hB (by decide) dL_law_644 dL_law_645 dL_law_647 dL_law_648 dL_law_649 ?_
  refine evL_arg (pc := 650) (n := 2) rfl rfl hB (by decide) dL_law_650 dL_law_651 dL_law_653 dL_law_654 dL_law_655 ?_
  refine evC_I (pc := 656) (As := [iV (sx ω (i + 1)), iV (sx ω (i + 2))]) (rest := [iV r]) (M_Md_lunch c2) dL_law_656 mt_Md_lunch st_Md_lunch ml_La_79 SH2000 (by decide) ⟨_, rfl, rfl⟩ (Nat.le_of_ble_eq_true rfl) rfl rfl (Nat.le_trans (sm_1 (cat_iV _) sm_z) (by decide)) hcl hsl ?_
  exact evP_icmp_eq (pc := 659) (tgt := 1530) dL_law_659 rfl (fun _ => k h2 c4) (fun g => absurd c3 g)
set_option maxHeartbeats 1000000 in
theorem L_teach {I : Hp → Prop} {ω : Wd} {PQ : PQt} {cl sl : Nat} {h : Hp} {i : Int} (hB : hBt ω i) (hcl : cl ≤ 601024) (hsl : sl ≤ 7293034) (hS : S_teach I) (hI : I h) (k : ∀ h2 : Hp, I h2 → EvL ω PQ cl sl h2 1530 i []) : EvL ω PQ cl sl h 664 i [] := by
  obtain ⟨r, h1, r2, h2, c1, c2, c3, c4⟩ := hS h (sx ω (i + 1)) hI (ir_toInt _)
  refine ev_aload_n (pc := 664) (i := 1) dL_law_664 rfl rfl ?_
  refine evL_arg (pc := 665) (n := 1) rfl rfl hB (by decide) dL_law_665 dL_law_666 dL_law_668 dL_law_669 dL_law_670 ?_
  refine evC_I (pc := 671) (As := [iV (sx ω (i + 1))]) (rest := []) (M_Cc_teach c1) dL_law_671 mt_Cc_teach st_Cc_teach ml_La_80 SH20 (by decide) ⟨_, rfl, rfl⟩ (Nat.le_of_ble_eq_true rfl) rfl rfl (Nat.le_trans sm_z (by decide)) hcl hsl ?_
  refine ev_aload_n (pc := 674) (i := 2) dL_law_674 rfl rfl ?_
  refine evL_arg (pc := 675) (n := 1) rfl rfl hB (by decide) dL_law_675 dL_law_676 dL_law_678 dL_law_679 dL_law_680 ?_
  refine evC_I (pc := 681) (As := [iV (sx ω (i + 1))]) (rest := [iV r]) (M_Md_teach c2) dL_law_681 mt_Md_teach st_Md_teach ml_La_83 SH2000 (by decide) ⟨_, rfl, rfl⟩ (Nat.le_of_ble_eq_true rfl) rfl rfl (Nat.le_trans (sm_1 (cat_iV _) sm_z) (by decide)) hcl hsl ?_
  exact evP_icmp_eq (pc := 684) (tgt := 1530) dL_law_684 rfl (fun _ => k h2 c4) (fun g => absurd c3 g)
set_option maxHeartbeats 1000000 in
theorem L_give {I : Hp → Prop} {ω : Wd} {PQ : PQt} {cl sl : Nat} {h : Hp} {i : Int} (hB : hBt ω i) (hcl : cl ≤ 601024) (hsl : sl ≤ 7293034) (hS : S_give I) (hI : I h) (k : ∀ h2 : Hp, I h2 → EvL ω PQ cl sl h2 1530 i []) : EvL ω PQ cl sl h 689 i [] := by
  obtain ⟨r, h1, r2, h2, c1, c2, c3, c4⟩ := hS h (sx ω (i + 1)) hI (ir_toInt _)
  refine ev_aload_n (pc := 689) (i := 1) dL_law_689 rfl rfl ?_
  refine evL_arg (pc := 690) (n := 1) rfl rfl hB (by decide) dL_law_690 dL_law_691 dL_law_693 dL_law_694 dL_law_695 ?_
  refine evC_I (pc := 696) (As := [iV (sx ω (i + 1))]) (rest := []) (M_Cc_give c1) dL_law_696 mt_Cc_give st_Cc_give ml_La_84 SH20 (by decide) ⟨_, rfl, rfl⟩ (Nat.le_of_ble_eq_true rfl) rfl rfl (Nat.le_trans sm_z (by decide)) hcl hsl ?_
  refine ev_aload_n (pc := 699) (i := 2) dL_law_699 rfl rfl ?_
  refine evL_arg (pc := 700) (n := 1) rfl rfl hB (by decide) dL_law_700 dL_law_701 dL_law_703 dL_law_704 dL_law_705 ?_
  refine evC_I (pc := 706) (As := [iV (sx ω (i + 1))]) (rest := [iV r]) (M_Md_give c2) dL_law_706 mt_Md_give st_Md_give ml_La_87 SH2000 (by decide) ⟨_, rfl, rfl⟩ (Nat.le_of_ble_eq_true rfl) rfl rfl (Nat.le_trans (sm_1 (cat_iV _) sm_z) (by decide)) hcl hsl ?_
  exact evP_icmp_eq (pc := 709) (tgt := 1530) dL_law_709 rfl (fun _ => k h2 c4) (fun g => absurd c3 g)
set_option maxHeartbeats 1000000 in
theorem L_years {I : Hp → Prop} {ω : Wd} {PQ : PQt} {cl sl : Nat} {h : Hp} {i : Int} (hB : hBt ω i) (hcl : cl ≤ 601024) (hsl : sl ≤ 7293034) (hS : S_years I) (hI : I h) (k : ∀ h2 : Hp, I h2 → EvL ω PQ cl sl h2 1530 i []) : EvL ω PQ cl sl h 714 i [] := by
  obtain ⟨r, h1, r2, h2, c1, c2, c3, c4⟩ := hS h (sx ω (i + 1)) (jx ω i) hI (ir_toInt _) (lr_toInt _)
  refine ev_aload_n (pc := 714) (i := 1) dL_law_714 rfl rfl ?_
  refine evL_arg (pc := 715) (n := 1) rfl rfl hB (by decide) dL_law_715 dL_law_716 dL_law_718 dL_law_719 dL_law_720 ?_
  refine evL_arg (pc := 721) (n := 2) rfl rfl hB (by decide) dL_law_721 dL_law_722 dL_law_724 dL_law_725 dL_law_726 ?_
  refine ev_i2l (pc := 727) dL_law_727 ?_
  refine ev_bipush (pc := 728) dL_law_728 (by decide) ?_
  refine ev_lshl (pc := 730) dL_law_730 ?_
  refine evL_arg (pc := 731) (n := 3) rfl rfl hB (by decide) dL_law_731 dL_law_732 dL_law_734 dL_law_735 dL_law_736 ?_
  refine ev_i2l (pc := 737) dL_law_737 ?_
  refine ev_ldc2 (pc := 738) (x := 4294967295) dL_law_738 w_La_88 ?_
  refine ev_land (pc := 741) dL_law_741 ?_
  refine ev_lor (pc := 742) dL_law_742 ?_
  refine evC_I (pc := 743) (As := [iV (sx ω (i + 1)), lV (jx ω i)]) (rest := []) (M_Cc_years c1) dL_law_743 mt_Cc_years st_Cc_years ml_La_90 SH20 (by decide) ⟨_, rfl, rfl⟩ (Nat.le_of_ble_eq_true rfl) rfl rfl (Nat.le_trans sm_z (by decide)) hcl hsl ?_
  refine ev_aload_n (pc := 746) (i := 2) dL_law_746 rfl rfl ?_
  refine evL_arg (pc := 747) (n := 1) rfl rfl hB (by decide) dL_law_747 dL_law_748 dL_law_750 dL_law_751 dL_law_752 ?_
  refine evL_arg (pc := 753) (n := 2) rfl rfl hB (by decide) dL_law_753 dL_law_754 dL_law_756 dL_law_757 dL_law_758 ?_
  refine ev_i2l (pc := 759) dL_law_759 ?_
  refine ev_bipush (pc := 760) dL_law_760 (by decide) ?_
  refine ev_lshl (pc := 762) dL_law_762 ?_
  refine evL_arg (pc := 763) (n := 3) rfl rfl hB (by decide) dL_law_763 dL_law_764 dL_law_766 dL_law_767 dL_law_768 ?_
  refine ev_i2l (pc := 769) dL_law_769 ?_
  refine ev_ldc2 (pc := 770) (x := 4294967295) dL_law_770 w_La_88 ?_
  refine ev_land (pc := 773) dL_law_773 ?_
  refine ev_lor (pc := 774) dL_law_774 ?_
  refine evC_I (pc := 775) (As := [iV (sx ω (i + 1)), lV (jx ω i)]) (rest := [iV r]) (M_Md_years c2) dL_law_775 mt_Md_years st_Md_years ml_La_94 SH2000 (by decide) ⟨_, rfl, rfl⟩ (Nat.le_of_ble_eq_true rfl) rfl rfl (Nat.le_trans (sm_1 (cat_iV _) sm_z) (by decide)) hcl hsl ?_
  exact evP_icmp_eq (pc := 778) (tgt := 1530) dL_law_778 rfl (fun _ => k h2 c4) (fun g => absurd c3 g)
set_option maxHeartbeats 1000000 in
theorem L_undo {I : Hp → Prop} {ω : Wd} {PQ : PQt} {cl sl : Nat} {h : Hp} {i : Int} (hB : hBt ω i) (hcl : cl ≤ 601024) (hsl : sl ≤ 7293034) (hS : S_undo I) (hI : I h) (k : ∀ h2 : Hp, I h2 → EvL ω PQ cl sl h2 1530 i []) : EvL ω PQ cl sl h 783 i [] := by
  obtain ⟨r, h1, r2, h2, c1, c2, c3, c4⟩ := hS h hI
  refine ev_aload_n (pc := 783) (i := 1) dL_law_783 rfl rfl ?_
  refine evC_I (pc := 784) (As := []) (rest := []) (M_Cc_undo c1) dL_law_784 mt_Cc_undo st_Cc_undo ml_La_95 SH20 (by decide) ⟨_, rfl, rfl⟩ (Nat.le_of_ble_eq_true rfl) rfl rfl (Nat.le_trans sm_z (by decide)) hcl hsl ?_
  refine ev_aload_n (pc := 787) (i := 2) dL_law_787 rfl rfl ?_
  refine evC_I (pc := 788) (As := []) (rest := [iV r]) (M_Md_undo c2) dL_law_788 mt_Md_undo st_Md_undo ml_La_98 SH2000 (by decide) ⟨_, rfl, rfl⟩ (Nat.le_of_ble_eq_true rfl) rfl rfl (Nat.le_trans (sm_1 (cat_iV _) sm_z) (by decide)) hcl hsl ?_
  exact evP_icmp_eq (pc := 791) (tgt := 1530) dL_law_791 rfl (fun _ => k h2 c4) (fun g => absurd c3 g)
set_option maxHeartbeats 1000000 in
theorem L_log {I : Hp → Prop} {ω : Wd} {PQ : PQt} {cl sl : Nat} {h : Hp} {i : Int} (hB : hBt ω i) (hcl : cl ≤ 601024) (hsl : sl ≤ 7293034) (hS : S_log I) (hI : I h) (k : ∀ h2 : Hp, I h2 → EvL ω PQ cl sl h2 1530 i []) : EvL ω PQ cl sl h 796 i [] := by
  obtain ⟨r, h1, r2, h2, c1, c2, c3, c4⟩ := hS h (sx ω (i + 1)) (sx ω (i + 2)) hI (ir_toInt _) (ir_toInt _)
  refine ev_aload_n (pc := 796) (i := 1) dL_law_796 rfl rfl ?_
  refine evL_arg (pc := 797) (n := 1) rfl rfl hB (by decide) dL_law_797 dL_law_798 dL_law_800 dL_law_801 dL_law_802 ?_
  refine evL_arg (pc := 803) (n := 2) rfl rfl hB (by decide) dL_law_803 dL_law_804 dL_law_806 dL_law_807 dL_law_808 ?_
  refine evC_I (pc := 809) (As := [iV (sx ω (i + 1)), iV (sx ω (i + 2))]) (rest := []) (M_Cc_log c1) dL_law_809 mt_Cc_log st_Cc_log ml_La_99 SH20 (by decide) ⟨_, rfl, rfl⟩ (Nat.le_of_ble_eq_true rfl) rfl rfl (Nat.le_trans sm_z (by decide)) hcl hsl ?_
  refine ev_aload_n (pc := 812) (i := 2) dL_law_812 rfl rfl ?_
  refine evL_arg (pc := 813) (n := 1) rfl rfl hB (by decide) dL_law_813 dL_law_814 dL_law_816 dL_law_817 dL_law_818 ?_
  refine evL_arg (pc := 819) (n := 2) rfl rfl hB (by decide) dL_law_819 dL_law_820 dL_law_822 dL_law_823 dL_law_824 ?_
  refine evC_I (pc := 825) (As := [iV (sx ω (i + 1)), iV (sx ω (i + 2))]) (rest := [iV r]) (M_Md_log c2) dL_law_825 mt_Md_log st_Md_log ml_La_102 SH2000 (by decide) ⟨_, rfl, rfl⟩ (Nat.le_of_ble_eq_true rfl) rfl rfl (Nat.le_trans (sm_1 (cat_iV _) sm_z) (by decide)) hcl hsl ?_
  exact evP_icmp_eq (pc := 828) (tgt := 1530) dL_law_828 rfl (fun _ => k h2 c4) (fun g => absurd c3 g)
set_option maxHeartbeats 1000000 in
theorem L_step {I : Hp → Prop} {ω : Wd} {PQ : PQt} {cl sl : Nat} {h : Hp} {i : Int} (hB : hBt ω i) (hcl : cl ≤ 601024) (hsl : sl ≤ 7293034) (hS : S_step I) (hI : I h) (k : ∀ h2 : Hp, I h2 → EvL ω PQ cl sl h2 1530 i []) : EvL ω PQ cl sl h 833 i [] := by
  obtain ⟨r, h1, r2, h2, c1, c2, c3, c4⟩ := hS h (sx ω (i + 1)) (sx ω (i + 2)) (sx ω (i + 3)) hI (ir_toInt _) (ir_toInt _) (ir_toInt _)
  refine ev_aload_n (pc := 833) (i := 1) dL_law_833 rfl rfl ?_
  refine evL_arg (pc := 834) (n := 1) rfl rfl hB (by decide) dL_law_834 dL_law_835 dL_law_837 dL_law_838 dL_law_839 ?_
  refine evL_arg (pc := 840) (n := 2) rfl rfl hB (by decide) dL_law_840 dL_law_841 dL_law_843 dL_law_844 dL_law_845 ?_
  refine evL_arg (pc := 846) (n := 3) rfl rfl hB (by decide) dL_law_846 dL_law_847 dL_law_849 dL_law_850 dL_law_851 ?_
  refine evC_I (pc := 852) (As := [iV (sx ω (i + 1)), iV (sx ω (i + 2)), iV (sx ω (i + 3))]) (rest := []) (M_Cc_step c1) dL_law_852 mt_Cc_step st_Cc_step ml_La_103 SH20 (by decide) ⟨_, rfl, rfl⟩ (Nat.le_of_ble_eq_true rfl) rfl rfl (Nat.le_trans sm_z (by decide)) hcl hsl ?_
  refine ev_aload_n (pc := 855) (i := 2) dL_law_855 rfl rfl ?_
  refine evL_arg (pc := 856) (n := 1) rfl rfl hB (by decide) dL_law_856 dL_law_857 dL_law_859 dL_law_860 dL_law_861 ?_
  refine evL_arg (pc := 862) (n := 2) rfl rfl hB (by decide) dL_law_862 dL_law_863 dL_law_865 dL_law_866 dL_law_867 ?_
  refine evL_arg (pc := 868) (n := 3) rfl rfl hB (by decide) dL_law_868 dL_law_869 dL_law_871 dL_law_872 dL_law_873 ?_
  refine evC_I (pc := 874) (As := [iV (sx ω (i + 1)), iV (sx ω (i + 2)), iV (sx ω (i + 3))]) (rest := [iV r]) (M_Md_step c2) dL_law_874 mt_Md_step st_Md_step ml_La_107 SH2000 (by decide) ⟨_, rfl, rfl⟩ (Nat.le_of_ble_eq_true rfl) rfl rfl (Nat.le_trans (sm_1 (cat_iV _) sm_z) (by decide)) hcl hsl ?_
  exact evP_icmp_eq (pc := 877) (tgt := 1530) dL_law_877 rfl (fun _ => k h2 c4) (fun g => absurd c3 g)
set_option maxHeartbeats 1000000 in
theorem L_run {I : Hp → Prop} {ω : Wd} {PQ : PQt} {cl sl : Nat} {h : Hp} {i : Int} (hB : hBt ω i) (hcl : cl ≤ 601024) (hsl : sl ≤ 7293034) (hS : S_run I) (hI : I h) (k : ∀ h2 : Hp, I h2 → EvL ω PQ cl sl h2 1530 i []) : EvL ω PQ cl sl h 882 i [] := by
  obtain ⟨r, h1, r2, h2, c1, c2, c3, c4⟩ := hS h (sx ω (i + 1)) (sx ω (i + 2)) hI (ir_toInt _) (ir_toInt _)
  refine ev_aload_n (pc := 882) (i := 1) dL_law_882 rfl rfl ?_
  refine evL_arg (pc := 883) (n := 1) rfl rfl hB (by decide) dL_law_883 dL_law_884 dL_law_886 dL_law_887 dL_law_888 ?_
  refine evL_arg (pc := 889) (n := 2) rfl rfl hB (by decide) dL_law_889 dL_law_890 dL_law_892 dL_law_893 dL_law_894 ?_
  refine evC_I (pc := 895) (As := [iV (sx ω (i + 1)), iV (sx ω (i + 2))]) (rest := []) (M_Cc_run c1) dL_law_895 mt_Cc_run st_Cc_run ml_La_108 SH20 (by decide) ⟨_, rfl, rfl⟩ (Nat.le_of_ble_eq_true rfl) rfl rfl (Nat.le_trans sm_z (by decide)) hcl hsl ?_
  refine ev_aload_n (pc := 898) (i := 2) dL_law_898 rfl rfl ?_
  refine evL_arg (pc := 899) (n := 1) rfl rfl hB (by decide) dL_law_899 dL_law_900 dL_law_902 dL_law_903 dL_law_904 ?_
  refine evL_arg (pc := 905) (n := 2) rfl rfl hB (by decide) dL_law_905 dL_law_906 dL_law_908 dL_law_909 dL_law_910 ?_
  refine evC_I (pc := 911) (As := [iV (sx ω (i + 1)), iV (sx ω (i + 2))]) (rest := [iV r]) (M_Md_run c2) dL_law_911 mt_Md_run st_Md_run ml_La_111 SH2000 (by decide) ⟨_, rfl, rfl⟩ (Nat.le_of_ble_eq_true rfl) rfl rfl (Nat.le_trans (sm_1 (cat_iV _) sm_z) (by decide)) hcl hsl ?_
  exact evP_icmp_eq (pc := 914) (tgt := 1530) dL_law_914 rfl (fun _ => k h2 c4) (fun g => absurd c3 g)
set_option maxHeartbeats 1000000 in
theorem L_perform {I : Hp → Prop} {ω : Wd} {PQ : PQt} {cl sl : Nat} {h : Hp} {i : Int} (hB : hBt ω i) (hcl : cl ≤ 601024) (hsl : sl ≤ 7293034) (hS : S_perform I) (hI : I h) (k : ∀ h2 : Hp, I h2 → EvL ω PQ cl sl h2 1530 i []) : EvL ω PQ cl sl h 919 i [] := by
  obtain ⟨r, h1, r2, h2, c1, c2, c3, c4⟩ := hS h (sx ω (i + 1)) hI (ir_toInt _)
  refine ev_aload_n (pc := 919) (i := 1) dL_law_919 rfl rfl ?_
  refine evL_arg (pc := 920) (n := 1) rfl rfl hB (by decide) dL_law_920 dL_law_921 dL_law_923 dL_law_924 dL_law_925 ?_
  refine evC_I (pc := 926) (As := [iV (sx ω (i + 1))]) (rest := []) (M_Cc_perform c1) dL_law_926 mt_Cc_perform st_Cc_perform ml_La_112 SH20 (by decide) ⟨_, rfl, rfl⟩ (Nat.le_of_ble_eq_true rfl) rfl rfl (Nat.le_trans sm_z (by decide)) hcl hsl ?_
  refine ev_aload_n (pc := 929) (i := 2) dL_law_929 rfl rfl ?_
  refine evL_arg (pc := 930) (n := 1) rfl rfl hB (by decide) dL_law_930 dL_law_931 dL_law_933 dL_law_934 dL_law_935 ?_
  refine evC_I (pc := 936) (As := [iV (sx ω (i + 1))]) (rest := [iV r]) (M_Md_perform c2) dL_law_936 mt_Md_perform st_Md_perform ml_La_115 SH2000 (by decide) ⟨_, rfl, rfl⟩ (Nat.le_of_ble_eq_true rfl) rfl rfl (Nat.le_trans (sm_1 (cat_iV _) sm_z) (by decide)) hcl hsl ?_
  exact evP_icmp_eq (pc := 939) (tgt := 1530) dL_law_939 rfl (fun _ => k h2 c4) (fun g => absurd c3 g)
set_option maxHeartbeats 1000000 in
theorem L_owed {I : Hp → Prop} {ω : Wd} {PQ : PQt} {cl sl : Nat} {h : Hp} {i : Int} (hB : hBt ω i) (hcl : cl ≤ 601024) (hsl : sl ≤ 7293034) (hS : S_owed I) (hI : I h) (k : ∀ h2 : Hp, I h2 → EvL ω PQ cl sl h2 1530 i []) : EvL ω PQ cl sl h 944 i [] := by
  obtain ⟨r, h1, r2, h2, c1, c2, c3, c4⟩ := hS h (sx ω (i + 1)) (sx ω (i + 2)) hI (ir_toInt _) (ir_toInt _)
  refine ev_aload_n (pc := 944) (i := 1) dL_law_944 rfl rfl ?_
  refine evL_arg (pc := 945) (n := 1) rfl rfl hB (by decide) dL_law_945 dL_law_946 dL_law_948 dL_law_949 dL_law_950 ?_
  refine evL_arg (pc := 951) (n := 2) rfl rfl hB (by decide) dL_law_951 dL_law_952 dL_law_954 dL_law_955 dL_law_956 ?_
  refine evC_I (pc := 957) (As := [iV (sx ω (i + 1)), iV (sx ω (i + 2))]) (rest := []) (M_Cc_owed c1) dL_law_957 mt_Cc_owed st_Cc_owed ml_La_116 SH20 (by decide) ⟨_, rfl, rfl⟩ (Nat.le_of_ble_eq_true rfl) rfl rfl (Nat.le_trans sm_z (by decide)) hcl hsl ?_
  refine ev_aload_n (pc := 960) (i := 2) dL_law_960 rfl rfl ?_
  refine evL_arg (pc := 961) (n := 1) rfl rfl hB (by decide) dL_law_961 dL_law_962 dL_law_964 dL_law_965 dL_law_966 ?_
  refine evL_arg (pc := 967) (n := 2) rfl rfl hB (by decide) dL_law_967 dL_law_968 dL_law_970 dL_law_971 dL_law_972 ?_
  refine evC_I (pc := 973) (As := [iV (sx ω (i + 1)), iV (sx ω (i + 2))]) (rest := [iV r]) (M_Md_owed c2) dL_law_973 mt_Md_owed st_Md_owed ml_La_119 SH2000 (by decide) ⟨_, rfl, rfl⟩ (Nat.le_of_ble_eq_true rfl) rfl rfl (Nat.le_trans (sm_1 (cat_iV _) sm_z) (by decide)) hcl hsl ?_
  exact evP_icmp_eq (pc := 976) (tgt := 1530) dL_law_976 rfl (fun _ => k h2 c4) (fun g => absurd c3 g)
set_option maxHeartbeats 1000000 in
theorem L_tonight {I : Hp → Prop} {ω : Wd} {PQ : PQt} {cl sl : Nat} {h : Hp} {i : Int} (hB : hBt ω i) (hcl : cl ≤ 601024) (hsl : sl ≤ 7293034) (hS : S_tonight I) (hI : I h) (k : ∀ h2 : Hp, I h2 → EvL ω PQ cl sl h2 1530 i []) : EvL ω PQ cl sl h 981 i [] := by
  obtain ⟨r, h1, r2, h2, c1, c2, c3, c4⟩ := hS h hI
  refine ev_aload_n (pc := 981) (i := 1) dL_law_981 rfl rfl ?_
  refine evC_I (pc := 982) (As := []) (rest := []) (M_Cc_tonight c1) dL_law_982 mt_Cc_tonight st_Cc_tonight ml_La_120 SH20 (by decide) ⟨_, rfl, rfl⟩ (Nat.le_of_ble_eq_true rfl) rfl rfl (Nat.le_trans sm_z (by decide)) hcl hsl ?_
  refine ev_aload_n (pc := 985) (i := 2) dL_law_985 rfl rfl ?_
  refine evC_I (pc := 986) (As := []) (rest := [iV r]) (M_Md_tonight c2) dL_law_986 mt_Md_tonight st_Md_tonight ml_La_123 SH2000 (by decide) ⟨_, rfl, rfl⟩ (Nat.le_of_ble_eq_true rfl) rfl rfl (Nat.le_trans (sm_1 (cat_iV _) sm_z) (by decide)) hcl hsl ?_
  exact evP_icmp_eq (pc := 989) (tgt := 1530) dL_law_989 rfl (fun _ => k h2 c4) (fun g => absurd c3 g)
set_option maxHeartbeats 1000000 in
theorem L_served {I : Hp → Prop} {ω : Wd} {PQ : PQt} {cl sl : Nat} {h : Hp} {i : Int} (hB : hBt ω i) (hcl : cl ≤ 601024) (hsl : sl ≤ 7293034) (hS : S_served I) (hI : I h) (k : ∀ h2 : Hp, I h2 → EvL ω PQ cl sl h2 1530 i []) : EvL ω PQ cl sl h 994 i [] := by
  obtain ⟨r, h1, r2, h2, c1, c2, c3, c4⟩ := hS h hI
  refine ev_aload_n (pc := 994) (i := 1) dL_law_994 rfl rfl ?_
  refine evC_I (pc := 995) (As := []) (rest := []) (M_Cc_served c1) dL_law_995 mt_Cc_served st_Cc_served ml_La_124 SH20 (by decide) ⟨_, rfl, rfl⟩ (Nat.le_of_ble_eq_true rfl) rfl rfl (Nat.le_trans sm_z (by decide)) hcl hsl ?_
  refine ev_aload_n (pc := 998) (i := 2) dL_law_998 rfl rfl ?_
  refine evC_I (pc := 999) (As := []) (rest := [iV r]) (M_Md_served c2) dL_law_999 mt_Md_served st_Md_served ml_La_127 SH2000 (by decide) ⟨_, rfl, rfl⟩ (Nat.le_of_ble_eq_true rfl) rfl rfl (Nat.le_trans (sm_1 (cat_iV _) sm_z) (by decide)) hcl hsl ?_
  exact evP_icmp_eq (pc := 1002) (tgt := 1530) dL_law_1002 rfl (fun _ => k h2 c4) (fun g => absurd c3 g)
set_option maxHeartbeats 1000000 in
theorem L_sooner {I : Hp → Prop} {ω : Wd} {PQ : PQt} {cl sl : Nat} {h : Hp} {i : Int} (hB : hBt ω i) (hcl : cl ≤ 601024) (hsl : sl ≤ 7293034) (hS : S_sooner I) (hI : I h) (k : ∀ h2 : Hp, I h2 → EvL ω PQ cl sl h2 1530 i []) : EvL ω PQ cl sl h 1007 i [] := by
  obtain ⟨r, h1, r2, h2, c1, c2, c3, c4⟩ := hS h hI
  refine ev_aload_n (pc := 1007) (i := 1) dL_law_1007 rfl rfl ?_
  refine evC_I (pc := 1008) (As := []) (rest := []) (M_Cc_sooner c1) dL_law_1008 mt_Cc_sooner st_Cc_sooner ml_La_128 SH20 (by decide) ⟨_, rfl, rfl⟩ (Nat.le_of_ble_eq_true rfl) rfl rfl (Nat.le_trans sm_z (by decide)) hcl hsl ?_
  refine ev_aload_n (pc := 1011) (i := 2) dL_law_1011 rfl rfl ?_
  refine evC_I (pc := 1012) (As := []) (rest := [iV r]) (M_Md_sooner c2) dL_law_1012 mt_Md_sooner st_Md_sooner ml_La_131 SH2000 (by decide) ⟨_, rfl, rfl⟩ (Nat.le_of_ble_eq_true rfl) rfl rfl (Nat.le_trans (sm_1 (cat_iV _) sm_z) (by decide)) hcl hsl ?_
  exact evP_icmp_eq (pc := 1015) (tgt := 1530) dL_law_1015 rfl (fun _ => k h2 c4) (fun g => absurd c3 g)
set_option maxHeartbeats 1000000 in
theorem L_matched {I : Hp → Prop} {ω : Wd} {PQ : PQt} {cl sl : Nat} {h : Hp} {i : Int} (hB : hBt ω i) (hcl : cl ≤ 601024) (hsl : sl ≤ 7293034) (hS : S_matched I) (hI : I h) (k : ∀ h2 : Hp, I h2 → EvL ω PQ cl sl h2 1530 i []) : EvL ω PQ cl sl h 1020 i [] := by
  obtain ⟨r, h1, r2, h2, c1, c2, c3, c4⟩ := hS h (sx ω (i + 1)) hI (ir_toInt _)
  refine ev_aload_n (pc := 1020) (i := 1) dL_law_1020 rfl rfl ?_
  refine evL_arg (pc := 1021) (n := 1) rfl rfl hB (by decide) dL_law_1021 dL_law_1022 dL_law_1024 dL_law_1025 dL_law_1026 ?_
  refine evC_I (pc := 1027) (As := [iV (sx ω (i + 1))]) (rest := []) (M_Cc_matched c1) dL_law_1027 mt_Cc_matched st_Cc_matched ml_La_132 SH20 (by decide) ⟨_, rfl, rfl⟩ (Nat.le_of_ble_eq_true rfl) rfl rfl (Nat.le_trans sm_z (by decide)) hcl hsl ?_
  refine ev_aload_n (pc := 1030) (i := 2) dL_law_1030 rfl rfl ?_
  refine evL_arg (pc := 1031) (n := 1) rfl rfl hB (by decide) dL_law_1031 dL_law_1032 dL_law_1034 dL_law_1035 dL_law_1036 ?_
  refine evC_I (pc := 1037) (As := [iV (sx ω (i + 1))]) (rest := [iV r]) (M_Md_matched c2) dL_law_1037 mt_Md_matched st_Md_matched ml_La_135 SH2000 (by decide) ⟨_, rfl, rfl⟩ (Nat.le_of_ble_eq_true rfl) rfl rfl (Nat.le_trans (sm_1 (cat_iV _) sm_z) (by decide)) hcl hsl ?_
  exact evP_icmp_eq (pc := 1040) (tgt := 1530) dL_law_1040 rfl (fun _ => k h2 c4) (fun g => absurd c3 g)
set_option maxHeartbeats 1000000 in
theorem L_firm {I : Hp → Prop} {ω : Wd} {PQ : PQt} {cl sl : Nat} {h : Hp} {i : Int} (hB : hBt ω i) (hcl : cl ≤ 601024) (hsl : sl ≤ 7293034) (hS : S_firm I) (hI : I h) (k : ∀ h2 : Hp, I h2 → EvL ω PQ cl sl h2 1530 i []) : EvL ω PQ cl sl h 1045 i [] := by
  obtain ⟨r, h1, r2, h2, c1, c2, c3, c4⟩ := hS h (sx ω (i + 1)) hI (ir_toInt _)
  refine ev_aload_n (pc := 1045) (i := 1) dL_law_1045 rfl rfl ?_
  refine evL_arg (pc := 1046) (n := 1) rfl rfl hB (by decide) dL_law_1046 dL_law_1047 dL_law_1049 dL_law_1050 dL_law_1051 ?_
  refine evC_I (pc := 1052) (As := [iV (sx ω (i + 1))]) (rest := []) (M_Cc_firm c1) dL_law_1052 mt_Cc_firm st_Cc_firm ml_La_136 SH20 (by decide) ⟨_, rfl, rfl⟩ (Nat.le_of_ble_eq_true rfl) rfl rfl (Nat.le_trans sm_z (by decide)) hcl hsl ?_
  refine ev_aload_n (pc := 1055) (i := 2) dL_law_1055 rfl rfl ?_
  refine evL_arg (pc := 1056) (n := 1) rfl rfl hB (by decide) dL_law_1056 dL_law_1057 dL_law_1059 dL_law_1060 dL_law_1061 ?_
  refine evC_I (pc := 1062) (As := [iV (sx ω (i + 1))]) (rest := [iV r]) (M_Md_firm c2) dL_law_1062 mt_Md_firm st_Md_firm ml_La_139 SH2000 (by decide) ⟨_, rfl, rfl⟩ (Nat.le_of_ble_eq_true rfl) rfl rfl (Nat.le_trans (sm_1 (cat_iV _) sm_z) (by decide)) hcl hsl ?_
  exact evP_icmp_eq (pc := 1065) (tgt := 1530) dL_law_1065 rfl (fun _ => k h2 c4) (fun g => absurd c3 g)
set_option maxHeartbeats 1000000 in
theorem L_given {I : Hp → Prop} {ω : Wd} {PQ : PQt} {cl sl : Nat} {h : Hp} {i : Int} (hB : hBt ω i) (hcl : cl ≤ 601024) (hsl : sl ≤ 7293034) (hS : S_given I) (hI : I h) (k : ∀ h2 : Hp, I h2 → EvL ω PQ cl sl h2 1530 i []) : EvL ω PQ cl sl h 1070 i [] := by
  obtain ⟨r, h1, r2, h2, c1, c2, c3, c4⟩ := hS h (sx ω (i + 1)) (sx ω (i + 2)) (zx ω i) hI (ir_toInt _) (ir_toInt _) (zx_01 _ _)
  refine ev_aload_n (pc := 1070) (i := 1) dL_law_1070 rfl rfl ?_
  refine evL_arg (pc := 1071) (n := 1) rfl rfl hB (by decide) dL_law_1071 dL_law_1072 dL_law_1074 dL_law_1075 dL_law_1076 ?_
  refine evL_arg (pc := 1077) (n := 2) rfl rfl hB (by decide) dL_law_1077 dL_law_1078 dL_law_1080 dL_law_1081 dL_law_1082 ?_
  refine evL_arg (pc := 1083) (n := 3) rfl rfl hB (by decide) dL_law_1083 dL_law_1084 dL_law_1086 dL_law_1087 dL_law_1088 ?_
  refine evB_z (pc := 1089) dL_law_1089 dL_law_1092 dL_law_1093 dL_law_1096 rfl rfl ?_
  refine evC_I (pc := 1097) (As := [iV (sx ω (i + 1)), iV (sx ω (i + 2)), iV (zx ω i)]) (rest := []) (M_Cc_given c1) dL_law_1097 mt_Cc_given st_Cc_given ml_La_140 SH20 (by decide) ⟨_, rfl, rfl⟩ (Nat.le_of_ble_eq_true rfl) rfl rfl (Nat.le_trans sm_z (by decide)) hcl hsl ?_
  refine ev_aload_n (pc := 1100) (i := 2) dL_law_1100 rfl rfl ?_
  refine evL_arg (pc := 1101) (n := 1) rfl rfl hB (by decide) dL_law_1101 dL_law_1102 dL_law_1104 dL_law_1105 dL_law_1106 ?_
  refine evL_arg (pc := 1107) (n := 2) rfl rfl hB (by decide) dL_law_1107 dL_law_1108 dL_law_1110 dL_law_1111 dL_law_1112 ?_
  refine evL_arg (pc := 1113) (n := 3) rfl rfl hB (by decide) dL_law_1113 dL_law_1114 dL_law_1116 dL_law_1117 dL_law_1118 ?_
  refine evB_z (pc := 1119) dL_law_1119 dL_law_1122 dL_law_1123 dL_law_1126 rfl rfl ?_
  refine evC_I (pc := 1127) (As := [iV (sx ω (i + 1)), iV (sx ω (i + 2)), iV (zx ω i)]) (rest := [iV r]) (M_Md_given c2) dL_law_1127 mt_Md_given st_Md_given ml_La_144 SH2000 (by decide) ⟨_, rfl, rfl⟩ (Nat.le_of_ble_eq_true rfl) rfl rfl (Nat.le_trans (sm_1 (cat_iV _) sm_z) (by decide)) hcl hsl ?_
  exact evP_icmp_eq (pc := 1130) (tgt := 1530) dL_law_1130 rfl (fun _ => k h2 c4) (fun g => absurd c3 g)
set_option maxHeartbeats 1000000 in
theorem L_graves {I : Hp → Prop} {ω : Wd} {PQ : PQt} {cl sl : Nat} {h : Hp} {i : Int} (hB : hBt ω i) (hcl : cl ≤ 601024) (hsl : sl ≤ 7293034) (hS : S_graves I) (hI : I h) (k : ∀ h2 : Hp, I h2 → EvL ω PQ cl sl h2 1530 i []) : EvL ω PQ cl sl h 1135 i [] := by
  obtain ⟨r, h1, r2, h2, c1, c2, c3, c4⟩ := hS h (sx ω (i + 1)) (sx ω (i + 2)) hI (ir_toInt _) (ir_toInt _)
  refine ev_aload_n (pc := 1135) (i := 1) dL_law_1135 rfl rfl ?_
  refine evL_arg (pc := 1136) (n := 1) rfl rfl hB (by decide) dL_law_1136 dL_law_1137 dL_law_1139 dL_law_1140 dL_law_1141 ?_
  refine evL_arg (pc := 1142) (n := 2) rfl rfl hB (by decide) dL_law_1142 dL_law_1143 dL_law_1145 dL_law_1146 dL_law_1147 ?_
  refine evC_I (pc := 1148) (As := [iV (sx ω (i + 1)), iV (sx ω (i + 2))]) (rest := []) (M_Cc_graves c1) dL_law_1148 mt_Cc_graves st_Cc_graves ml_La_145 SH20 (by decide) ⟨_, rfl, rfl⟩ (Nat.le_of_ble_eq_true rfl) rfl rfl (Nat.le_trans sm_z (by decide)) hcl hsl ?_
  refine ev_aload_n (pc := 1151) (i := 2) dL_law_1151 rfl rfl ?_
  refine evL_arg (pc := 1152) (n := 1) rfl rfl hB (by decide) dL_law_1152 dL_law_1153 dL_law_1155 dL_law_1156 dL_law_1157 ?_
  refine evL_arg (pc := 1158) (n := 2) rfl rfl hB (by decide) dL_law_1158 dL_law_1159 dL_law_1161 dL_law_1162 dL_law_1163 ?_
  refine evC_I (pc := 1164) (As := [iV (sx ω (i + 1)), iV (sx ω (i + 2))]) (rest := [iV r]) (M_Md_graves c2) dL_law_1164 mt_Md_graves st_Md_graves ml_La_148 SH2000 (by decide) ⟨_, rfl, rfl⟩ (Nat.le_of_ble_eq_true rfl) rfl rfl (Nat.le_trans (sm_1 (cat_iV _) sm_z) (by decide)) hcl hsl ?_
  exact evP_icmp_eq (pc := 1167) (tgt := 1530) dL_law_1167 rfl (fun _ => k h2 c4) (fun g => absurd c3 g)
set_option maxHeartbeats 1000000 in
theorem L_ask {I : Hp → Prop} {ω : Wd} {PQ : PQt} {cl sl : Nat} {h : Hp} {i : Int} (hB : hBt ω i) (hcl : cl ≤ 601024) (hsl : sl ≤ 7293034) (hS : S_ask I) (hI : I h) (k : ∀ h2 : Hp, I h2 → EvL ω PQ cl sl h2 1530 i []) : EvL ω PQ cl sl h 1172 i [] := by
  obtain ⟨r, h1, r2, h2, c1, c2, c3, c4⟩ := hS h (sx ω (i + 1)) hI (ir_toInt _)
  refine ev_aload_n (pc := 1172) (i := 1) dL_law_1172 rfl rfl ?_
  refine evL_arg (pc := 1173) (n := 1) rfl rfl hB (by decide) dL_law_1173 dL_law_1174 dL_law_1176 dL_law_1177 dL_law_1178 ?_
  refine evC_I (pc := 1179) (As := [iV (sx ω (i + 1))]) (rest := []) (M_Cc_ask c1) dL_law_1179 mt_Cc_ask st_Cc_ask ml_La_149 SH20 (by decide) ⟨_, rfl, rfl⟩ (Nat.le_of_ble_eq_true rfl) rfl rfl (Nat.le_trans sm_z (by decide)) hcl hsl ?_
  refine ev_aload_n (pc := 1182) (i := 2) dL_law_1182 rfl rfl ?_
  refine evL_arg (pc := 1183) (n := 1) rfl rfl hB (by decide) dL_law_1183 dL_law_1184 dL_law_1186 dL_law_1187 dL_law_1188 ?_
  refine evC_I (pc := 1189) (As := [iV (sx ω (i + 1))]) (rest := [iV r]) (M_Md_ask c2) dL_law_1189 mt_Md_ask st_Md_ask ml_La_152 SH2000 (by decide) ⟨_, rfl, rfl⟩ (Nat.le_of_ble_eq_true rfl) rfl rfl (Nat.le_trans (sm_1 (cat_iV _) sm_z) (by decide)) hcl hsl ?_
  exact evP_icmp_eq (pc := 1192) (tgt := 1530) dL_law_1192 rfl (fun _ => k h2 c4) (fun g => absurd c3 g)
set_option maxHeartbeats 1000000 in
theorem L_crime {I : Hp → Prop} {ω : Wd} {PQ : PQt} {cl sl : Nat} {h : Hp} {i : Int} (hB : hBt ω i) (hcl : cl ≤ 601024) (hsl : sl ≤ 7293034) (hS : S_crime I) (hI : I h) (k : ∀ h2 : Hp, I h2 → EvL ω PQ cl sl h2 1530 i []) : EvL ω PQ cl sl h 1197 i [] := by
  obtain ⟨r, h1, r2, h2, c1, c2, c3, c4⟩ := hS h (sx ω (i + 1)) (sx ω (i + 2)) (sx ω (i + 3)) hI (ir_toInt _) (ir_toInt _) (ir_toInt _)
  refine ev_aload_n (pc := 1197) (i := 1) dL_law_1197 rfl rfl ?_
  refine evL_arg (pc := 1198) (n := 1) rfl rfl hB (by decide) dL_law_1198 dL_law_1199 dL_law_1201 dL_law_1202 dL_law_1203 ?_
  refine evL_arg (pc := 1204) (n := 2) rfl rfl hB (by decide) dL_law_1204 dL_law_1205 dL_law_1207 dL_law_1208 dL_law_1209 ?_
  refine evL_arg (pc := 1210) (n := 3) rfl rfl hB (by decide) dL_law_1210 dL_law_1211 dL_law_1213 dL_law_1214 dL_law_1215 ?_
  refine evC_I (pc := 1216) (As := [iV (sx ω (i + 1)), iV (sx ω (i + 2)), iV (sx ω (i + 3))]) (rest := []) (M_Cc_crime c1) dL_law_1216 mt_Cc_crime st_Cc_crime ml_La_153 SH20 (by decide) ⟨_, rfl, rfl⟩ (Nat.le_of_ble_eq_true rfl) rfl rfl (Nat.le_trans sm_z (by decide)) hcl hsl ?_
  refine ev_aload_n (pc := 1219) (i := 2) dL_law_1219 rfl rfl ?_
  refine evL_arg (pc := 1220) (n := 1) rfl rfl hB (by decide) dL_law_1220 dL_law_1221 dL_law_1223 dL_law_1224 dL_law_1225 ?_
  refine evL_arg (pc := 1226) (n := 2) rfl rfl hB (by decide) dL_law_1226 dL_law_1227 dL_law_1229 dL_law_1230 dL_law_1231 ?_
  refine evL_arg (pc := 1232) (n := 3) rfl rfl hB (by decide) dL_law_1232 dL_law_1233 dL_law_1235 dL_law_1236 dL_law_1237 ?_
  refine evC_I (pc := 1238) (As := [iV (sx ω (i + 1)), iV (sx ω (i + 2)), iV (sx ω (i + 3))]) (rest := [iV r]) (M_Md_crime c2) dL_law_1238 mt_Md_crime st_Md_crime ml_La_156 SH2000 (by decide) ⟨_, rfl, rfl⟩ (Nat.le_of_ble_eq_true rfl) rfl rfl (Nat.le_trans (sm_1 (cat_iV _) sm_z) (by decide)) hcl hsl ?_
  exact evP_icmp_eq (pc := 1241) (tgt := 1530) dL_law_1241 rfl (fun _ => k h2 c4) (fun g => absurd c3 g)
set_option maxHeartbeats 1000000 in
theorem L_game {I : Hp → Prop} {ω : Wd} {PQ : PQt} {cl sl : Nat} {h : Hp} {i : Int} (hB : hBt ω i) (hcl : cl ≤ 601024) (hsl : sl ≤ 7293034) (hS : S_game I) (hI : I h) (k : ∀ h2 : Hp, I h2 → EvL ω PQ cl sl h2 1530 i []) : EvL ω PQ cl sl h 1246 i [] := by
  obtain ⟨r, h1, r2, h2, c1, c2, c3, c4⟩ := hS h (sx ω (i + 1)) (sx ω (i + 2)) (sx ω (i + 3)) (sx ω (i + 4)) (sx ω (i + 5)) hI (ir_toInt _) (ir_toInt _) (ir_toInt _) (ir_toInt _) (ir_toInt _)
  refine ev_aload_n (pc := 1246) (i := 1) dL_law_1246 rfl rfl ?_
  refine evL_arg (pc := 1247) (n := 1) rfl rfl hB (by decide) dL_law_1247 dL_law_1248 dL_law_1250 dL_law_1251 dL_law_1252 ?_
  refine evL_arg (pc := 1253) (n := 2) rfl rfl hB (by decide) dL_law_1253 dL_law_1254 dL_law_1256 dL_law_1257 dL_law_1258 ?_
  refine evL_arg (pc := 1259) (n := 3) rfl rfl hB (by decide) dL_law_1259 dL_law_1260 dL_law_1262 dL_law_1263 dL_law_1264 ?_
  refine evL_arg (pc := 1265) (n := 4) rfl rfl hB (by decide) dL_law_1265 dL_law_1266 dL_law_1268 dL_law_1269 dL_law_1270 ?_
  refine evL_arg (pc := 1271) (n := 5) rfl rfl hB (by decide) dL_law_1271 dL_law_1272 dL_law_1274 dL_law_1275 dL_law_1276 ?_
  refine evC_I (pc := 1277) (As := [iV (sx ω (i + 1)), iV (sx ω (i + 2)), iV (sx ω (i + 3)), iV (sx ω (i + 4)), iV (sx ω (i + 5))]) (rest := []) (M_Cc_game c1) dL_law_1277 mt_Cc_game st_Cc_game ml_La_157 SH20 (by decide) ⟨_, rfl, rfl⟩ (Nat.le_of_ble_eq_true rfl) rfl rfl (Nat.le_trans sm_z (by decide)) hcl hsl ?_
  refine ev_aload_n (pc := 1280) (i := 2) dL_law_1280 rfl rfl ?_
  refine evL_arg (pc := 1281) (n := 1) rfl rfl hB (by decide) dL_law_1281 dL_law_1282 dL_law_1284 dL_law_1285 dL_law_1286 ?_
  refine evL_arg (pc := 1287) (n := 2) rfl rfl hB (by decide) dL_law_1287 dL_law_1288 dL_law_1290 dL_law_1291 dL_law_1292 ?_
  refine evL_arg (pc := 1293) (n := 3) rfl rfl hB (by decide) dL_law_1293 dL_law_1294 dL_law_1296 dL_law_1297 dL_law_1298 ?_
  refine evL_arg (pc := 1299) (n := 4) rfl rfl hB (by decide) dL_law_1299 dL_law_1300 dL_law_1302 dL_law_1303 dL_law_1304 ?_
  refine evL_arg (pc := 1305) (n := 5) rfl rfl hB (by decide) dL_law_1305 dL_law_1306 dL_law_1308 dL_law_1309 dL_law_1310 ?_
  refine evC_I (pc := 1311) (As := [iV (sx ω (i + 1)), iV (sx ω (i + 2)), iV (sx ω (i + 3)), iV (sx ω (i + 4)), iV (sx ω (i + 5))]) (rest := [iV r]) (M_Md_game c2) dL_law_1311 mt_Md_game st_Md_game ml_La_160 SH2000 (by decide) ⟨_, rfl, rfl⟩ (Nat.le_of_ble_eq_true rfl) rfl rfl (Nat.le_trans (sm_1 (cat_iV _) sm_z) (by decide)) hcl hsl ?_
  exact evP_icmp_eq (pc := 1314) (tgt := 1530) dL_law_1314 rfl (fun _ => k h2 c4) (fun g => absurd c3 g)
set_option maxHeartbeats 1000000 in
theorem L_rests {I : Hp → Prop} {ω : Wd} {PQ : PQt} {cl sl : Nat} {h : Hp} {i : Int} (hB : hBt ω i) (hcl : cl ≤ 601024) (hsl : sl ≤ 7293034) (hS : S_rests I) (hI : I h) (k : ∀ h2 : Hp, I h2 → EvL ω PQ cl sl h2 1530 i []) : EvL ω PQ cl sl h 1319 i [] := by
  obtain ⟨r, h1, r2, h2, c1, c2, c3, c4⟩ := hS h (sx ω (i + 1)) (sx ω (i + 2)) (sx ω (i + 3)) hI (ir_toInt _) (ir_toInt _) (ir_toInt _)
  refine ev_aload_n (pc := 1319) (i := 1) dL_law_1319 rfl rfl ?_
  refine evL_arg (pc := 1320) (n := 1) rfl rfl hB (by decide) dL_law_1320 dL_law_1321 dL_law_1323 dL_law_1324 dL_law_1325 ?_
  refine evL_arg (pc := 1326) (n := 2) rfl rfl hB (by decide) dL_law_1326 dL_law_1327 dL_law_1329 dL_law_1330 dL_law_1331 ?_
  refine evL_arg (pc := 1332) (n := 3) rfl rfl hB (by decide) dL_law_1332 dL_law_1333 dL_law_1335 dL_law_1336 dL_law_1337 ?_
  refine evC_I (pc := 1338) (As := [iV (sx ω (i + 1)), iV (sx ω (i + 2)), iV (sx ω (i + 3))]) (rest := []) (M_Cc_rests c1) dL_law_1338 mt_Cc_rests st_Cc_rests ml_La_161 SH20 (by decide) ⟨_, rfl, rfl⟩ (Nat.le_of_ble_eq_true rfl) rfl rfl (Nat.le_trans sm_z (by decide)) hcl hsl ?_
  refine ev_aload_n (pc := 1341) (i := 2) dL_law_1341 rfl rfl ?_
  refine evL_arg (pc := 1342) (n := 1) rfl rfl hB (by decide) dL_law_1342 dL_law_1343 dL_law_1345 dL_law_1346 dL_law_1347 ?_
  refine evL_arg (pc := 1348) (n := 2) rfl rfl hB (by decide) dL_law_1348 dL_law_1349 dL_law_1351 dL_law_1352 dL_law_1353 ?_
  refine evL_arg (pc := 1354) (n := 3) rfl rfl hB (by decide) dL_law_1354 dL_law_1355 dL_law_1357 dL_law_1358 dL_law_1359 ?_
  refine evC_I (pc := 1360) (As := [iV (sx ω (i + 1)), iV (sx ω (i + 2)), iV (sx ω (i + 3))]) (rest := [iV r]) (M_Md_rests c2) dL_law_1360 mt_Md_rests st_Md_rests ml_La_164 SH2000 (by decide) ⟨_, rfl, rfl⟩ (Nat.le_of_ble_eq_true rfl) rfl rfl (Nat.le_trans (sm_1 (cat_iV _) sm_z) (by decide)) hcl hsl ?_
  exact evP_icmp_eq (pc := 1363) (tgt := 1530) dL_law_1363 rfl (fun _ => k h2 c4) (fun g => absurd c3 g)
set_option maxHeartbeats 1000000 in
theorem L_odds {I : Hp → Prop} {ω : Wd} {PQ : PQt} {cl sl : Nat} {h : Hp} {i : Int} (hB : hBt ω i) (hcl : cl ≤ 601024) (hsl : sl ≤ 7293034) (hS : S_odds I) (hI : I h) (k : ∀ h2 : Hp, I h2 → EvL ω PQ cl sl h2 1530 i []) : EvL ω PQ cl sl h 1368 i [] := by
  obtain ⟨r, h1, r2, h2, c1, c2, c3, c4⟩ := hS h (sx ω (i + 1)) (sx ω (i + 2)) (sx ω (i + 3)) hI (ir_toInt _) (ir_toInt _) (ir_toInt _)
  refine ev_aload_n (pc := 1368) (i := 1) dL_law_1368 rfl rfl ?_
  refine evL_arg (pc := 1369) (n := 1) rfl rfl hB (by decide) dL_law_1369 dL_law_1370 dL_law_1372 dL_law_1373 dL_law_1374 ?_
  refine evL_arg (pc := 1375) (n := 2) rfl rfl hB (by decide) dL_law_1375 dL_law_1376 dL_law_1378 dL_law_1379 dL_law_1380 ?_
  refine evL_arg (pc := 1381) (n := 3) rfl rfl hB (by decide) dL_law_1381 dL_law_1382 dL_law_1384 dL_law_1385 dL_law_1386 ?_
  refine evC_I (pc := 1387) (As := [iV (sx ω (i + 1)), iV (sx ω (i + 2)), iV (sx ω (i + 3))]) (rest := []) (M_Cc_odds c1) dL_law_1387 mt_Cc_odds st_Cc_odds ml_La_165 SH20 (by decide) ⟨_, rfl, rfl⟩ (Nat.le_of_ble_eq_true rfl) rfl rfl (Nat.le_trans sm_z (by decide)) hcl hsl ?_
  refine ev_aload_n (pc := 1390) (i := 2) dL_law_1390 rfl rfl ?_
  refine evL_arg (pc := 1391) (n := 1) rfl rfl hB (by decide) dL_law_1391 dL_law_1392 dL_law_1394 dL_law_1395 dL_law_1396 ?_
  refine evL_arg (pc := 1397) (n := 2) rfl rfl hB (by decide) dL_law_1397 dL_law_1398 dL_law_1400 dL_law_1401 dL_law_1402 ?_
  refine evL_arg (pc := 1403) (n := 3) rfl rfl hB (by decide) dL_law_1403 dL_law_1404 dL_law_1406 dL_law_1407 dL_law_1408 ?_
  refine evC_I (pc := 1409) (As := [iV (sx ω (i + 1)), iV (sx ω (i + 2)), iV (sx ω (i + 3))]) (rest := [iV r]) (M_Md_odds c2) dL_law_1409 mt_Md_odds st_Md_odds ml_La_168 SH2000 (by decide) ⟨_, rfl, rfl⟩ (Nat.le_of_ble_eq_true rfl) rfl rfl (Nat.le_trans (sm_1 (cat_iV _) sm_z) (by decide)) hcl hsl ?_
  exact evP_icmp_eq (pc := 1412) (tgt := 1530) dL_law_1412 rfl (fun _ => k h2 c4) (fun g => absurd c3 g)
set_option maxHeartbeats 1000000 in
theorem L_all {I : Hp → Prop} {ω : Wd} {PQ : PQt} {cl sl : Nat} {h : Hp} {i : Int} (hB : hBt ω i) (hcl : cl ≤ 601024) (hsl : sl ≤ 7293034) (hS : S_all I) (hI : I h) (k : ∀ h2 : Hp, I h2 → EvL ω PQ cl sl h2 1530 i []) : EvL ω PQ cl sl h 1417 i [] := by
  obtain ⟨r, h1, r2, h2, c1, c2, c3, c4⟩ := hS h (sx ω (i + 1)) hI (ir_toInt _)
  refine ev_aload_n (pc := 1417) (i := 1) dL_law_1417 rfl rfl ?_
  refine evL_arg (pc := 1418) (n := 1) rfl rfl hB (by decide) dL_law_1418 dL_law_1419 dL_law_1421 dL_law_1422 dL_law_1423 ?_
  refine evC_I (pc := 1424) (As := [iV (sx ω (i + 1))]) (rest := []) (M_Cc_all c1) dL_law_1424 mt_Cc_all st_Cc_all ml_La_169 SH20 (by decide) ⟨_, rfl, rfl⟩ (Nat.le_of_ble_eq_true rfl) rfl rfl (Nat.le_trans sm_z (by decide)) hcl hsl ?_
  refine ev_aload_n (pc := 1427) (i := 2) dL_law_1427 rfl rfl ?_
  refine evL_arg (pc := 1428) (n := 1) rfl rfl hB (by decide) dL_law_1428 dL_law_1429 dL_law_1431 dL_law_1432 dL_law_1433 ?_
  refine evC_I (pc := 1434) (As := [iV (sx ω (i + 1))]) (rest := [iV r]) (M_Md_all c2) dL_law_1434 mt_Md_all st_Md_all ml_La_172 SH2000 (by decide) ⟨_, rfl, rfl⟩ (Nat.le_of_ble_eq_true rfl) rfl rfl (Nat.le_trans (sm_1 (cat_iV _) sm_z) (by decide)) hcl hsl ?_
  exact evP_icmp_eq (pc := 1437) (tgt := 1530) dL_law_1437 rfl (fun _ => k h2 c4) (fun g => absurd c3 g)
set_option maxHeartbeats 1000000 in
theorem L_circle {I : Hp → Prop} {ω : Wd} {PQ : PQt} {cl sl : Nat} {h : Hp} {i : Int} (hB : hBt ω i) (hcl : cl ≤ 601024) (hsl : sl ≤ 7293034) (hS : S_circle I) (hI : I h) (k : ∀ h2 : Hp, I h2 → EvL ω PQ cl sl h2 1530 i []) : EvL ω PQ cl sl h 1442 i [] := by
  obtain ⟨r, h1, r2, h2, c1, c2, c3, c4⟩ := hS h (sx ω (i + 1)) (sx ω (i + 2)) hI (ir_toInt _) (ir_toInt _)
  refine ev_aload_n (pc := 1442) (i := 1) dL_law_1442 rfl rfl ?_
  refine evL_arg (pc := 1443) (n := 1) rfl rfl hB (by decide) dL_law_1443 dL_law_1444 dL_law_1446 dL_law_1447 dL_law_1448 ?_
  refine evL_arg (pc := 1449) (n := 2) rfl rfl hB (by decide) dL_law_1449 dL_law_1450 dL_law_1452 dL_law_1453 dL_law_1454 ?_
  refine evC_I (pc := 1455) (As := [iV (sx ω (i + 1)), iV (sx ω (i + 2))]) (rest := []) (M_Cc_circle c1) dL_law_1455 mt_Cc_circle st_Cc_circle ml_La_173 SH20 (by decide) ⟨_, rfl, rfl⟩ (Nat.le_of_ble_eq_true rfl) rfl rfl (Nat.le_trans sm_z (by decide)) hcl hsl ?_
  refine ev_aload_n (pc := 1458) (i := 2) dL_law_1458 rfl rfl ?_
  refine evL_arg (pc := 1459) (n := 1) rfl rfl hB (by decide) dL_law_1459 dL_law_1460 dL_law_1462 dL_law_1463 dL_law_1464 ?_
  refine evL_arg (pc := 1465) (n := 2) rfl rfl hB (by decide) dL_law_1465 dL_law_1466 dL_law_1468 dL_law_1469 dL_law_1470 ?_
  refine evC_I (pc := 1471) (As := [iV (sx ω (i + 1)), iV (sx ω (i + 2))]) (rest := [iV r]) (M_Md_circle c2) dL_law_1471 mt_Md_circle st_Md_circle ml_La_176 SH2000 (by decide) ⟨_, rfl, rfl⟩ (Nat.le_of_ble_eq_true rfl) rfl rfl (Nat.le_trans (sm_1 (cat_iV _) sm_z) (by decide)) hcl hsl ?_
  exact evP_icmp_eq (pc := 1474) (tgt := 1530) dL_law_1474 rfl (fun _ => k h2 c4) (fun g => absurd c3 g)
set_option maxHeartbeats 1000000 in
theorem L_image {I : Hp → Prop} {ω : Wd} {PQ : PQt} {cl sl : Nat} {h : Hp} {i : Int} (hB : hBt ω i) (hcl : cl ≤ 601024) (hsl : sl ≤ 7293034) (hS : S_image I) (hI : I h) (k : ∀ h2 : Hp, I h2 → EvL ω PQ cl sl h2 1530 i []) : EvL ω PQ cl sl h 1479 i [] := by
  obtain ⟨r, h1, r2, h2, c1, c2, c3, c4⟩ := hS h hI
  refine ev_aload_n (pc := 1479) (i := 1) dL_law_1479 rfl rfl ?_
  refine evC_I (pc := 1480) (As := []) (rest := []) (M_Cc_image c1) dL_law_1480 mt_Cc_image st_Cc_image ml_La_177 SH20 (by decide) ⟨_, rfl, rfl⟩ (Nat.le_of_ble_eq_true rfl) rfl rfl (Nat.le_trans sm_z (by decide)) hcl hsl ?_
  refine ev_aload_n (pc := 1483) (i := 2) dL_law_1483 rfl rfl ?_
  refine evC_I (pc := 1484) (As := []) (rest := [iV r]) (M_Md_image c2) dL_law_1484 mt_Md_image st_Md_image ml_La_180 SH2000 (by decide) ⟨_, rfl, rfl⟩ (Nat.le_of_ble_eq_true rfl) rfl rfl (Nat.le_trans (sm_1 (cat_iV _) sm_z) (by decide)) hcl hsl ?_
  exact evP_icmp_eq (pc := 1487) (tgt := 1530) dL_law_1487 rfl (fun _ => k h2 c4) (fun g => absurd c3 g)
set_option maxHeartbeats 1000000 in
theorem L_back {I : Hp → Prop} {ω : Wd} {PQ : PQt} {cl sl : Nat} {h : Hp} {i : Int} (hB : hBt ω i) (hcl : cl ≤ 601024) (hsl : sl ≤ 7293034) (hS : S_back I) (hI : I h) (k : ∀ h2 : Hp, I h2 → EvL ω PQ cl sl h2 1530 i []) : EvL ω PQ cl sl h 1492 i [] := by
  obtain ⟨r, h1, r2, h2, c1, c2, c3, c4⟩ := hS h hI
  refine ev_aload_n (pc := 1492) (i := 1) dL_law_1492 rfl rfl ?_
  refine evC_I (pc := 1493) (As := []) (rest := []) (M_Cc_back c1) dL_law_1493 mt_Cc_back st_Cc_back ml_La_181 SH20 (by decide) ⟨_, rfl, rfl⟩ (Nat.le_of_ble_eq_true rfl) rfl rfl (Nat.le_trans sm_z (by decide)) hcl hsl ?_
  refine ev_aload_n (pc := 1496) (i := 2) dL_law_1496 rfl rfl ?_
  refine evC_I (pc := 1497) (As := []) (rest := [iV r]) (M_Md_back c2) dL_law_1497 mt_Md_back st_Md_back ml_La_184 SH2000 (by decide) ⟨_, rfl, rfl⟩ (Nat.le_of_ble_eq_true rfl) rfl rfl (Nat.le_trans (sm_1 (cat_iV _) sm_z) (by decide)) hcl hsl ?_
  exact evP_icmp_eq (pc := 1500) (tgt := 1530) dL_law_1500 rfl (fun _ => k h2 c4) (fun g => absurd c3 g)
set_option maxHeartbeats 1000000 in
theorem L_count {I : Hp → Prop} {ω : Wd} {PQ : PQt} {cl sl : Nat} {h : Hp} {i : Int} (hB : hBt ω i) (hcl : cl ≤ 601024) (hsl : sl ≤ 7293034) (hS : S_count I) (hI : I h) (k : ∀ h2 : Hp, I h2 → EvL ω PQ cl sl h2 1530 i []) : EvL ω PQ cl sl h 1505 i [] := by
  obtain ⟨r, h1, r2, h2, c1, c2, c3, c4⟩ := hS h (sx ω (i + 1)) hI (ir_toInt _)
  refine ev_aload_n (pc := 1505) (i := 1) dL_law_1505 rfl rfl ?_
  refine evL_arg (pc := 1506) (n := 1) rfl rfl hB (by decide) dL_law_1506 dL_law_1507 dL_law_1509 dL_law_1510 dL_law_1511 ?_
  refine evC_I (pc := 1512) (As := [iV (sx ω (i + 1))]) (rest := []) (M_Cc_count c1) dL_law_1512 mt_Cc_count st_Cc_count ml_La_185 SH20 (by decide) ⟨_, rfl, rfl⟩ (Nat.le_of_ble_eq_true rfl) rfl rfl (Nat.le_trans sm_z (by decide)) hcl hsl ?_
  refine ev_aload_n (pc := 1515) (i := 2) dL_law_1515 rfl rfl ?_
  refine evL_arg (pc := 1516) (n := 1) rfl rfl hB (by decide) dL_law_1516 dL_law_1517 dL_law_1519 dL_law_1520 dL_law_1521 ?_
  refine evC_I (pc := 1522) (As := [iV (sx ω (i + 1))]) (rest := [iV r]) (M_Md_count c2) dL_law_1522 mt_Md_count st_Md_count ml_La_188 SH2000 (by decide) ⟨_, rfl, rfl⟩ (Nat.le_of_ble_eq_true rfl) rfl rfl (Nat.le_trans (sm_1 (cat_iV _) sm_z) (by decide)) hcl hsl ?_
  exact evP_icmp_eq (pc := 1525) (tgt := 1530) dL_law_1525 rfl (fun _ => k h2 c4) (fun g => absurd c3 g)
end LawLoop
