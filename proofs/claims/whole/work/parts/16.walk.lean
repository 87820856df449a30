set_option maxRecDepth 100000 in
set_option maxHeartbeats 4000000 in
theorem b_X7_born_105 {g : GT} (G : GOOD g RX7 cX7_born 6 rm_X7_born) {q_t q_t_s q_t_k q_t_laid q_t_errors q_t_step q_t_named q_t_pile q_t_sums1 q_t_parts1 q_t_trace q_t_bits q_t_sizes q_t_number q_t_aside : Nat} {c_images : Int32} {c_at : Int32} {c_open : Int32} {c_steps : Int32} {c_use : Int32} {c_traced : Int32} {c_speaks : Int32} {c_isParted : Int32} {Q : Int32 → (Nat → Int32) → Prop} (R : RETi g cX7_born 2 (fun (r : Int32) w => ∃ (c_s' : Nat → Int32), Q r c_s' ∧ w = [(q_t, .inr (7, [.ref q_t_s, .ref q_t_k, .ref q_t_laid, .int c_images, .ref q_t_errors, .int c_at, .int c_open, .int c_steps, .int c_use, .ref q_t_step, .ref q_t_named, .ref q_t_pile, .ref q_t_sums1, .ref q_t_parts1, .int c_traced, .ref q_t_trace, .int c_speaks, .int c_isParted, .ref q_t_bits, .ref q_t_sizes, .ref q_t_number, .ref q_t_aside])), (q_t_s, .inl (g.X.cI, 476, .inl c_s'))])) : ∀ (n : Nat) (x4 : Int32) (x5 : Int32) (c_s : Nat → Int32), wp_X7_born_b105 Q n x4 x5 c_s → ST g 0 0 105 [(0, .ref q_t), (4, .int x4), (5, .int x5)] [] [(q_t, .inr (7, [.ref q_t_s, .ref q_t_k, .ref q_t_laid, .int c_images, .ref q_t_errors, .int c_at, .int c_open, .int c_steps, .int c_use, .ref q_t_step, .ref q_t_named, .ref q_t_pile, .ref q_t_sums1, .ref q_t_parts1, .int c_traced, .ref q_t_trace, .int c_speaks, .int c_isParted, .ref q_t_bits, .ref q_t_sizes, .ref q_t_number, .ref q_t_aside])), (q_t_s, .inl (g.X.cI, 476, .inl c_s))] := by
  intro n
  induction n with
  | zero => intro x4 x5 c_s h; exact False.elim h
  | succ n hK105 =>
    intro x4 x5 c_s h
    unfold wp_X7_born_b105 at h
    refine st_iload G 107 rfl 2 rfl dX7_born_105 ?_
    refine st_bipush G 109 rfl (8 : Int32) (by decide) dX7_born_107 ?_
    refine st_icmp_ge G 152 112 rfl dX7_born_109 rfl (fun c => ?_) (fun c => ?_)
    · have h := h.1 c
      refine st_aload_n G 153 rfl 0 rfl dX7_born_152 rfl ?_
      refine st_get G inX7 rfl 0 (by decide) wd_82 156 rfl 0 rfl rfl dX7_born_153 ?_
      refine st_iconst G 157 rfl (4 : Int32) (by decide) dX7_born_156 ?_
      refine st_dup2 G 158 rfl dX7_born_157 rfl rfl ?_
      obtain ⟨hin, h⟩ := h
      refine st_iald G 159 rfl 1 rfl hin dX7_born_158 ?_
      refine st_iconst G 160 rfl (1 : Int32) (by decide) dX7_born_159 ?_
      refine st_iadd G 161 rfl dX7_born_160 ?_
      obtain ⟨hin, h⟩ := h
      obtain ⟨c_s_161, ec_s_161⟩ : ∃ y : Nat → Int32, y = upd c_s (4 : Int32).toNatClampNeg ((c_s (4 : Int32).toNatClampNeg) + (1 : Int32)) := ⟨_, rfl⟩
      have h := h c_s_161 ec_s_161
      refine st_iast G [(q_t, .inr (7, [.ref q_t_s, .ref q_t_k, .ref q_t_laid, .int c_images, .ref q_t_errors, .int c_at, .int c_open, .int c_steps, .int c_use, .ref q_t_step, .ref q_t_named, .ref q_t_pile, .ref q_t_sums1, .ref q_t_parts1, .int c_traced, .ref q_t_trace, .int c_speaks, .int c_isParted, .ref q_t_bits, .ref q_t_sizes, .ref q_t_number, .ref q_t_aside])), (q_t_s, .inl (g.X.cI, 476, .inl c_s_161))] 162 rfl 1 rfl hin (by subst ec_s_161; rfl) dX7_born_161 ?_
      refine st_iload G 164 rfl 1 rfl dX7_born_162 ?_
      exact R _ _ _ _ dX7_born_164 (Nat.le_of_ble_eq_true rfl) ⟨_, h, rfl⟩
    have h := h.2 c
    refine st_aload_n G 113 rfl 0 rfl dX7_born_112 rfl ?_
    refine st_get G inX7 rfl 0 (by decide) wd_82 116 rfl 0 rfl rfl dX7_born_113 ?_
    refine st_bipush G 118 rfl (78 : Int32) (by decide) dX7_born_116 ?_
    refine st_bipush G 120 rfl (8 : Int32) (by decide) dX7_born_118 ?_
    refine st_iload G 122 rfl 1 rfl dX7_born_120 ?_
    refine st_imul G 123 rfl dX7_born_122 ?_
    refine st_iadd G 124 rfl dX7_born_123 ?_
    refine st_iload G 126 rfl 2 rfl dX7_born_124 ?_
    refine st_iadd G 127 rfl dX7_born_126 ?_
    refine st_iconst G 128 rfl (0 : Int32) (by decide) dX7_born_127 ?_
    obtain ⟨hin, h⟩ := h
    obtain ⟨c_s_128, ec_s_128⟩ : ∃ y : Nat → Int32, y = upd c_s (((78 : Int32) + ((8 : Int32) * x4)) + x5).toNatClampNeg (0 : Int32) := ⟨_, rfl⟩
    have h := h c_s_128 ec_s_128
    refine st_iast G [(q_t, .inr (7, [.ref q_t_s, .ref q_t_k, .ref q_t_laid, .int c_images, .ref q_t_errors, .int c_at, .int c_open, .int c_steps, .int c_use, .ref q_t_step, .ref q_t_named, .ref q_t_pile, .ref q_t_sums1, .ref q_t_parts1, .int c_traced, .ref q_t_trace, .int c_speaks, .int c_isParted, .ref q_t_bits, .ref q_t_sizes, .ref q_t_number, .ref q_t_aside])), (q_t_s, .inl (g.X.cI, 476, .inl c_s_128))] 129 rfl 1 rfl hin (by subst ec_s_128; rfl) dX7_born_128 ?_
    refine st_aload_n G 130 rfl 0 rfl dX7_born_129 rfl ?_
    refine st_get G inX7 rfl 0 (by decide) wd_82 133 rfl 0 rfl rfl dX7_born_130 ?_
    refine st_bipush G 135 rfl (78 : Int32) (by decide) dX7_born_133 ?_
    refine st_bipush G 137 rfl (8 : Int32) (by decide) dX7_born_135 ?_
    refine st_iload G 139 rfl 2 rfl dX7_born_137 ?_
    refine st_imul G 140 rfl dX7_born_139 ?_
    refine st_iadd G 141 rfl dX7_born_140 ?_
    refine st_iload G 143 rfl 1 rfl dX7_born_141 ?_
    refine st_iadd G 144 rfl dX7_born_143 ?_
    refine st_iconst G 145 rfl (0 : Int32) (by decide) dX7_born_144 ?_
    obtain ⟨hin, h⟩ := h
    obtain ⟨c_s_145, ec_s_145⟩ : ∃ y : Nat → Int32, y = upd c_s_128 (((78 : Int32) + ((8 : Int32) * x5)) + x4).toNatClampNeg (0 : Int32) := ⟨_, rfl⟩
    have h := h c_s_145 ec_s_145
    refine st_iast G [(q_t, .inr (7, [.ref q_t_s, .ref q_t_k, .ref q_t_laid, .int c_images, .ref q_t_errors, .int c_at, .int c_open, .int c_steps, .int c_use, .ref q_t_step, .ref q_t_named, .ref q_t_pile, .ref q_t_sums1, .ref q_t_parts1, .int c_traced, .ref q_t_trace, .int c_speaks, .int c_isParted, .ref q_t_bits, .ref q_t_sizes, .ref q_t_number, .ref q_t_aside])), (q_t_s, .inl (g.X.cI, 476, .inl c_s_145))] 146 rfl 1 rfl hin (by subst ec_s_145; rfl) dX7_born_145 ?_
    obtain ⟨x5_146, ex5_146⟩ : ∃ y : Int32, y = (x5 + (1 : Int32)) := ⟨_, rfl⟩
    have h := h x5_146 ex5_146
    refine st_iinc G 149 rfl [(5, .int x5_146), (0, .ref q_t), (4, .int x4)] x5_146 2 rfl (by rw [ex5_146]; rfl) dX7_born_146 (by decide) rfl ?_
    refine st_goto G 105 dX7_born_149 rfl ?_
    refine st_L (L' := [(0, .ref q_t), (4, .int x4), (5, .int x5_146)]) [1, 2, 0] rfl ?_
    exact hK105 _ _ _ h
set_option maxRecDepth 100000 in
set_option maxHeartbeats 4000000 in
theorem b_X7_born_49 {g : GT} (G : GOOD g RX7 cX7_born 6 rm_X7_born) {q_t q_t_s q_t_k q_t_laid q_t_errors q_t_step q_t_named q_t_pile q_t_sums1 q_t_parts1 q_t_trace q_t_bits q_t_sizes q_t_number q_t_aside : Nat} {c_images : Int32} {c_at : Int32} {c_open : Int32} {c_steps : Int32} {c_use : Int32} {c_traced : Int32} {c_speaks : Int32} {c_isParted : Int32} {Q : Int32 → (Nat → Int32) → Prop} (R : RETi g cX7_born 2 (fun (r : Int32) w => ∃ (c_s' : Nat → Int32), Q r c_s' ∧ w = [(q_t, .inr (7, [.ref q_t_s, .ref q_t_k, .ref q_t_laid, .int c_images, .ref q_t_errors, .int c_at, .int c_open, .int c_steps, .int c_use, .ref q_t_step, .ref q_t_named, .ref q_t_pile, .ref q_t_sums1, .ref q_t_parts1, .int c_traced, .ref q_t_trace, .int c_speaks, .int c_isParted, .ref q_t_bits, .ref q_t_sizes, .ref q_t_number, .ref q_t_aside])), (q_t_s, .inl (g.X.cI, 476, .inl c_s'))])) : ∀ (n : Nat) (x2 : Int32) (x3 : Int32) (x4 : Int32) (x5 : Int32) (c_s : Nat → Int32), wp_X7_born_b49 Q n x2 x3 x4 x5 c_s → ST g 0 0 49 [(0, .ref q_t), (2, .int x2), (3, .int x3), (4, .int x4), (5, .int x5)] [] [(q_t, .inr (7, [.ref q_t_s, .ref q_t_k, .ref q_t_laid, .int c_images, .ref q_t_errors, .int c_at, .int c_open, .int c_steps, .int c_use, .ref q_t_step, .ref q_t_named, .ref q_t_pile, .ref q_t_sums1, .ref q_t_parts1, .int c_traced, .ref q_t_trace, .int c_speaks, .int c_isParted, .ref q_t_bits, .ref q_t_sizes, .ref q_t_number, .ref q_t_aside])), (q_t_s, .inl (g.X.cI, 476, .inl c_s))] := by
  intro n
  induction n with
  | zero => intro x2 x3 x4 x5 c_s h; exact False.elim h
  | succ n hK49 =>
    intro x2 x3 x4 x5 c_s h
    unfold wp_X7_born_b49 at h
    refine st_iload G 51 rfl 4 rfl dX7_born_49 ?_
    refine st_iconst G 52 rfl (5 : Int32) (by decide) dX7_born_51 ?_
    refine st_icmp_ge G 102 55 rfl dX7_born_52 rfl (fun c => ?_) (fun c => ?_)
    · have h := h.1 c
      refine st_iconst G 103 rfl (0 : Int32) (by decide) dX7_born_102 ?_
      refine st_istore G 105 rfl [(5, .int (0 : Int32)), (0, .ref q_t), (2, .int x2), (3, .int x3), (4, .int x4)] dX7_born_103 (by decide) rfl ?_
      refine st_L (L' := [(0, .ref q_t), (4, .int x4), (5, .int (0 : Int32))]) [1, 4, 0] rfl ?_
      obtain ⟨n, h⟩ := h
      exact b_X7_born_105 G R n _ _ _ h
    have h := h.2 c
    refine st_aload_n G 56 rfl 0 rfl dX7_born_55 rfl ?_
    refine st_get G inX7 rfl 0 (by decide) wd_82 59 rfl 0 rfl rfl dX7_born_56 ?_
    refine st_bipush G 61 rfl (38 : Int32) (by decide) dX7_born_59 ?_
    refine st_iconst G 62 rfl (5 : Int32) (by decide) dX7_born_61 ?_
    refine st_iload G 64 rfl 3 rfl dX7_born_62 ?_
    refine st_imul G 65 rfl dX7_born_64 ?_
    refine st_iadd G 66 rfl dX7_born_65 ?_
    refine st_iload G 68 rfl 4 rfl dX7_born_66 ?_
    refine st_iadd G 69 rfl dX7_born_68 ?_
    refine st_iload_n G 70 rfl 1 rfl dX7_born_69 rfl ?_
    refine st_iconst G 71 rfl (-1 : Int32) (by decide) dX7_born_70 ?_
    refine st_icmp_ne G 78 74 rfl dX7_born_71 rfl (fun c => ?_) (fun c => ?_)
    · have h := h.1 c
      refine st_aload_n G 79 rfl 0 rfl dX7_born_78 rfl ?_
      refine st_iload_n G 80 rfl 1 rfl dX7_born_79 rfl ?_
      refine st_iload G 82 rfl 4 rfl dX7_born_80 ?_
      refine st_cVio G lk_X7_57 (c_X7_has g.l g.D g.X q_t q_t_s q_t_k q_t_laid q_t_errors q_t_step q_t_named q_t_pile q_t_sums1 q_t_parts1 q_t_trace q_t_bits q_t_sizes q_t_number q_t_aside c_images c_at c_open c_steps c_use c_traced c_speaks c_isParted c_s x2 x5 _ h) ⟨rfl, rfl, ⟨Nat.le_of_ble_eq_true rfl, Nat.le_of_ble_eq_true rfl⟩, Nat.zero_le _, Nat.zero_le _⟩ 85 rfl [0, 1] rfl (by decide) 0 7 rfl rfl rfl (Nat.le_of_ble_eq_true rfl) rfl dX7_born_82 (fun r_82 h => ?_)
      refine st_aload_n G 86 rfl 0 rfl dX7_born_85 rfl ?_
      refine st_iload_n G 87 rfl 2 rfl dX7_born_86 rfl ?_
      refine st_iload G 89 rfl 4 rfl dX7_born_87 ?_
      refine st_cVio G lk_X7_57 (c_X7_has g.l g.D g.X q_t q_t_s q_t_k q_t_laid q_t_errors q_t_step q_t_named q_t_pile q_t_sums1 q_t_parts1 q_t_trace q_t_bits q_t_sizes q_t_number q_t_aside c_images c_at c_open c_steps c_use c_traced c_speaks c_isParted c_s x3 x5 _ h) ⟨rfl, rfl, ⟨Nat.le_of_ble_eq_true rfl, Nat.le_of_ble_eq_true rfl⟩, Nat.zero_le _, Nat.zero_le _⟩ 92 rfl [0, 1] rfl (by decide) 0 7 rfl rfl rfl (Nat.le_of_ble_eq_true rfl) rfl dX7_born_89 (fun r_89 h => ?_)
      refine st_iadd G 93 rfl dX7_born_92 ?_
      refine st_iconst G 94 rfl (2 : Int32) (by decide) dX7_born_93 ?_
      refine st_idiv G 95 rfl (by decide) dX7_born_94 ?_
      obtain ⟨hin, h⟩ := h
      obtain ⟨c_s_95, ec_s_95⟩ : ∃ y : Nat → Int32, y = upd c_s (((38 : Int32) + ((5 : Int32) * x4)) + x5).toNatClampNeg ((r_82 + r_89) / (2 : Int32)) := ⟨_, rfl⟩
      have h := h c_s_95 ec_s_95
      refine st_iast G [(q_t, .inr (7, [.ref q_t_s, .ref q_t_k, .ref q_t_laid, .int c_images, .ref q_t_errors, .int c_at, .int c_open, .int c_steps, .int c_use, .ref q_t_step, .ref q_t_named, .ref q_t_pile, .ref q_t_sums1, .ref q_t_parts1, .int c_traced, .ref q_t_trace, .int c_speaks, .int c_isParted, .ref q_t_bits, .ref q_t_sizes, .ref q_t_number, .ref q_t_aside])), (q_t_s, .inl (g.X.cI, 476, .inl c_s_95))] 96 rfl 1 rfl hin (by subst ec_s_95; rfl) dX7_born_95 ?_
      obtain ⟨x5_96, ex5_96⟩ : ∃ y : Int32, y = (x5 + (1 : Int32)) := ⟨_, rfl⟩
      have h := h x5_96 ex5_96
      refine st_iinc G 99 rfl [(5, .int x5_96), (0, .ref q_t), (2, .int x2), (3, .int x3), (4, .int x4)] x5_96 4 rfl (by rw [ex5_96]; rfl) dX7_born_96 (by decide) rfl ?_
      refine st_goto G 49 dX7_born_99 rfl ?_
      refine st_L (L' := [(0, .ref q_t), (2, .int x2), (3, .int x3), (4, .int x4), (5, .int x5_96)]) [1, 2, 3, 4, 0] rfl ?_
      exact hK49 _ _ _ _ _ h
    have h := h.2 c
    refine st_iconst G 75 rfl (0 : Int32) (by decide) dX7_born_74 ?_
    refine st_goto G 95 dX7_born_75 rfl ?_
    obtain ⟨hin, h⟩ := h
    obtain ⟨c_s_95, ec_s_95⟩ : ∃ y : Nat → Int32, y = upd c_s (((38 : Int32) + ((5 : Int32) * x4)) + x5).toNatClampNeg (0 : Int32) := ⟨_, rfl⟩
    have h := h c_s_95 ec_s_95
    refine st_iast G [(q_t, .inr (7, [.ref q_t_s, .ref q_t_k, .ref q_t_laid, .int c_images, .ref q_t_errors, .int c_at, .int c_open, .int c_steps, .int c_use, .ref q_t_step, .ref q_t_named, .ref q_t_pile, .ref q_t_sums1, .ref q_t_parts1, .int c_traced, .ref q_t_trace, .int c_speaks, .int c_isParted, .ref q_t_bits, .ref q_t_sizes, .ref q_t_number, .ref q_t_aside])), (q_t_s, .inl (g.X.cI, 476, .inl c_s_95))] 96 rfl 1 rfl hin (by subst ec_s_95; rfl) dX7_born_95 ?_
    obtain ⟨x5_96, ex5_96⟩ : ∃ y : Int32, y = (x5 + (1 : Int32)) := ⟨_, rfl⟩
    have h := h x5_96 ex5_96
    refine st_iinc G 99 rfl [(5, .int x5_96), (0, .ref q_t), (2, .int x2), (3, .int x3), (4, .int x4)] x5_96 4 rfl (by rw [ex5_96]; rfl) dX7_born_96 (by decide) rfl ?_
    refine st_goto G 49 dX7_born_99 rfl ?_
    refine st_L (L' := [(0, .ref q_t), (2, .int x2), (3, .int x3), (4, .int x4), (5, .int x5_96)]) [1, 2, 3, 4, 0] rfl ?_
    exact hK49 _ _ _ _ _ h
set_option maxRecDepth 100000 in
set_option maxHeartbeats 4000000 in
theorem b_X7_born_e {g : GT} (G : GOOD g RX7 cX7_born 6 rm_X7_born) {q_t q_t_s q_t_k q_t_laid q_t_errors q_t_step q_t_named q_t_pile q_t_sums1 q_t_parts1 q_t_trace q_t_bits q_t_sizes q_t_number q_t_aside : Nat} {c_images : Int32} {c_at : Int32} {c_open : Int32} {c_steps : Int32} {c_use : Int32} {c_traced : Int32} {c_speaks : Int32} {c_isParted : Int32} {c_s : Nat → Int32} {x1 : Int32} {x2 : Int32} {x3 : Int32} {Q : Int32 → (Nat → Int32) → Prop} (R : RETi g cX7_born 2 (fun (r : Int32) w => ∃ (c_s' : Nat → Int32), Q r c_s' ∧ w = [(q_t, .inr (7, [.ref q_t_s, .ref q_t_k, .ref q_t_laid, .int c_images, .ref q_t_errors, .int c_at, .int c_open, .int c_steps, .int c_use, .ref q_t_step, .ref q_t_named, .ref q_t_pile, .ref q_t_sums1, .ref q_t_parts1, .int c_traced, .ref q_t_trace, .int c_speaks, .int c_isParted, .ref q_t_bits, .ref q_t_sizes, .ref q_t_number, .ref q_t_aside])), (q_t_s, .inl (g.X.cI, 476, .inl c_s'))])) (h : wp_X7_born x1 x2 x3 c_s Q) : ST g 0 0 0 [(0, .ref q_t), (1, .int x1), (2, .int x2), (3, .int x3)] [] [(q_t, .inr (7, [.ref q_t_s, .ref q_t_k, .ref q_t_laid, .int c_images, .ref q_t_errors, .int c_at, .int c_open, .int c_steps, .int c_use, .ref q_t_step, .ref q_t_named, .ref q_t_pile, .ref q_t_sums1, .ref q_t_parts1, .int c_traced, .ref q_t_trace, .int c_speaks, .int c_isParted, .ref q_t_bits, .ref q_t_sizes, .ref q_t_number, .ref q_t_aside])), (q_t_s, .inl (g.X.cI, 476, .inl c_s))] := by
  unfold wp_X7_born at h
  refine st_aload_n G 1 rfl 0 rfl dX7_born_0 rfl ?_
  refine st_get G inX7 rfl 0 (by decide) wd_82 4 rfl 0 rfl rfl dX7_born_1 ?_
  refine st_iconst G 5 rfl (4 : Int32) (by decide) dX7_born_4 ?_
  obtain ⟨hin, h⟩ := h
  refine st_iald G 6 rfl 1 rfl hin dX7_born_5 ?_
  refine st_topi (fun x4_6 ex4_6 => ?_)
  have h := h x4_6 ex4_6
  refine st_istore G 8 rfl [(4, .int x4_6), (0, .ref q_t), (1, .int x1), (2, .int x2), (3, .int x3)] dX7_born_6 (by decide) rfl ?_
  refine st_aload_n G 9 rfl 1 rfl dX7_born_8 rfl ?_
  refine st_iload G 11 rfl 0 rfl dX7_born_9 ?_
  refine st_iconst G 12 rfl (0 : Int32) (by decide) dX7_born_11 ?_
  refine st_iload_n G 13 rfl 2 rfl dX7_born_12 rfl ?_
  refine st_bipush G 15 rfl (10 : Int32) (by decide) dX7_born_13 ?_
  refine st_idiv G 16 rfl (by decide) dX7_born_15 ?_
  refine st_cVv G lk_X7_147 (c_X7_lays1 g.l g.D g.X q_t q_t_s q_t_k q_t_laid q_t_errors q_t_step q_t_named q_t_pile q_t_sums1 q_t_parts1 q_t_trace q_t_bits q_t_sizes q_t_number q_t_aside c_images c_at c_open c_steps c_use c_traced c_speaks c_isParted c_s x4_6 (0 : Int32) (x1 / (10 : Int32)) _ h) ⟨rfl, rfl, ⟨Nat.le_of_ble_eq_true rfl, Nat.le_of_ble_eq_true rfl⟩, Nat.zero_le _, Nat.zero_le _⟩ 19 rfl [0, 1] rfl (by decide) 0 7 rfl rfl rfl (Nat.le_of_ble_eq_true rfl) rfl dX7_born_16 (fun w hq => ?_)
  obtain ⟨c_s_16, h, rfl⟩ := hq
  refine st_wp (ws' := [(q_t, .inr (7, [.ref q_t_s, .ref q_t_k, .ref q_t_laid, .int c_images, .ref q_t_errors, .int c_at, .int c_open, .int c_steps, .int c_use, .ref q_t_step, .ref q_t_named, .ref q_t_pile, .ref q_t_sums1, .ref q_t_parts1, .int c_traced, .ref q_t_trace, .int c_speaks, .int c_isParted, .ref q_t_bits, .ref q_t_sizes, .ref q_t_number, .ref q_t_aside])), (q_t_s, .inl (g.X.cI, 476, .inl c_s_16))]) 2 [] (by decide) rfl rfl (by rfl) [] (by rfl) rfl ?_
  refine st_aload_n G 20 rfl 1 rfl dX7_born_19 rfl ?_
  refine st_iload G 22 rfl 0 rfl dX7_born_20 ?_
  refine st_iconst G 23 rfl (1 : Int32) (by decide) dX7_born_22 ?_
  refine st_iload_n G 24 rfl 2 rfl dX7_born_23 rfl ?_
  refine st_bipush G 26 rfl (10 : Int32) (by decide) dX7_born_24 ?_
  refine st_irem G 27 rfl (by decide) dX7_born_26 ?_
  refine st_cVv G lk_X7_147 (c_X7_lays1 g.l g.D g.X q_t q_t_s q_t_k q_t_laid q_t_errors q_t_step q_t_named q_t_pile q_t_sums1 q_t_parts1 q_t_trace q_t_bits q_t_sizes q_t_number q_t_aside c_images c_at c_open c_steps c_use c_traced c_speaks c_isParted c_s_16 x4_6 (1 : Int32) (x1 - x1 / (10 : Int32) * (10 : Int32)) _ h) ⟨rfl, rfl, ⟨Nat.le_of_ble_eq_true rfl, Nat.le_of_ble_eq_true rfl⟩, Nat.zero_le _, Nat.zero_le _⟩ 30 rfl [0, 1] rfl (by decide) 0 7 rfl rfl rfl (Nat.le_of_ble_eq_true rfl) rfl dX7_born_27 (fun w hq => ?_)
  obtain ⟨c_s_27, h, rfl⟩ := hq
  refine st_wp (ws' := [(q_t, .inr (7, [.ref q_t_s, .ref q_t_k, .ref q_t_laid, .int c_images, .ref q_t_errors, .int c_at, .int c_open, .int c_steps, .int c_use, .ref q_t_step, .ref q_t_named, .ref q_t_pile, .ref q_t_sums1, .ref q_t_parts1, .int c_traced, .ref q_t_trace, .int c_speaks, .int c_isParted, .ref q_t_bits, .ref q_t_sizes, .ref q_t_number, .ref q_t_aside])), (q_t_s, .inl (g.X.cI, 476, .inl c_s_27))]) 2 [] (by decide) rfl rfl (by rfl) [] (by rfl) rfl ?_
  refine st_aload_n G 31 rfl 1 rfl dX7_born_30 rfl ?_
  refine st_iload G 33 rfl 0 rfl dX7_born_31 ?_
  refine st_iconst G 34 rfl (2 : Int32) (by decide) dX7_born_33 ?_
  refine st_iload_n G 35 rfl 3 rfl dX7_born_34 rfl ?_
  refine st_cVv G lk_X7_147 (c_X7_lays1 g.l g.D g.X q_t q_t_s q_t_k q_t_laid q_t_errors q_t_step q_t_named q_t_pile q_t_sums1 q_t_parts1 q_t_trace q_t_bits q_t_sizes q_t_number q_t_aside c_images c_at c_open c_steps c_use c_traced c_speaks c_isParted c_s_27 x4_6 (2 : Int32) x2 _ h) ⟨rfl, rfl, ⟨Nat.le_of_ble_eq_true rfl, Nat.le_of_ble_eq_true rfl⟩, Nat.zero_le _, Nat.zero_le _⟩ 38 rfl [0, 1] rfl (by decide) 0 7 rfl rfl rfl (Nat.le_of_ble_eq_true rfl) rfl dX7_born_35 (fun w hq => ?_)
  obtain ⟨c_s_35, h, rfl⟩ := hq
  refine st_wp (ws' := [(q_t, .inr (7, [.ref q_t_s, .ref q_t_k, .ref q_t_laid, .int c_images, .ref q_t_errors, .int c_at, .int c_open, .int c_steps, .int c_use, .ref q_t_step, .ref q_t_named, .ref q_t_pile, .ref q_t_sums1, .ref q_t_parts1, .int c_traced, .ref q_t_trace, .int c_speaks, .int c_isParted, .ref q_t_bits, .ref q_t_sizes, .ref q_t_number, .ref q_t_aside])), (q_t_s, .inl (g.X.cI, 476, .inl c_s_35))]) 2 [] (by decide) rfl rfl (by rfl) [] (by rfl) rfl ?_
  refine st_aload_n G 39 rfl 1 rfl dX7_born_38 rfl ?_
  refine st_iload G 41 rfl 0 rfl dX7_born_39 ?_
  refine st_iconst G 42 rfl (3 : Int32) (by decide) dX7_born_41 ?_
  refine st_iload_n G 43 rfl 4 rfl dX7_born_42 rfl ?_
  refine st_cVv G lk_X7_147 (c_X7_lays1 g.l g.D g.X q_t q_t_s q_t_k q_t_laid q_t_errors q_t_step q_t_named q_t_pile q_t_sums1 q_t_parts1 q_t_trace q_t_bits q_t_sizes q_t_number q_t_aside c_images c_at c_open c_steps c_use c_traced c_speaks c_isParted c_s_35 x4_6 (3 : Int32) x3 _ h) ⟨rfl, rfl, ⟨Nat.le_of_ble_eq_true rfl, Nat.le_of_ble_eq_true rfl⟩, Nat.zero_le _, Nat.zero_le _⟩ 46 rfl [0, 1] rfl (by decide) 0 7 rfl rfl rfl (Nat.le_of_ble_eq_true rfl) rfl dX7_born_43 (fun w hq => ?_)
  obtain ⟨c_s_43, h, rfl⟩ := hq
  refine st_wp (ws' := [(q_t, .inr (7, [.ref q_t_s, .ref q_t_k, .ref q_t_laid, .int c_images, .ref q_t_errors, .int c_at, .int c_open, .int c_steps, .int c_use, .ref q_t_step, .ref q_t_named, .ref q_t_pile, .ref q_t_sums1, .ref q_t_parts1, .int c_traced, .ref q_t_trace, .int c_speaks, .int c_isParted, .ref q_t_bits, .ref q_t_sizes, .ref q_t_number, .ref q_t_aside])), (q_t_s, .inl (g.X.cI, 476, .inl c_s_43))]) 2 [] (by decide) rfl rfl (by rfl) [] (by rfl) rfl ?_
  refine st_iconst G 47 rfl (0 : Int32) (by decide) dX7_born_46 ?_
  refine st_istore G 49 rfl [(5, .int (0 : Int32)), (4, .int x4_6), (0, .ref q_t), (1, .int x1), (2, .int x2), (3, .int x3)] dX7_born_47 (by decide) rfl ?_
  refine st_L (L' := [(0, .ref q_t), (2, .int x2), (3, .int x3), (4, .int x4_6), (5, .int (0 : Int32))]) [2, 4, 5, 1, 0] rfl ?_
  obtain ⟨n, h⟩ := h
  exact b_X7_born_49 G R n _ _ _ _ _ h
set_option maxRecDepth 100000 in
set_option maxHeartbeats 4000000 in
theorem c_X7_born (l : Launch) (D : va_G) (X : XT) (q_t q_t_s q_t_k q_t_laid q_t_errors q_t_step q_t_named q_t_pile q_t_sums1 q_t_parts1 q_t_trace q_t_bits q_t_sizes q_t_number q_t_aside : Nat) (c_images : Int32) (c_at : Int32) (c_open : Int32) (c_steps : Int32) (c_use : Int32) (c_traced : Int32) (c_speaks : Int32) (c_isParted : Int32) (c_s : Nat → Int32) (x1 : Int32) (x2 : Int32) (x3 : Int32) (Q : Int32 → (Nat → Int32) → Prop) (h : wp_X7_born x1 x2 x3 c_s Q) : CTi l D X yX7_born cX7_born 6 .int rm_X7_born [.ref q_t, .int x1, .int x2, .int x3] [(q_t, .inr (7, [.ref q_t_s, .ref q_t_k, .ref q_t_laid, .int c_images, .ref q_t_errors, .int c_at, .int c_open, .int c_steps, .int c_use, .ref q_t_step, .ref q_t_named, .ref q_t_pile, .ref q_t_sums1, .ref q_t_parts1, .int c_traced, .ref q_t_trace, .int c_speaks, .int c_isParted, .ref q_t_bits, .ref q_t_sizes, .ref q_t_number, .ref q_t_aside])), (q_t_s, .inl (X.cI, 476, .inl c_s))] (fun (r : Int32) w => ∃ (c_s' : Nat → Int32), Q r c_s' ∧ w = [(q_t, .inr (7, [.ref q_t_s, .ref q_t_k, .ref q_t_laid, .int c_images, .ref q_t_errors, .int c_at, .int c_open, .int c_steps, .int c_use, .ref q_t_step, .ref q_t_named, .ref q_t_pile, .ref q_t_sums1, .ref q_t_parts1, .int c_traced, .ref q_t_trace, .int c_speaks, .int c_isParted, .ref q_t_bits, .ref q_t_sizes, .ref q_t_number, .ref q_t_aside])), (q_t_s, .inl (X.cI, 476, .inl c_s'))]) :=
  ct_i (by decide) (Nat.le_of_ble_eq_true rfl) (fun g hl hD hX G R => by subst hl; subst hD; subst hX; exact b_X7_born_e G R h)
set_option maxRecDepth 100000 in
set_option maxHeartbeats 4000000 in
theorem b_X7_person_e {g : GT} (G : GOOD g RX7 cX7_person 2 rm_X7_person) {q_t q_t_s q_t_k q_t_laid q_t_errors q_t_step q_t_named q_t_pile q_t_sums1 q_t_parts1 q_t_trace q_t_bits q_t_sizes q_t_number q_t_aside : Nat} {c_images : Int32} {c_at : Int32} {c_open : Int32} {c_steps : Int32} {c_use : Int32} {c_traced : Int32} {c_speaks : Int32} {c_isParted : Int32} {c_s : Nat → Int32} {c_errors : Nat → Int32} {x1 : Int32} {Q : Int32 → (Nat → Int32) → (Nat → Int32) → Prop} (R : RETi g cX7_person 3 (fun (r : Int32) w => ∃ (c_s' : Nat → Int32) (c_errors' : Nat → Int32), Q r c_s' c_errors' ∧ w = [(q_t, .inr (7, [.ref q_t_s, .ref q_t_k, .ref q_t_laid, .int c_images, .ref q_t_errors, .int c_at, .int c_open, .int c_steps, .int c_use, .ref q_t_step, .ref q_t_named, .ref q_t_pile, .ref q_t_sums1, .ref q_t_parts1, .int c_traced, .ref q_t_trace, .int c_speaks, .int c_isParted, .ref q_t_bits, .ref q_t_sizes, .ref q_t_number, .ref q_t_aside])), (q_t_s, .inl (g.X.cI, 476, .inl c_s')), (q_t_errors, .inl (g.X.cI, 7, .inl c_errors'))])) (h : wp_X7_person x1 c_s c_errors Q) : ST g 0 0 0 [(0, .ref q_t), (1, .int x1)] [] [(q_t, .inr (7, [.ref q_t_s, .ref q_t_k, .ref q_t_laid, .int c_images, .ref q_t_errors, .int c_at, .int c_open, .int c_steps, .int c_use, .ref q_t_step, .ref q_t_named, .ref q_t_pile, .ref q_t_sums1, .ref q_t_parts1, .int c_traced, .ref q_t_trace, .int c_speaks, .int c_isParted, .ref q_t_bits, .ref q_t_sizes, .ref q_t_number, .ref q_t_aside])), (q_t_s, .inl (g.X.cI, 476, .inl c_s)), (q_t_errors, .inl (g.X.cI, 7, .inl c_errors))] := by
  unfold wp_X7_person at h
  refine st_iload_n G 1 rfl 1 rfl dX7_person_0 rfl ?_
  refine st_cSio G lk_X7_150 (c_X7_isKind g.l g.D g.X x1 _ h) ⟨rfl, rfl, ⟨Nat.le_of_ble_eq_true rfl, Nat.le_of_ble_eq_true rfl⟩, Nat.zero_le _, Nat.zero_le _⟩ 4 rfl [] rfl (by decide) rfl (Nat.le_of_ble_eq_true rfl) rfl dX7_person_1 (fun r_1 h => ?_)
  refine st_if_ne G 13 7 rfl dX7_person_4 rfl (fun c => ?_) (fun c => ?_)
  · have h := h.1 c
    refine st_aload_n G 14 rfl 0 rfl dX7_person_13 rfl ?_
    refine st_get G inX7 rfl 0 (by decide) wd_82 17 rfl 0 rfl rfl dX7_person_14 ?_
    refine st_iconst G 18 rfl (4 : Int32) (by decide) dX7_person_17 ?_
    obtain ⟨hin, h⟩ := h
    refine st_iald G 19 rfl 1 rfl hin dX7_person_18 ?_
    refine st_bipush G 21 rfl (8 : Int32) (by decide) dX7_person_19 ?_
    refine st_icmp_ne G 32 24 rfl dX7_person_21 rfl (fun c => ?_) (fun c => ?_)
    · have h := h.1 c
      refine st_aload_n G 33 rfl 0 rfl dX7_person_32 rfl ?_
      refine st_iload_n G 34 rfl 1 rfl dX7_person_33 rfl ?_
      refine st_iconst G 35 rfl (-1 : Int32) (by decide) dX7_person_34 ?_
      refine st_iconst G 36 rfl (-1 : Int32) (by decide) dX7_person_35 ?_
      refine st_cVi G lk_X7_153 (c_X7_born g.l g.D g.X q_t q_t_s q_t_k q_t_laid q_t_errors q_t_step q_t_named q_t_pile q_t_sums1 q_t_parts1 q_t_trace q_t_bits q_t_sizes q_t_number q_t_aside c_images c_at c_open c_steps c_use c_traced c_speaks c_isParted c_s x1 (-1 : Int32) (-1 : Int32) _ h) ⟨rfl, rfl, ⟨Nat.le_of_ble_eq_true rfl, Nat.le_of_ble_eq_true rfl⟩, Nat.zero_le _, Nat.zero_le _⟩ 39 rfl [0, 1] rfl (by decide) 0 7 rfl rfl rfl (Nat.le_of_ble_eq_true rfl) rfl dX7_person_36 (fun r_36 w hq => ?_)
      obtain ⟨c_s_36, h, rfl⟩ := hq
      refine st_wp (ws' := [(q_t, .inr (7, [.ref q_t_s, .ref q_t_k, .ref q_t_laid, .int c_images, .ref q_t_errors, .int c_at, .int c_open, .int c_steps, .int c_use, .ref q_t_step, .ref q_t_named, .ref q_t_pile, .ref q_t_sums1, .ref q_t_parts1, .int c_traced, .ref q_t_trace, .int c_speaks, .int c_isParted, .ref q_t_bits, .ref q_t_sizes, .ref q_t_number, .ref q_t_aside])), (q_t_s, .inl (g.X.cI, 476, .inl c_s_36)), (q_t_errors, .inl (g.X.cI, 7, .inl c_errors))]) 3 [2] (by decide) rfl rfl (by rfl) [(q_t_errors, .inl (g.X.cI, 7, .inl c_errors))] (by rfl) rfl ?_
      exact R _ _ _ _ dX7_person_39 (Nat.le_of_ble_eq_true rfl) ⟨_, _, h, rfl⟩
    have h := h.2 c
    refine st_aload_n G 25 rfl 0 rfl dX7_person_24 rfl ?_
    refine st_iconst G 26 rfl (4 : Int32) (by decide) dX7_person_25 ?_
    refine st_cVi G lk_X7_65 (c_X7_error g.l g.D g.X q_t q_t_s q_t_k q_t_laid q_t_errors q_t_step q_t_named q_t_pile q_t_sums1 q_t_parts1 q_t_trace q_t_bits q_t_sizes q_t_number q_t_aside c_images c_at c_open c_steps c_use c_traced c_speaks c_isParted c_errors (4 : Int32) _ h) ⟨rfl, rfl, ⟨Nat.le_of_ble_eq_true rfl, Nat.le_of_ble_eq_true rfl⟩, Nat.zero_le _, Nat.zero_le _⟩ 29 rfl [0, 2] rfl (by decide) 0 7 rfl rfl rfl (Nat.le_of_ble_eq_true rfl) rfl dX7_person_26 (fun r_26 w hq => ?_)
    obtain ⟨c_errors_26, h, rfl⟩ := hq
    refine st_wp (ws' := [(q_t, .inr (7, [.ref q_t_s, .ref q_t_k, .ref q_t_laid, .int c_images, .ref q_t_errors, .int c_at, .int c_open, .int c_steps, .int c_use, .ref q_t_step, .ref q_t_named, .ref q_t_pile, .ref q_t_sums1, .ref q_t_parts1, .int c_traced, .ref q_t_trace, .int c_speaks, .int c_isParted, .ref q_t_bits, .ref q_t_sizes, .ref q_t_number, .ref q_t_aside])), (q_t_s, .inl (g.X.cI, 476, .inl c_s)), (q_t_errors, .inl (g.X.cI, 7, .inl c_errors_26))]) 3 [1] (by decide) rfl rfl (by rfl) [(q_t_s, .inl (g.X.cI, 476, .inl c_s))] (by rfl) rfl ?_
    refine st_goto G 39 dX7_person_29 rfl ?_
    exact R _ _ _ _ dX7_person_39 (Nat.le_of_ble_eq_true rfl) ⟨_, _, h, rfl⟩
  have h := h.2 c
  refine st_aload_n G 8 rfl 0 rfl dX7_person_7 rfl ?_
  refine st_iconst G 9 rfl (1 : Int32) (by decide) dX7_person_8 ?_
  refine st_cVi G lk_X7_65 (c_X7_error g.l g.D g.X q_t q_t_s q_t_k q_t_laid q_t_errors q_t_step q_t_named q_t_pile q_t_sums1 q_t_parts1 q_t_trace q_t_bits q_t_sizes q_t_number q_t_aside c_images c_at c_open c_steps c_use c_traced c_speaks c_isParted c_errors (1 : Int32) _ h) ⟨rfl, rfl, ⟨Nat.le_of_ble_eq_true rfl, Nat.le_of_ble_eq_true rfl⟩, Nat.zero_le _, Nat.zero_le _⟩ 12 rfl [0, 2] rfl (by decide) 0 7 rfl rfl rfl (Nat.le_of_ble_eq_true rfl) rfl dX7_person_9 (fun r_9 w hq => ?_)
  obtain ⟨c_errors_9, h, rfl⟩ := hq
  refine st_wp (ws' := [(q_t, .inr (7, [.ref q_t_s, .ref q_t_k, .ref q_t_laid, .int c_images, .ref q_t_errors, .int c_at, .int c_open, .int c_steps, .int c_use, .ref q_t_step, .ref q_t_named, .ref q_t_pile, .ref q_t_sums1, .ref q_t_parts1, .int c_traced, .ref q_t_trace, .int c_speaks, .int c_isParted, .ref q_t_bits, .ref q_t_sizes, .ref q_t_number, .ref q_t_aside])), (q_t_s, .inl (g.X.cI, 476, .inl c_s)), (q_t_errors, .inl (g.X.cI, 7, .inl c_errors_9))]) 3 [1] (by decide) rfl rfl (by rfl) [(q_t_s, .inl (g.X.cI, 476, .inl c_s))] (by rfl) rfl ?_
  exact R _ _ _ _ dX7_person_12 (Nat.le_of_ble_eq_true rfl) ⟨_, _, h, rfl⟩
set_option maxRecDepth 100000 in
set_option maxHeartbeats 4000000 in
theorem c_X7_person (l : Launch) (D : va_G) (X : XT) (q_t q_t_s q_t_k q_t_laid q_t_errors q_t_step q_t_named q_t_pile q_t_sums1 q_t_parts1 q_t_trace q_t_bits q_t_sizes q_t_number q_t_aside : Nat) (c_images : Int32) (c_at : Int32) (c_open : Int32) (c_steps : Int32) (c_use : Int32) (c_traced : Int32) (c_speaks : Int32) (c_isParted : Int32) (c_s : Nat → Int32) (c_errors : Nat → Int32) (x1 : Int32) (Q : Int32 → (Nat → Int32) → (Nat → Int32) → Prop) (h : wp_X7_person x1 c_s c_errors Q) : CTi l D X yX7_person cX7_person 2 .int rm_X7_person [.ref q_t, .int x1] [(q_t, .inr (7, [.ref q_t_s, .ref q_t_k, .ref q_t_laid, .int c_images, .ref q_t_errors, .int c_at, .int c_open, .int c_steps, .int c_use, .ref q_t_step, .ref q_t_named, .ref q_t_pile, .ref q_t_sums1, .ref q_t_parts1, .int c_traced, .ref q_t_trace, .int c_speaks, .int c_isParted, .ref q_t_bits, .ref q_t_sizes, .ref q_t_number, .ref q_t_aside])), (q_t_s, .inl (X.cI, 476, .inl c_s)), (q_t_errors, .inl (X.cI, 7, .inl c_errors))] (fun (r : Int32) w => ∃ (c_s' : Nat → Int32) (c_errors' : Nat → Int32), Q r c_s' c_errors' ∧ w = [(q_t, .inr (7, [.ref q_t_s, .ref q_t_k, .ref q_t_laid, .int c_images, .ref q_t_errors, .int c_at, .int c_open, .int c_steps, .int c_use, .ref q_t_step, .ref q_t_named, .ref q_t_pile, .ref q_t_sums1, .ref q_t_parts1, .int c_traced, .ref q_t_trace, .int c_speaks, .int c_isParted, .ref q_t_bits, .ref q_t_sizes, .ref q_t_number, .ref q_t_aside])), (q_t_s, .inl (X.cI, 476, .inl c_s')), (q_t_errors, .inl (X.cI, 7, .inl c_errors'))]) :=
  ct_i (by decide) (Nat.le_of_ble_eq_true rfl) (fun g hl hD hX G R => by subst hl; subst hD; subst hX; exact b_X7_person_e G R h)
set_option maxRecDepth 100000 in
set_option maxHeartbeats 4000000 in
theorem b_X7_areTwo_e {g : GT} (G : GOOD g RX7 cX7_areTwo 3 rm_X7_areTwo) {q_t q_t_s q_t_k q_t_laid q_t_errors q_t_step q_t_named q_t_pile q_t_sums1 q_t_parts1 q_t_trace q_t_bits q_t_sizes q_t_number q_t_aside : Nat} {c_images : Int32} {c_at : Int32} {c_open : Int32} {c_steps : Int32} {c_use : Int32} {c_traced : Int32} {c_speaks : Int32} {c_isParted : Int32} {c_s : Nat → Int32} {x1 : Int32} {x2 : Int32} {Q : Int32 → Prop} (R : RETz g cX7_areTwo 2 (fun (r : Int32) w => (Q r) ∧ w = [(q_t, .inr (7, [.ref q_t_s, .ref q_t_k, .ref q_t_laid, .int c_images, .ref q_t_errors, .int c_at, .int c_open, .int c_steps, .int c_use, .ref q_t_step, .ref q_t_named, .ref q_t_pile, .ref q_t_sums1, .ref q_t_parts1, .int c_traced, .ref q_t_trace, .int c_speaks, .int c_isParted, .ref q_t_bits, .ref q_t_sizes, .ref q_t_number, .ref q_t_aside])), (q_t_s, .inl (g.X.cI, 476, .inl c_s))])) (h : wp_X7_areTwo x1 x2 c_s Q) : ST g 0 0 0 [(0, .ref q_t), (1, .int x1), (2, .int x2)] [] [(q_t, .inr (7, [.ref q_t_s, .ref q_t_k, .ref q_t_laid, .int c_images, .ref q_t_errors, .int c_at, .int c_open, .int c_steps, .int c_use, .ref q_t_step, .ref q_t_named, .ref q_t_pile, .ref q_t_sums1, .ref q_t_parts1, .int c_traced, .ref q_t_trace, .int c_speaks, .int c_isParted, .ref q_t_bits, .ref q_t_sizes, .ref q_t_number, .ref q_t_aside])), (q_t_s, .inl (g.X.cI, 476, .inl c_s))] := by
  unfold wp_X7_areTwo at h
  refine st_aload_n G 1 rfl 0 rfl dX7_areTwo_0 rfl ?_
  refine st_iload_n G 2 rfl 1 rfl dX7_areTwo_1 rfl ?_
  refine st_cVio G lk_X7_156 (c_X7_isPerson g.l g.D g.X q_t q_t_s q_t_k q_t_laid q_t_errors q_t_step q_t_named q_t_pile q_t_sums1 q_t_parts1 q_t_trace q_t_bits q_t_sizes q_t_number q_t_aside c_images c_at c_open c_steps c_use c_traced c_speaks c_isParted c_s x1 _ h) ⟨rfl, rfl, ⟨Nat.le_of_ble_eq_true rfl, Nat.le_of_ble_eq_true rfl⟩, Nat.zero_le _, Nat.zero_le _⟩ 5 rfl [0, 1] rfl (by decide) 0 7 rfl rfl rfl (Nat.le_of_ble_eq_true rfl) rfl dX7_areTwo_2 (fun r_2 h => ?_)
  refine st_if_eq G 25 8 rfl dX7_areTwo_5 rfl (fun c => ?_) (fun c => ?_)
  · have h := h.1 c
    refine st_iconst G 26 rfl (0 : Int32) (by decide) dX7_areTwo_25 ?_
    exact R _ _ _ _ dX7_areTwo_26 (Nat.le_of_ble_eq_true rfl) rfl ⟨h, rfl⟩
  have h := h.2 c
  refine st_aload_n G 9 rfl 0 rfl dX7_areTwo_8 rfl ?_
  refine st_iload_n G 10 rfl 2 rfl dX7_areTwo_9 rfl ?_
  refine st_cVio G lk_X7_156 (c_X7_isPerson g.l g.D g.X q_t q_t_s q_t_k q_t_laid q_t_errors q_t_step q_t_named q_t_pile q_t_sums1 q_t_parts1 q_t_trace q_t_bits q_t_sizes q_t_number q_t_aside c_images c_at c_open c_steps c_use c_traced c_speaks c_isParted c_s x2 _ h) ⟨rfl, rfl, ⟨Nat.le_of_ble_eq_true rfl, Nat.le_of_ble_eq_true rfl⟩, Nat.zero_le _, Nat.zero_le _⟩ 13 rfl [0, 1] rfl (by decide) 0 7 rfl rfl rfl (Nat.le_of_ble_eq_true rfl) rfl dX7_areTwo_10 (fun r_10 h => ?_)
  refine st_if_eq G 25 16 rfl dX7_areTwo_13 rfl (fun c => ?_) (fun c => ?_)
  · have h := h.1 c
    refine st_iconst G 26 rfl (0 : Int32) (by decide) dX7_areTwo_25 ?_
    exact R _ _ _ _ dX7_areTwo_26 (Nat.le_of_ble_eq_true rfl) rfl ⟨h, rfl⟩
  have h := h.2 c
  refine st_iload_n G 17 rfl 1 rfl dX7_areTwo_16 rfl ?_
  refine st_iload_n G 18 rfl 2 rfl dX7_areTwo_17 rfl ?_
  refine st_icmp_eq G 25 21 rfl dX7_areTwo_18 rfl (fun c => ?_) (fun c => ?_)
  · have h := h.1 c
    refine st_iconst G 26 rfl (0 : Int32) (by decide) dX7_areTwo_25 ?_
    exact R _ _ _ _ dX7_areTwo_26 (Nat.le_of_ble_eq_true rfl) rfl ⟨h, rfl⟩
  have h := h.2 c
  refine st_iconst G 22 rfl (1 : Int32) (by decide) dX7_areTwo_21 ?_
  refine st_goto G 26 dX7_areTwo_22 rfl ?_
  exact R _ _ _ _ dX7_areTwo_26 (Nat.le_of_ble_eq_true rfl) rfl ⟨h, rfl⟩
set_option maxRecDepth 100000 in
set_option maxHeartbeats 4000000 in
theorem c_X7_areTwo (l : Launch) (D : va_G) (X : XT) (q_t q_t_s q_t_k q_t_laid q_t_errors q_t_step q_t_named q_t_pile q_t_sums1 q_t_parts1 q_t_trace q_t_bits q_t_sizes q_t_number q_t_aside : Nat) (c_images : Int32) (c_at : Int32) (c_open : Int32) (c_steps : Int32) (c_use : Int32) (c_traced : Int32) (c_speaks : Int32) (c_isParted : Int32) (c_s : Nat → Int32) (x1 : Int32) (x2 : Int32) (Q : Int32 → Prop) (h : wp_X7_areTwo x1 x2 c_s Q) : CTi l D X yX7_areTwo cX7_areTwo 3 .boolean rm_X7_areTwo [.ref q_t, .int x1, .int x2] [(q_t, .inr (7, [.ref q_t_s, .ref q_t_k, .ref q_t_laid, .int c_images, .ref q_t_errors, .int c_at, .int c_open, .int c_steps, .int c_use, .ref q_t_step, .ref q_t_named, .ref q_t_pile, .ref q_t_sums1, .ref q_t_parts1, .int c_traced, .ref q_t_trace, .int c_speaks, .int c_isParted, .ref q_t_bits, .ref q_t_sizes, .ref q_t_number, .ref q_t_aside])), (q_t_s, .inl (X.cI, 476, .inl c_s))] (fun (r : Int32) w => (Q r) ∧ w = [(q_t, .inr (7, [.ref q_t_s, .ref q_t_k, .ref q_t_laid, .int c_images, .ref q_t_errors, .int c_at, .int c_open, .int c_steps, .int c_use, .ref q_t_step, .ref q_t_named, .ref q_t_pile, .ref q_t_sums1, .ref q_t_parts1, .int c_traced, .ref q_t_trace, .int c_speaks, .int c_isParted, .ref q_t_bits, .ref q_t_sizes, .ref q_t_number, .ref q_t_aside])), (q_t_s, .inl (X.cI, 476, .inl c_s))]) :=
  ct_z (by decide) (Nat.le_of_ble_eq_true rfl) (fun g hl hD hX G R => by subst hl; subst hD; subst hX; exact b_X7_areTwo_e G R h)
set_option maxRecDepth 100000 in
set_option maxHeartbeats 4000000 in
theorem b_X7_child_e {g : GT} (G : GOOD g RX7 cX7_child 4 rm_X7_child) {q_t q_t_s q_t_k q_t_laid q_t_errors q_t_step q_t_named q_t_pile q_t_sums1 q_t_parts1 q_t_trace q_t_bits q_t_sizes q_t_number q_t_aside : Nat} {c_images : Int32} {c_at : Int32} {c_open : Int32} {c_steps : Int32} {c_use : Int32} {c_traced : Int32} {c_speaks : Int32} {c_isParted : Int32} {c_s : Nat → Int32} {c_errors : Nat → Int32} {x1 : Int32} {x2 : Int32} {x3 : Int32} {Q : Int32 → (Nat → Int32) → (Nat → Int32) → Prop} (R : RETi g cX7_child 3 (fun (r : Int32) w => ∃ (c_s' : Nat → Int32) (c_errors' : Nat → Int32), Q r c_s' c_errors' ∧ w = [(q_t, .inr (7, [.ref q_t_s, .ref q_t_k, .ref q_t_laid, .int c_images, .ref q_t_errors, .int c_at, .int c_open, .int c_steps, .int c_use, .ref q_t_step, .ref q_t_named, .ref q_t_pile, .ref q_t_sums1, .ref q_t_parts1, .int c_traced, .ref q_t_trace, .int c_speaks, .int c_isParted, .ref q_t_bits, .ref q_t_sizes, .ref q_t_number, .ref q_t_aside])), (q_t_s, .inl (g.X.cI, 476, .inl c_s')), (q_t_errors, .inl (g.X.cI, 7, .inl c_errors'))])) (h : wp_X7_child x1 x2 x3 c_s c_errors Q) : ST g 0 0 0 [(0, .ref q_t), (1, .int x1), (2, .int x2), (3, .int x3)] [] [(q_t, .inr (7, [.ref q_t_s, .ref q_t_k, .ref q_t_laid, .int c_images, .ref q_t_errors, .int c_at, .int c_open, .int c_steps, .int c_use, .ref q_t_step, .ref q_t_named, .ref q_t_pile, .ref q_t_sums1, .ref q_t_parts1, .int c_traced, .ref q_t_trace, .int c_speaks, .int c_isParted, .ref q_t_bits, .ref q_t_sizes, .ref q_t_number, .ref q_t_aside])), (q_t_s, .inl (g.X.cI, 476, .inl c_s)), (q_t_errors, .inl (g.X.cI, 7, .inl c_errors))] := by
  unfold wp_X7_child at h
  refine st_iload_n G 1 rfl 1 rfl dX7_child_0 rfl ?_
  refine st_cSio G lk_X7_150 (c_X7_isKind g.l g.D g.X x1 _ h) ⟨rfl, rfl, ⟨Nat.le_of_ble_eq_true rfl, Nat.le_of_ble_eq_true rfl⟩, Nat.zero_le _, Nat.zero_le _⟩ 4 rfl [] rfl (by decide) rfl (Nat.le_of_ble_eq_true rfl) rfl dX7_child_1 (fun r_1 h => ?_)
  refine st_if_eq G 16 7 rfl dX7_child_4 rfl (fun c => ?_) (fun c => ?_)
  · have h := h.1 c
    refine st_aload_n G 17 rfl 0 rfl dX7_child_16 rfl ?_
    refine st_iconst G 18 rfl (1 : Int32) (by decide) dX7_child_17 ?_
    refine st_cVi G lk_X7_65 (c_X7_error g.l g.D g.X q_t q_t_s q_t_k q_t_laid q_t_errors q_t_step q_t_named q_t_pile q_t_sums1 q_t_parts1 q_t_trace q_t_bits q_t_sizes q_t_number q_t_aside c_images c_at c_open c_steps c_use c_traced c_speaks c_isParted c_errors (1 : Int32) _ h) ⟨rfl, rfl, ⟨Nat.le_of_ble_eq_true rfl, Nat.le_of_ble_eq_true rfl⟩, Nat.zero_le _, Nat.zero_le _⟩ 21 rfl [0, 2] rfl (by decide) 0 7 rfl rfl rfl (Nat.le_of_ble_eq_true rfl) rfl dX7_child_18 (fun r_18 w hq => ?_)
    obtain ⟨c_errors_18, h, rfl⟩ := hq
    refine st_wp (ws' := [(q_t, .inr (7, [.ref q_t_s, .ref q_t_k, .ref q_t_laid, .int c_images, .ref q_t_errors, .int c_at, .int c_open, .int c_steps, .int c_use, .ref q_t_step, .ref q_t_named, .ref q_t_pile, .ref q_t_sums1, .ref q_t_parts1, .int c_traced, .ref q_t_trace, .int c_speaks, .int c_isParted, .ref q_t_bits, .ref q_t_sizes, .ref q_t_number, .ref q_t_aside])), (q_t_s, .inl (g.X.cI, 476, .inl c_s)), (q_t_errors, .inl (g.X.cI, 7, .inl c_errors_18))]) 3 [1] (by decide) rfl rfl (by rfl) [(q_t_s, .inl (g.X.cI, 476, .inl c_s))] (by rfl) rfl ?_
    exact R _ _ _ _ dX7_child_21 (Nat.le_of_ble_eq_true rfl) ⟨_, _, h, rfl⟩
  have h := h.2 c
  refine st_aload_n G 8 rfl 0 rfl dX7_child_7 rfl ?_
  refine st_iload_n G 9 rfl 2 rfl dX7_child_8 rfl ?_
  refine st_iload_n G 10 rfl 3 rfl dX7_child_9 rfl ?_
  refine st_cVio G lk_X7_159 (c_X7_areTwo g.l g.D g.X q_t q_t_s q_t_k q_t_laid q_t_errors q_t_step q_t_named q_t_pile q_t_sums1 q_t_parts1 q_t_trace q_t_bits q_t_sizes q_t_number q_t_aside c_images c_at c_open c_steps c_use c_traced c_speaks c_isParted c_s x2 x3 _ h) ⟨rfl, rfl, ⟨Nat.le_of_ble_eq_true rfl, Nat.le_of_ble_eq_true rfl⟩, Nat.zero_le _, Nat.zero_le _⟩ 13 rfl [0, 1] rfl (by decide) 0 7 rfl rfl rfl (Nat.le_of_ble_eq_true rfl) rfl dX7_child_10 (fun r_10 h => ?_)
  refine st_if_ne G 22 16 rfl dX7_child_13 rfl (fun c => ?_) (fun c => ?_)
  · have h := h.1 c
    refine st_aload_n G 23 rfl 0 rfl dX7_child_22 rfl ?_
    refine st_get G inX7 rfl 0 (by decide) wd_82 26 rfl 0 rfl rfl dX7_child_23 ?_
    refine st_iconst G 27 rfl (4 : Int32) (by decide) dX7_child_26 ?_
    obtain ⟨hin, h⟩ := h
    refine st_iald G 28 rfl 1 rfl hin dX7_child_27 ?_
    refine st_bipush G 30 rfl (8 : Int32) (by decide) dX7_child_28 ?_
    refine st_icmp_ne G 41 33 rfl dX7_child_30 rfl (fun c => ?_) (fun c => ?_)
    · have h := h.1 c
      refine st_aload_n G 42 rfl 0 rfl dX7_child_41 rfl ?_
      refine st_iload_n G 43 rfl 1 rfl dX7_child_42 rfl ?_
      refine st_iload_n G 44 rfl 2 rfl dX7_child_43 rfl ?_
      refine st_iload_n G 45 rfl 3 rfl dX7_child_44 rfl ?_
      refine st_cVi G lk_X7_153 (c_X7_born g.l g.D g.X q_t q_t_s q_t_k q_t_laid q_t_errors q_t_step q_t_named q_t_pile q_t_sums1 q_t_parts1 q_t_trace q_t_bits q_t_sizes q_t_number q_t_aside c_images c_at c_open c_steps c_use c_traced c_speaks c_isParted c_s x1 x2 x3 _ h) ⟨rfl, rfl, ⟨Nat.le_of_ble_eq_true rfl, Nat.le_of_ble_eq_true rfl⟩, Nat.zero_le _, Nat.zero_le _⟩ 48 rfl [0, 1] rfl (by decide) 0 7 rfl rfl rfl (Nat.le_of_ble_eq_true rfl) rfl dX7_child_45 (fun r_45 w hq => ?_)
      obtain ⟨c_s_45, h, rfl⟩ := hq
      refine st_wp (ws' := [(q_t, .inr (7, [.ref q_t_s, .ref q_t_k, .ref q_t_laid, .int c_images, .ref q_t_errors, .int c_at, .int c_open, .int c_steps, .int c_use, .ref q_t_step, .ref q_t_named, .ref q_t_pile, .ref q_t_sums1, .ref q_t_parts1, .int c_traced, .ref q_t_trace, .int c_speaks, .int c_isParted, .ref q_t_bits, .ref q_t_sizes, .ref q_t_number, .ref q_t_aside])), (q_t_s, .inl (g.X.cI, 476, .inl c_s_45)), (q_t_errors, .inl (g.X.cI, 7, .inl c_errors))]) 3 [2] (by decide) rfl rfl (by rfl) [(q_t_errors, .inl (g.X.cI, 7, .inl c_errors))] (by rfl) rfl ?_
      exact R _ _ _ _ dX7_child_48 (Nat.le_of_ble_eq_true rfl) ⟨_, _, h, rfl⟩
    have h := h.2 c
    refine st_aload_n G 34 rfl 0 rfl dX7_child_33 rfl ?_
    refine st_iconst G 35 rfl (4 : Int32) (by decide) dX7_child_34 ?_
    refine st_cVi G lk_X7_65 (c_X7_error g.l g.D g.X q_t q_t_s q_t_k q_t_laid q_t_errors q_t_step q_t_named q_t_pile q_t_sums1 q_t_parts1 q_t_trace q_t_bits q_t_sizes q_t_number q_t_aside c_images c_at c_open c_steps c_use c_traced c_speaks c_isParted c_errors (4 : Int32) _ h) ⟨rfl, rfl, ⟨Nat.le_of_ble_eq_true rfl, Nat.le_of_ble_eq_true rfl⟩, Nat.zero_le _, Nat.zero_le _⟩ 38 rfl [0, 2] rfl (by decide) 0 7 rfl rfl rfl (Nat.le_of_ble_eq_true rfl) rfl dX7_child_35 (fun r_35 w hq => ?_)
    obtain ⟨c_errors_35, h, rfl⟩ := hq
    refine st_wp (ws' := [(q_t, .inr (7, [.ref q_t_s, .ref q_t_k, .ref q_t_laid, .int c_images, .ref q_t_errors, .int c_at, .int c_open, .int c_steps, .int c_use, .ref q_t_step, .ref q_t_named, .ref q_t_pile, .ref q_t_sums1, .ref q_t_parts1, .int c_traced, .ref q_t_trace, .int c_speaks, .int c_isParted, .ref q_t_bits, .ref q_t_sizes, .ref q_t_number, .ref q_t_aside])), (q_t_s, .inl (g.X.cI, 476, .inl c_s)), (q_t_errors, .inl (g.X.cI, 7, .inl c_errors_35))]) 3 [1] (by decide) rfl rfl (by rfl) [(q_t_s, .inl (g.X.cI, 476, .inl c_s))] (by rfl) rfl ?_
    refine st_goto G 48 dX7_child_38 rfl ?_
    exact R _ _ _ _ dX7_child_48 (Nat.le_of_ble_eq_true rfl) ⟨_, _, h, rfl⟩
  have h := h.2 c
  refine st_aload_n G 17 rfl 0 rfl dX7_child_16 rfl ?_
  refine st_iconst G 18 rfl (1 : Int32) (by decide) dX7_child_17 ?_
  refine st_cVi G lk_X7_65 (c_X7_error g.l g.D g.X q_t q_t_s q_t_k q_t_laid q_t_errors q_t_step q_t_named q_t_pile q_t_sums1 q_t_parts1 q_t_trace q_t_bits q_t_sizes q_t_number q_t_aside c_images c_at c_open c_steps c_use c_traced c_speaks c_isParted c_errors (1 : Int32) _ h) ⟨rfl, rfl, ⟨Nat.le_of_ble_eq_true rfl, Nat.le_of_ble_eq_true rfl⟩, Nat.zero_le _, Nat.zero_le _⟩ 21 rfl [0, 2] rfl (by decide) 0 7 rfl rfl rfl (Nat.le_of_ble_eq_true rfl) rfl dX7_child_18 (fun r_18 w hq => ?_)
  obtain ⟨c_errors_18, h, rfl⟩ := hq
  refine st_wp (ws' := [(q_t, .inr (7, [.ref q_t_s, .ref q_t_k, .ref q_t_laid, .int c_images, .ref q_t_errors, .int c_at, .int c_open, .int c_steps, .int c_use, .ref q_t_step, .ref q_t_named, .ref q_t_pile, .ref q_t_sums1, .ref q_t_parts1, .int c_traced, .ref q_t_trace, .int c_speaks, .int c_isParted, .ref q_t_bits, .ref q_t_sizes, .ref q_t_number, .ref q_t_aside])), (q_t_s, .inl (g.X.cI, 476, .inl c_s)), (q_t_errors, .inl (g.X.cI, 7, .inl c_errors_18))]) 3 [1] (by decide) rfl rfl (by rfl) [(q_t_s, .inl (g.X.cI, 476, .inl c_s))] (by rfl) rfl ?_
  exact R _ _ _ _ dX7_child_21 (Nat.le_of_ble_eq_true rfl) ⟨_, _, h, rfl⟩
set_option maxRecDepth 100000 in
set_option maxHeartbeats 4000000 in
theorem c_X7_child (l : Launch) (D : va_G) (X : XT) (q_t q_t_s q_t_k q_t_laid q_t_errors q_t_step q_t_named q_t_pile q_t_sums1 q_t_parts1 q_t_trace q_t_bits q_t_sizes q_t_number q_t_aside : Nat) (c_images : Int32) (c_at : Int32) (c_open : Int32) (c_steps : Int32) (c_use : Int32) (c_traced : Int32) (c_speaks : Int32) (c_isParted : Int32) (c_s : Nat → Int32) (c_errors : Nat → Int32) (x1 : Int32) (x2 : Int32) (x3 : Int32) (Q : Int32 → (Nat → Int32) → (Nat → Int32) → Prop) (h : wp_X7_child x1 x2 x3 c_s c_errors Q) : CTi l D X yX7_child cX7_child 4 .int rm_X7_child [.ref q_t, .int x1, .int x2, .int x3] [(q_t, .inr (7, [.ref q_t_s, .ref q_t_k, .ref q_t_laid, .int c_images, .ref q_t_errors, .int c_at, .int c_open, .int c_steps, .int c_use, .ref q_t_step, .ref q_t_named, .ref q_t_pile, .ref q_t_sums1, .ref q_t_parts1, .int c_traced, .ref q_t_trace, .int c_speaks, .int c_isParted, .ref q_t_bits, .ref q_t_sizes, .ref q_t_number, .ref q_t_aside])), (q_t_s, .inl (X.cI, 476, .inl c_s)), (q_t_errors, .inl (X.cI, 7, .inl c_errors))] (fun (r : Int32) w => ∃ (c_s' : Nat → Int32) (c_errors' : Nat → Int32), Q r c_s' c_errors' ∧ w = [(q_t, .inr (7, [.ref q_t_s, .ref q_t_k, .ref q_t_laid, .int c_images, .ref q_t_errors, .int c_at, .int c_open, .int c_steps, .int c_use, .ref q_t_step, .ref q_t_named, .ref q_t_pile, .ref q_t_sums1, .ref q_t_parts1, .int c_traced, .ref q_t_trace, .int c_speaks, .int c_isParted, .ref q_t_bits, .ref q_t_sizes, .ref q_t_number, .ref q_t_aside])), (q_t_s, .inl (X.cI, 476, .inl c_s')), (q_t_errors, .inl (X.cI, 7, .inl c_errors'))]) :=
  ct_i (by decide) (Nat.le_of_ble_eq_true rfl) (fun g hl hD hX G R => by subst hl; subst hD; subst hX; exact b_X7_child_e G R h)
set_option maxRecDepth 100000 in
set_option maxHeartbeats 4000000 in
theorem b_X7_personIs_e {g : GT} (G : GOOD g RX7 cX7_personIs 3 rm_X7_personIs) {q_t q_t_s q_t_k q_t_laid q_t_errors q_t_step q_t_named q_t_pile q_t_sums1 q_t_parts1 q_t_trace q_t_bits q_t_sizes q_t_number q_t_aside : Nat} {c_images : Int32} {c_at : Int32} {c_open : Int32} {c_steps : Int32} {c_use : Int32} {c_traced : Int32} {c_speaks : Int32} {c_isParted : Int32} {c_s : Nat → Int32} {c_errors : Nat → Int32} {c_named : Nat → Int32} {c_pile : Nat → Int32} {x1 : Int32} {x2 : Int32} {Q : Int32 → (Nat → Int32) → (Nat → Int32) → (Nat → Int32) → Prop} (R : RETi g cX7_personIs 5 (fun (r : Int32) w => ∃ (c_errors' : Nat → Int32) (c_named' : Nat → Int32) (c_pile' : Nat → Int32), Q r c_errors' c_named' c_pile' ∧ w = [(q_t, .inr (7, [.ref q_t_s, .ref q_t_k, .ref q_t_laid, .int c_images, .ref q_t_errors, .int c_at, .int c_open, .int c_steps, .int c_use, .ref q_t_step, .ref q_t_named, .ref q_t_pile, .ref q_t_sums1, .ref q_t_parts1, .int c_traced, .ref q_t_trace, .int c_speaks, .int c_isParted, .ref q_t_bits, .ref q_t_sizes, .ref q_t_number, .ref q_t_aside])), (q_t_s, .inl (g.X.cI, 476, .inl c_s)), (q_t_errors, .inl (g.X.cI, 7, .inl c_errors')), (q_t_named, .inl (g.X.cI, 128, .inl c_named')), (q_t_pile, .inl (g.X.cI, 64, .inl c_pile'))])) (h : wp_X7_personIs x1 x2 c_s c_errors c_named c_pile Q) : ST g 0 0 0 [(0, .ref q_t), (1, .int x1), (2, .int x2)] [] [(q_t, .inr (7, [.ref q_t_s, .ref q_t_k, .ref q_t_laid, .int c_images, .ref q_t_errors, .int c_at, .int c_open, .int c_steps, .int c_use, .ref q_t_step, .ref q_t_named, .ref q_t_pile, .ref q_t_sums1, .ref q_t_parts1, .int c_traced, .ref q_t_trace, .int c_speaks, .int c_isParted, .ref q_t_bits, .ref q_t_sizes, .ref q_t_number, .ref q_t_aside])), (q_t_s, .inl (g.X.cI, 476, .inl c_s)), (q_t_errors, .inl (g.X.cI, 7, .inl c_errors)), (q_t_named, .inl (g.X.cI, 128, .inl c_named)), (q_t_pile, .inl (g.X.cI, 64, .inl c_pile))] := by
  unfold wp_X7_personIs at h
  refine st_aload_n G 1 rfl 0 rfl dX7_personIs_0 rfl ?_
  refine st_iload_n G 2 rfl 1 rfl dX7_personIs_1 rfl ?_
  refine st_cVio G lk_X7_156 (c_X7_isPerson g.l g.D g.X q_t q_t_s q_t_k q_t_laid q_t_errors q_t_step q_t_named q_t_pile q_t_sums1 q_t_parts1 q_t_trace q_t_bits q_t_sizes q_t_number q_t_aside c_images c_at c_open c_steps c_use c_traced c_speaks c_isParted c_s x1 _ h) ⟨rfl, rfl, ⟨Nat.le_of_ble_eq_true rfl, Nat.le_of_ble_eq_true rfl⟩, Nat.zero_le _, Nat.zero_le _⟩ 5 rfl [0, 1] rfl (by decide) 0 7 rfl rfl rfl (Nat.le_of_ble_eq_true rfl) rfl dX7_personIs_2 (fun r_2 h => ?_)
  refine st_if_eq G 18 8 rfl dX7_personIs_5 rfl (fun c => ?_) (fun c => ?_)
  · have h := h.1 c
    refine st_aload_n G 19 rfl 0 rfl dX7_personIs_18 rfl ?_
    refine st_iconst G 20 rfl (1 : Int32) (by decide) dX7_personIs_19 ?_
    refine st_cVi G lk_X7_65 (c_X7_error g.l g.D g.X q_t q_t_s q_t_k q_t_laid q_t_errors q_t_step q_t_named q_t_pile q_t_sums1 q_t_parts1 q_t_trace q_t_bits q_t_sizes q_t_number q_t_aside c_images c_at c_open c_steps c_use c_traced c_speaks c_isParted c_errors (1 : Int32) _ h) ⟨rfl, rfl, ⟨Nat.le_of_ble_eq_true rfl, Nat.le_of_ble_eq_true rfl⟩, Nat.zero_le _, Nat.zero_le _⟩ 23 rfl [0, 2] rfl (by decide) 0 7 rfl rfl rfl (Nat.le_of_ble_eq_true rfl) rfl dX7_personIs_20 (fun r_20 w hq => ?_)
    obtain ⟨c_errors_20, h, rfl⟩ := hq
    refine st_wp (ws' := [(q_t, .inr (7, [.ref q_t_s, .ref q_t_k, .ref q_t_laid, .int c_images, .ref q_t_errors, .int c_at, .int c_open, .int c_steps, .int c_use, .ref q_t_step, .ref q_t_named, .ref q_t_pile, .ref q_t_sums1, .ref q_t_parts1, .int c_traced, .ref q_t_trace, .int c_speaks, .int c_isParted, .ref q_t_bits, .ref q_t_sizes, .ref q_t_number, .ref q_t_aside])), (q_t_s, .inl (g.X.cI, 476, .inl c_s)), (q_t_errors, .inl (g.X.cI, 7, .inl c_errors_20)), (q_t_named, .inl (g.X.cI, 128, .inl c_named)), (q_t_pile, .inl (g.X.cI, 64, .inl c_pile))]) 5 [1, 3, 4] (by decide) rfl rfl (by rfl) [(q_t_s, .inl (g.X.cI, 476, .inl c_s)), (q_t_named, .inl (g.X.cI, 128, .inl c_named)), (q_t_pile, .inl (g.X.cI, 64, .inl c_pile))] (by rfl) rfl ?_
    exact R _ _ _ _ dX7_personIs_23 (Nat.le_of_ble_eq_true rfl) ⟨_, _, _, h, rfl⟩
  have h := h.2 c
  refine st_iload_n G 9 rfl 2 rfl dX7_personIs_8 rfl ?_
  refine st_iconst G 10 rfl (0 : Int32) (by decide) dX7_personIs_9 ?_
  refine st_bipush G 12 rfl (6 : Int32) (by decide) dX7_personIs_10 ?_
  refine st_cSio G lk_X7_53 (c_X7_in g.l g.D g.X x2 (0 : Int32) (6 : Int32) _ h) ⟨rfl, rfl, ⟨Nat.le_of_ble_eq_true rfl, Nat.le_of_ble_eq_true rfl⟩, Nat.zero_le _, Nat.zero_le _⟩ 15 rfl [] rfl (by decide) rfl (Nat.le_of_ble_eq_true rfl) rfl dX7_personIs_12 (fun r_12 h => ?_)
  refine st_if_ne G 24 18 rfl dX7_personIs_15 rfl (fun c => ?_) (fun c => ?_)
  · have h := h.1 c
    refine st_iload_n G 25 rfl 2 rfl dX7_personIs_24 rfl ?_
    refine st_iconst G 26 rfl (4 : Int32) (by decide) dX7_personIs_25 ?_
    refine st_icmp_ge G 38 29 rfl dX7_personIs_26 rfl (fun c => ?_) (fun c => ?_)
    · have h := h.1 c
      refine st_iload_n G 39 rfl 2 rfl dX7_personIs_38 rfl ?_
      refine st_iconst G 40 rfl (4 : Int32) (by decide) dX7_personIs_39 ?_
      refine st_icmp_ne G 51 43 rfl dX7_personIs_40 rfl (fun c => ?_) (fun c => ?_)
      · have h := h.1 c
        refine st_iload_n G 52 rfl 2 rfl dX7_personIs_51 rfl ?_
        refine st_iconst G 53 rfl (5 : Int32) (by decide) dX7_personIs_52 ?_
        refine st_icmp_ne G 64 56 rfl dX7_personIs_53 rfl (fun c => ?_) (fun c => ?_)
        · have h := h.1 c
          refine st_aload_n G 65 rfl 0 rfl dX7_personIs_64 rfl ?_
          refine st_iload_n G 66 rfl 1 rfl dX7_personIs_65 rfl ?_
          refine st_cVio G lk_X7_169 (c_X7_fromOf g.l g.D g.X q_t q_t_s q_t_k q_t_laid q_t_errors q_t_step q_t_named q_t_pile q_t_sums1 q_t_parts1 q_t_trace q_t_bits q_t_sizes q_t_number q_t_aside c_images c_at c_open c_steps c_use c_traced c_speaks c_isParted c_s x1 _ h) ⟨rfl, rfl, ⟨Nat.le_of_ble_eq_true rfl, Nat.le_of_ble_eq_true rfl⟩, Nat.zero_le _, Nat.zero_le _⟩ 69 rfl [0, 1] rfl (by decide) 0 7 rfl rfl rfl (Nat.le_of_ble_eq_true rfl) rfl dX7_personIs_66 (fun r_66 h => ?_)
          exact R _ _ _ _ dX7_personIs_69 (Nat.le_of_ble_eq_true rfl) ⟨_, _, _, h, rfl⟩
        have h := h.2 c
        refine st_aload_n G 57 rfl 0 rfl dX7_personIs_56 rfl ?_
        refine st_iload_n G 58 rfl 1 rfl dX7_personIs_57 rfl ?_
        refine st_cVi G lk_X7_166 (c_X7_worthOf g.l g.D g.X q_t q_t_s q_t_k q_t_laid q_t_errors q_t_step q_t_named q_t_pile q_t_sums1 q_t_parts1 q_t_trace q_t_bits q_t_sizes q_t_number q_t_aside c_images c_at c_open c_steps c_use c_traced c_speaks c_isParted c_s c_named c_pile x1 _ h) ⟨rfl, rfl, ⟨Nat.le_of_ble_eq_true rfl, Nat.le_of_ble_eq_true rfl⟩, Nat.zero_le _, Nat.zero_le _⟩ 61 rfl [0, 1, 3, 4] rfl (by decide) 0 7 rfl rfl rfl (Nat.le_of_ble_eq_true rfl) rfl dX7_personIs_58 (fun r_58 w hq => ?_)
        obtain ⟨c_named_58, c_pile_58, h, rfl⟩ := hq
        refine st_wp (ws' := [(q_t, .inr (7, [.ref q_t_s, .ref q_t_k, .ref q_t_laid, .int c_images, .ref q_t_errors, .int c_at, .int c_open, .int c_steps, .int c_use, .ref q_t_step, .ref q_t_named, .ref q_t_pile, .ref q_t_sums1, .ref q_t_parts1, .int c_traced, .ref q_t_trace, .int c_speaks, .int c_isParted, .ref q_t_bits, .ref q_t_sizes, .ref q_t_number, .ref q_t_aside])), (q_t_s, .inl (g.X.cI, 476, .inl c_s)), (q_t_errors, .inl (g.X.cI, 7, .inl c_errors)), (q_t_named, .inl (g.X.cI, 128, .inl c_named_58)), (q_t_pile, .inl (g.X.cI, 64, .inl c_pile_58))]) 5 [2] (by decide) rfl rfl (by rfl) [(q_t_errors, .inl (g.X.cI, 7, .inl c_errors))] (by rfl) rfl ?_
        refine st_goto G 69 dX7_personIs_61 rfl ?_
        exact R _ _ _ _ dX7_personIs_69 (Nat.le_of_ble_eq_true rfl) ⟨_, _, _, h, rfl⟩
      have h := h.2 c
      refine st_aload_n G 44 rfl 0 rfl dX7_personIs_43 rfl ?_
      refine st_iload_n G 45 rfl 1 rfl dX7_personIs_44 rfl ?_
      refine st_cVio G lk_X7_163 (c_X7_heap g.l g.D g.X q_t q_t_s q_t_k q_t_laid q_t_errors q_t_step q_t_named q_t_pile q_t_sums1 q_t_parts1 q_t_trace q_t_bits q_t_sizes q_t_number q_t_aside c_images c_at c_open c_steps c_use c_traced c_speaks c_isParted c_s x1 _ h) ⟨rfl, rfl, ⟨Nat.le_of_ble_eq_true rfl, Nat.le_of_ble_eq_true rfl⟩, Nat.zero_le _, Nat.zero_le _⟩ 48 rfl [0, 1] rfl (by decide) 0 7 rfl rfl rfl (Nat.le_of_ble_eq_true rfl) rfl dX7_personIs_45 (fun r_45 h => ?_)
      refine st_goto G 69 dX7_personIs_48 rfl ?_
      exact R _ _ _ _ dX7_personIs_69 (Nat.le_of_ble_eq_true rfl) ⟨_, _, _, h, rfl⟩
    have h := h.2 c
    refine st_aload_n G 30 rfl 0 rfl dX7_personIs_29 rfl ?_
    refine st_iload_n G 31 rfl 1 rfl dX7_personIs_30 rfl ?_
    refine st_iload_n G 32 rfl 2 rfl dX7_personIs_31 rfl ?_
    refine st_cVio G lk_X7_124 (c_X7_its g.l g.D g.X q_t q_t_s q_t_k q_t_laid q_t_errors q_t_step q_t_named q_t_pile q_t_sums1 q_t_parts1 q_t_trace q_t_bits q_t_sizes q_t_number q_t_aside c_images c_at c_open c_steps c_use c_traced c_speaks c_isParted c_s x1 x2 _ h) ⟨rfl, rfl, ⟨Nat.le_of_ble_eq_true rfl, Nat.le_of_ble_eq_true rfl⟩, Nat.zero_le _, Nat.zero_le _⟩ 35 rfl [0, 1] rfl (by decide) 0 7 rfl rfl rfl (Nat.le_of_ble_eq_true rfl) rfl dX7_personIs_32 (fun r_32 h => ?_)
    refine st_goto G 69 dX7_personIs_35 rfl ?_
    exact R _ _ _ _ dX7_personIs_69 (Nat.le_of_ble_eq_true rfl) ⟨_, _, _, h, rfl⟩
  have h := h.2 c
  refine st_aload_n G 19 rfl 0 rfl dX7_personIs_18 rfl ?_
  refine st_iconst G 20 rfl (1 : Int32) (by decide) dX7_personIs_19 ?_
  refine st_cVi G lk_X7_65 (c_X7_error g.l g.D g.X q_t q_t_s q_t_k q_t_laid q_t_errors q_t_step q_t_named q_t_pile q_t_sums1 q_t_parts1 q_t_trace q_t_bits q_t_sizes q_t_number q_t_aside c_images c_at c_open c_steps c_use c_traced c_speaks c_isParted c_errors (1 : Int32) _ h) ⟨rfl, rfl, ⟨Nat.le_of_ble_eq_true rfl, Nat.le_of_ble_eq_true rfl⟩, Nat.zero_le _, Nat.zero_le _⟩ 23 rfl [0, 2] rfl (by decide) 0 7 rfl rfl rfl (Nat.le_of_ble_eq_true rfl) rfl dX7_personIs_20 (fun r_20 w hq => ?_)
  obtain ⟨c_errors_20, h, rfl⟩ := hq
  refine st_wp (ws' := [(q_t, .inr (7, [.ref q_t_s, .ref q_t_k, .ref q_t_laid, .int c_images, .ref q_t_errors, .int c_at, .int c_open, .int c_steps, .int c_use, .ref q_t_step, .ref q_t_named, .ref q_t_pile, .ref q_t_sums1, .ref q_t_parts1, .int c_traced, .ref q_t_trace, .int c_speaks, .int c_isParted, .ref q_t_bits, .ref q_t_sizes, .ref q_t_number, .ref q_t_aside])), (q_t_s, .inl (g.X.cI, 476, .inl c_s)), (q_t_errors, .inl (g.X.cI, 7, .inl c_errors_20)), (q_t_named, .inl (g.X.cI, 128, .inl c_named)), (q_t_pile, .inl (g.X.cI, 64, .inl c_pile))]) 5 [1, 3, 4] (by decide) rfl rfl (by rfl) [(q_t_s, .inl (g.X.cI, 476, .inl c_s)), (q_t_named, .inl (g.X.cI, 128, .inl c_named)), (q_t_pile, .inl (g.X.cI, 64, .inl c_pile))] (by rfl) rfl ?_
  exact R _ _ _ _ dX7_personIs_23 (Nat.le_of_ble_eq_true rfl) ⟨_, _, _, h, rfl⟩
set_option maxRecDepth 100000 in
set_option maxHeartbeats 4000000 in
theorem c_X7_personIs (l : Launch) (D : va_G) (X : XT) (q_t q_t_s q_t_k q_t_laid q_t_errors q_t_step q_t_named q_t_pile q_t_sums1 q_t_parts1 q_t_trace q_t_bits q_t_sizes q_t_number q_t_aside : Nat) (c_images : Int32) (c_at : Int32) (c_open : Int32) (c_steps : Int32) (c_use : Int32) (c_traced : Int32) (c_speaks : Int32) (c_isParted : Int32) (c_s : Nat → Int32) (c_errors : Nat → Int32) (c_named : Nat → Int32) (c_pile : Nat → Int32) (x1 : Int32) (x2 : Int32) (Q : Int32 → (Nat → Int32) → (Nat → Int32) → (Nat → Int32) → Prop) (h : wp_X7_personIs x1 x2 c_s c_errors c_named c_pile Q) : CTi l D X yX7_personIs cX7_personIs 3 .int rm_X7_personIs [.ref q_t, .int x1, .int x2] [(q_t, .inr (7, [.ref q_t_s, .ref q_t_k, .ref q_t_laid, .int c_images, .ref q_t_errors, .int c_at, .int c_open, .int c_steps, .int c_use, .ref q_t_step, .ref q_t_named, .ref q_t_pile, .ref q_t_sums1, .ref q_t_parts1, .int c_traced, .ref q_t_trace, .int c_speaks, .int c_isParted, .ref q_t_bits, .ref q_t_sizes, .ref q_t_number, .ref q_t_aside])), (q_t_s, .inl (X.cI, 476, .inl c_s)), (q_t_errors, .inl (X.cI, 7, .inl c_errors)), (q_t_named, .inl (X.cI, 128, .inl c_named)), (q_t_pile, .inl (X.cI, 64, .inl c_pile))] (fun (r : Int32) w => ∃ (c_errors' : Nat → Int32) (c_named' : Nat → Int32) (c_pile' : Nat → Int32), Q r c_errors' c_named' c_pile' ∧ w = [(q_t, .inr (7, [.ref q_t_s, .ref q_t_k, .ref q_t_laid, .int c_images, .ref q_t_errors, .int c_at, .int c_open, .int c_steps, .int c_use, .ref q_t_step, .ref q_t_named, .ref q_t_pile, .ref q_t_sums1, .ref q_t_parts1, .int c_traced, .ref q_t_trace, .int c_speaks, .int c_isParted, .ref q_t_bits, .ref q_t_sizes, .ref q_t_number, .ref q_t_aside])), (q_t_s, .inl (X.cI, 476, .inl c_s)), (q_t_errors, .inl (X.cI, 7, .inl c_errors')), (q_t_named, .inl (X.cI, 128, .inl c_named')), (q_t_pile, .inl (X.cI, 64, .inl c_pile'))]) :=
  ct_i (by decide) (Nat.le_of_ble_eq_true rfl) (fun g hl hD hX G R => by subst hl; subst hD; subst hX; exact b_X7_personIs_e G R h)
set_option maxRecDepth 100000 in
set_option maxHeartbeats 4000000 in
theorem b_X7_become_e {g : GT} (G : GOOD g RX7 cX7_become 3 rm_X7_become) {q_t q_t_s q_t_k q_t_laid q_t_errors q_t_step q_t_named q_t_pile q_t_sums1 q_t_parts1 q_t_trace q_t_bits q_t_sizes q_t_number q_t_aside : Nat} {c_images : Int32} {c_at : Int32} {c_open : Int32} {c_steps : Int32} {c_use : Int32} {c_traced : Int32} {c_speaks : Int32} {c_isParted : Int32} {c_s : Nat → Int32} {c_errors : Nat → Int32} {x1 : Int32} {x2 : Int32} {Q : Int32 → (Nat → Int32) → (Nat → Int32) → Prop} (R : RETi g cX7_become 3 (fun (r : Int32) w => ∃ (c_s' : Nat → Int32) (c_errors' : Nat → Int32), Q r c_s' c_errors' ∧ w = [(q_t, .inr (7, [.ref q_t_s, .ref q_t_k, .ref q_t_laid, .int c_images, .ref q_t_errors, .int c_at, .int c_open, .int c_steps, .int c_use, .ref q_t_step, .ref q_t_named, .ref q_t_pile, .ref q_t_sums1, .ref q_t_parts1, .int c_traced, .ref q_t_trace, .int c_speaks, .int c_isParted, .ref q_t_bits, .ref q_t_sizes, .ref q_t_number, .ref q_t_aside])), (q_t_s, .inl (g.X.cI, 476, .inl c_s')), (q_t_errors, .inl (g.X.cI, 7, .inl c_errors'))])) (h : wp_X7_become x1 x2 c_s c_errors Q) : ST g 0 0 0 [(0, .ref q_t), (1, .int x1), (2, .int x2)] [] [(q_t, .inr (7, [.ref q_t_s, .ref q_t_k, .ref q_t_laid, .int c_images, .ref q_t_errors, .int c_at, .int c_open, .int c_steps, .int c_use, .ref q_t_step, .ref q_t_named, .ref q_t_pile, .ref q_t_sums1, .ref q_t_parts1, .int c_traced, .ref q_t_trace, .int c_speaks, .int c_isParted, .ref q_t_bits, .ref q_t_sizes, .ref q_t_number, .ref q_t_aside])), (q_t_s, .inl (g.X.cI, 476, .inl c_s)), (q_t_errors, .inl (g.X.cI, 7, .inl c_errors))] := by
  unfold wp_X7_become at h
  refine st_aload_n G 1 rfl 0 rfl dX7_become_0 rfl ?_
  refine st_iload_n G 2 rfl 1 rfl dX7_become_1 rfl ?_
  refine st_cVio G lk_X7_156 (c_X7_isPerson g.l g.D g.X q_t q_t_s q_t_k q_t_laid q_t_errors q_t_step q_t_named q_t_pile q_t_sums1 q_t_parts1 q_t_trace q_t_bits q_t_sizes q_t_number q_t_aside c_images c_at c_open c_steps c_use c_traced c_speaks c_isParted c_s x1 _ h) ⟨rfl, rfl, ⟨Nat.le_of_ble_eq_true rfl, Nat.le_of_ble_eq_true rfl⟩, Nat.zero_le _, Nat.zero_le _⟩ 5 rfl [0, 1] rfl (by decide) 0 7 rfl rfl rfl (Nat.le_of_ble_eq_true rfl) rfl dX7_become_2 (fun r_2 h => ?_)
  refine st_if_eq G 15 8 rfl dX7_become_5 rfl (fun c => ?_) (fun c => ?_)
  · have h := h.1 c
    refine st_aload_n G 16 rfl 0 rfl dX7_become_15 rfl ?_
    refine st_iconst G 17 rfl (1 : Int32) (by decide) dX7_become_16 ?_
    refine st_cVi G lk_X7_65 (c_X7_error g.l g.D g.X q_t q_t_s q_t_k q_t_laid q_t_errors q_t_step q_t_named q_t_pile q_t_sums1 q_t_parts1 q_t_trace q_t_bits q_t_sizes q_t_number q_t_aside c_images c_at c_open c_steps c_use c_traced c_speaks c_isParted c_errors (1 : Int32) _ h) ⟨rfl, rfl, ⟨Nat.le_of_ble_eq_true rfl, Nat.le_of_ble_eq_true rfl⟩, Nat.zero_le _, Nat.zero_le _⟩ 20 rfl [0, 2] rfl (by decide) 0 7 rfl rfl rfl (Nat.le_of_ble_eq_true rfl) rfl dX7_become_17 (fun r_17 w hq => ?_)
    obtain ⟨c_errors_17, h, rfl⟩ := hq
    refine st_wp (ws' := [(q_t, .inr (7, [.ref q_t_s, .ref q_t_k, .ref q_t_laid, .int c_images, .ref q_t_errors, .int c_at, .int c_open, .int c_steps, .int c_use, .ref q_t_step, .ref q_t_named, .ref q_t_pile, .ref q_t_sums1, .ref q_t_parts1, .int c_traced, .ref q_t_trace, .int c_speaks, .int c_isParted, .ref q_t_bits, .ref q_t_sizes, .ref q_t_number, .ref q_t_aside])), (q_t_s, .inl (g.X.cI, 476, .inl c_s)), (q_t_errors, .inl (g.X.cI, 7, .inl c_errors_17))]) 3 [1] (by decide) rfl rfl (by rfl) [(q_t_s, .inl (g.X.cI, 476, .inl c_s))] (by rfl) rfl ?_
    exact R _ _ _ _ dX7_become_20 (Nat.le_of_ble_eq_true rfl) ⟨_, _, h, rfl⟩
  have h := h.2 c
  refine st_iload_n G 9 rfl 2 rfl dX7_become_8 rfl ?_
  refine st_cSio G lk_X7_150 (c_X7_isKind g.l g.D g.X x2 _ h) ⟨rfl, rfl, ⟨Nat.le_of_ble_eq_true rfl, Nat.le_of_ble_eq_true rfl⟩, Nat.zero_le _, Nat.zero_le _⟩ 12 rfl [] rfl (by decide) rfl (Nat.le_of_ble_eq_true rfl) rfl dX7_become_9 (fun r_9 h => ?_)
  refine st_if_ne G 21 15 rfl dX7_become_12 rfl (fun c => ?_) (fun c => ?_)
  · have h := h.1 c
    refine st_aload_n G 22 rfl 0 rfl dX7_become_21 rfl ?_
    refine st_iload_n G 23 rfl 1 rfl dX7_become_22 rfl ?_
    refine st_iconst G 24 rfl (1 : Int32) (by decide) dX7_become_23 ?_
    refine st_iload_n G 25 rfl 2 rfl dX7_become_24 rfl ?_
    refine st_bipush G 27 rfl (10 : Int32) (by decide) dX7_become_25 ?_
    refine st_irem G 28 rfl (by decide) dX7_become_27 ?_
    refine st_cVv G lk_X7_147 (c_X7_lays1 g.l g.D g.X q_t q_t_s q_t_k q_t_laid q_t_errors q_t_step q_t_named q_t_pile q_t_sums1 q_t_parts1 q_t_trace q_t_bits q_t_sizes q_t_number q_t_aside c_images c_at c_open c_steps c_use c_traced c_speaks c_isParted c_s x1 (1 : Int32) (x2 - x2 / (10 : Int32) * (10 : Int32)) _ h) ⟨rfl, rfl, ⟨Nat.le_of_ble_eq_true rfl, Nat.le_of_ble_eq_true rfl⟩, Nat.zero_le _, Nat.zero_le _⟩ 31 rfl [0, 1] rfl (by decide) 0 7 rfl rfl rfl (Nat.le_of_ble_eq_true rfl) rfl dX7_become_28 (fun w hq => ?_)
    obtain ⟨c_s_28, h, rfl⟩ := hq
    refine st_wp (ws' := [(q_t, .inr (7, [.ref q_t_s, .ref q_t_k, .ref q_t_laid, .int c_images, .ref q_t_errors, .int c_at, .int c_open, .int c_steps, .int c_use, .ref q_t_step, .ref q_t_named, .ref q_t_pile, .ref q_t_sums1, .ref q_t_parts1, .int c_traced, .ref q_t_trace, .int c_speaks, .int c_isParted, .ref q_t_bits, .ref q_t_sizes, .ref q_t_number, .ref q_t_aside])), (q_t_s, .inl (g.X.cI, 476, .inl c_s_28)), (q_t_errors, .inl (g.X.cI, 7, .inl c_errors))]) 3 [2] (by decide) rfl rfl (by rfl) [(q_t_errors, .inl (g.X.cI, 7, .inl c_errors))] (by rfl) rfl ?_
    refine st_aload_n G 32 rfl 0 rfl dX7_become_31 rfl ?_
    refine st_bipush G 34 rfl (6 : Int32) (by decide) dX7_become_32 ?_
    refine st_iconst G 35 rfl (4 : Int32) (by decide) dX7_become_34 ?_
    refine st_iload_n G 36 rfl 1 rfl dX7_become_35 rfl ?_
    refine st_imul G 37 rfl dX7_become_36 ?_
    refine st_iadd G 38 rfl dX7_become_37 ?_
    refine st_iconst G 39 rfl (0 : Int32) (by decide) dX7_become_38 ?_
    refine st_iadd G 40 rfl dX7_become_39 ?_
    refine st_iload_n G 41 rfl 2 rfl dX7_become_40 rfl ?_
    refine st_bipush G 43 rfl (10 : Int32) (by decide) dX7_become_41 ?_
    refine st_idiv G 44 rfl (by decide) dX7_become_43 ?_
    refine st_cVi G lk_X7_172 (c_X7_change1 g.l g.D g.X q_t q_t_s q_t_k q_t_laid q_t_errors q_t_step q_t_named q_t_pile q_t_sums1 q_t_parts1 q_t_trace q_t_bits q_t_sizes q_t_number q_t_aside c_images c_at c_open c_steps c_use c_traced c_speaks c_isParted c_s_28 (((6 : Int32) + ((4 : Int32) * x1)) + (0 : Int32)) (x2 / (10 : Int32)) _ h) ⟨rfl, rfl, ⟨Nat.le_of_ble_eq_true rfl, Nat.le_of_ble_eq_true rfl⟩, Nat.zero_le _, Nat.zero_le _⟩ 47 rfl [0, 1] rfl (by decide) 0 7 rfl rfl rfl (Nat.le_of_ble_eq_true rfl) rfl dX7_become_44 (fun r_44 w hq => ?_)
    obtain ⟨c_s_44, h, rfl⟩ := hq
    refine st_wp (ws' := [(q_t, .inr (7, [.ref q_t_s, .ref q_t_k, .ref q_t_laid, .int c_images, .ref q_t_errors, .int c_at, .int c_open, .int c_steps, .int c_use, .ref q_t_step, .ref q_t_named, .ref q_t_pile, .ref q_t_sums1, .ref q_t_parts1, .int c_traced, .ref q_t_trace, .int c_speaks, .int c_isParted, .ref q_t_bits, .ref q_t_sizes, .ref q_t_number, .ref q_t_aside])), (q_t_s, .inl (g.X.cI, 476, .inl c_s_44)), (q_t_errors, .inl (g.X.cI, 7, .inl c_errors))]) 3 [2] (by decide) rfl rfl (by rfl) [(q_t_errors, .inl (g.X.cI, 7, .inl c_errors))] (by rfl) rfl ?_
    exact R _ _ _ _ dX7_become_47 (Nat.le_of_ble_eq_true rfl) ⟨_, _, h, rfl⟩
  have h := h.2 c
  refine st_aload_n G 16 rfl 0 rfl dX7_become_15 rfl ?_
  refine st_iconst G 17 rfl (1 : Int32) (by decide) dX7_become_16 ?_
  refine st_cVi G lk_X7_65 (c_X7_error g.l g.D g.X q_t q_t_s q_t_k q_t_laid q_t_errors q_t_step q_t_named q_t_pile q_t_sums1 q_t_parts1 q_t_trace q_t_bits q_t_sizes q_t_number q_t_aside c_images c_at c_open c_steps c_use c_traced c_speaks c_isParted c_errors (1 : Int32) _ h) ⟨rfl, rfl, ⟨Nat.le_of_ble_eq_true rfl, Nat.le_of_ble_eq_true rfl⟩, Nat.zero_le _, Nat.zero_le _⟩ 20 rfl [0, 2] rfl (by decide) 0 7 rfl rfl rfl (Nat.le_of_ble_eq_true rfl) rfl dX7_become_17 (fun r_17 w hq => ?_)
  obtain ⟨c_errors_17, h, rfl⟩ := hq
  refine st_wp (ws' := [(q_t, .inr (7, [.ref q_t_s, .ref q_t_k, .ref q_t_laid, .int c_images, .ref q_t_errors, .int c_at, .int c_open, .int c_steps, .int c_use, .ref q_t_step, .ref q_t_named, .ref q_t_pile, .ref q_t_sums1, .ref q_t_parts1, .int c_traced, .ref q_t_trace, .int c_speaks, .int c_isParted, .ref q_t_bits, .ref q_t_sizes, .ref q_t_number, .ref q_t_aside])), (q_t_s, .inl (g.X.cI, 476, .inl c_s)), (q_t_errors, .inl (g.X.cI, 7, .inl c_errors_17))]) 3 [1] (by decide) rfl rfl (by rfl) [(q_t_s, .inl (g.X.cI, 476, .inl c_s))] (by rfl) rfl ?_
  exact R _ _ _ _ dX7_become_20 (Nat.le_of_ble_eq_true rfl) ⟨_, _, h, rfl⟩
set_option maxRecDepth 100000 in
set_option maxHeartbeats 4000000 in
theorem c_X7_become (l : Launch) (D : va_G) (X : XT) (q_t q_t_s q_t_k q_t_laid q_t_errors q_t_step q_t_named q_t_pile q_t_sums1 q_t_parts1 q_t_trace q_t_bits q_t_sizes q_t_number q_t_aside : Nat) (c_images : Int32) (c_at : Int32) (c_open : Int32) (c_steps : Int32) (c_use : Int32) (c_traced : Int32) (c_speaks : Int32) (c_isParted : Int32) (c_s : Nat → Int32) (c_errors : Nat → Int32) (x1 : Int32) (x2 : Int32) (Q : Int32 → (Nat → Int32) → (Nat → Int32) → Prop) (h : wp_X7_become x1 x2 c_s c_errors Q) : CTi l D X yX7_become cX7_become 3 .int rm_X7_become [.ref q_t, .int x1, .int x2] [(q_t, .inr (7, [.ref q_t_s, .ref q_t_k, .ref q_t_laid, .int c_images, .ref q_t_errors, .int c_at, .int c_open, .int c_steps, .int c_use, .ref q_t_step, .ref q_t_named, .ref q_t_pile, .ref q_t_sums1, .ref q_t_parts1, .int c_traced, .ref q_t_trace, .int c_speaks, .int c_isParted, .ref q_t_bits, .ref q_t_sizes, .ref q_t_number, .ref q_t_aside])), (q_t_s, .inl (X.cI, 476, .inl c_s)), (q_t_errors, .inl (X.cI, 7, .inl c_errors))] (fun (r : Int32) w => ∃ (c_s' : Nat → Int32) (c_errors' : Nat → Int32), Q r c_s' c_errors' ∧ w = [(q_t, .inr (7, [.ref q_t_s, .ref q_t_k, .ref q_t_laid, .int c_images, .ref q_t_errors, .int c_at, .int c_open, .int c_steps, .int c_use, .ref q_t_step, .ref q_t_named, .ref q_t_pile, .ref q_t_sums1, .ref q_t_parts1, .int c_traced, .ref q_t_trace, .int c_speaks, .int c_isParted, .ref q_t_bits, .ref q_t_sizes, .ref q_t_number, .ref q_t_aside])), (q_t_s, .inl (X.cI, 476, .inl c_s')), (q_t_errors, .inl (X.cI, 7, .inl c_errors'))]) :=
  ct_i (by decide) (Nat.le_of_ble_eq_true rfl) (fun g hl hD hX G R => by subst hl; subst hD; subst hX; exact b_X7_become_e G R h)
set_option maxRecDepth 100000 in
set_option maxHeartbeats 4000000 in
theorem b_X7_above_e {g : GT} (G : GOOD g RX7 cX7_above 1 rm_X7_above) {x0 : Int32} {Q : Int32 → Prop} (R : RETi g cX7_above 0 (fun (r : Int32) w => (Q r) ∧ w = [])) (h : wp_X7_above x0 Q) : ST g 0 0 0 [(0, .int x0)] [] [] := by
  unfold wp_X7_above at h
  refine st_iload_n G 1 rfl 0 rfl dX7_above_0 rfl ?_
  refine st_iconst G 2 rfl (4 : Int32) (by decide) dX7_above_1 ?_
  refine st_icmp_ne G 9 5 rfl dX7_above_2 rfl (fun c => ?_) (fun c => ?_)
  · have h := h.1 c
    refine st_iload_n G 10 rfl 0 rfl dX7_above_9 rfl ?_
    refine st_iconst G 11 rfl (5 : Int32) (by decide) dX7_above_10 ?_
    refine st_icmp_ne G 18 14 rfl dX7_above_11 rfl (fun c => ?_) (fun c => ?_)
    · have h := h.1 c
      refine st_iconst G 19 rfl (0 : Int32) (by decide) dX7_above_18 ?_
      exact R _ _ _ _ dX7_above_19 (Nat.le_of_ble_eq_true rfl) ⟨h, rfl⟩
    have h := h.2 c
    refine st_iconst G 15 rfl (2 : Int32) (by decide) dX7_above_14 ?_
    refine st_goto G 19 dX7_above_15 rfl ?_
    exact R _ _ _ _ dX7_above_19 (Nat.le_of_ble_eq_true rfl) ⟨h, rfl⟩
  have h := h.2 c
  refine st_iconst G 6 rfl (1 : Int32) (by decide) dX7_above_5 ?_
  refine st_goto G 19 dX7_above_6 rfl ?_
  exact R _ _ _ _ dX7_above_19 (Nat.le_of_ble_eq_true rfl) ⟨h, rfl⟩
set_option maxRecDepth 100000 in
set_option maxHeartbeats 4000000 in
theorem c_X7_above (l : Launch) (D : va_G) (X : XT) (x0 : Int32) (Q : Int32 → Prop) (h : wp_X7_above x0 Q) : CTi l D X yX7_above cX7_above 1 .int rm_X7_above [.int x0] [] (fun (r : Int32) w => (Q r) ∧ w = []) :=
  ct_i (by decide) (Nat.le_of_ble_eq_true rfl) (fun g hl hD hX G R => by subst hl; subst hD; subst hX; exact b_X7_above_e G R h)
set_option maxRecDepth 100000 in
set_option maxHeartbeats 4000000 in
theorem b_X7_as_31 {g : GT} (G : GOOD g RX7 cX7_as 4 rm_X7_as) {q_t q_t_s q_t_k q_t_laid q_t_errors q_t_step q_t_named q_t_pile q_t_sums1 q_t_parts1 q_t_trace q_t_bits q_t_sizes q_t_number q_t_aside : Nat} {c_images : Int32} {c_at : Int32} {c_open : Int32} {c_steps : Int32} {c_use : Int32} {c_traced : Int32} {c_speaks : Int32} {c_isParted : Int32} {c_s : Nat → Int32} {Q : Int32 → (Nat → Int32) → Prop} (R : RETi g cX7_as 3 (fun (r : Int32) w => ∃ (c_errors' : Nat → Int32), Q r c_errors' ∧ w = [(q_t, .inr (7, [.ref q_t_s, .ref q_t_k, .ref q_t_laid, .int c_images, .ref q_t_errors, .int c_at, .int c_open, .int c_steps, .int c_use, .ref q_t_step, .ref q_t_named, .ref q_t_pile, .ref q_t_sums1, .ref q_t_parts1, .int c_traced, .ref q_t_trace, .int c_speaks, .int c_isParted, .ref q_t_bits, .ref q_t_sizes, .ref q_t_number, .ref q_t_aside])), (q_t_s, .inl (g.X.cI, 476, .inl c_s)), (q_t_errors, .inl (g.X.cI, 7, .inl c_errors'))])) : ∀ (n : Nat) (x1 : Int32) (x2 : Int32) (x3 : Int32) (c_errors : Nat → Int32), wp_X7_as_b31 Q c_s n x1 x2 x3 c_errors → ST g 0 0 31 [(0, .ref q_t), (1, .int x1), (2, .int x2), (3, .int x3)] [] [(q_t, .inr (7, [.ref q_t_s, .ref q_t_k, .ref q_t_laid, .int c_images, .ref q_t_errors, .int c_at, .int c_open, .int c_steps, .int c_use, .ref q_t_step, .ref q_t_named, .ref q_t_pile, .ref q_t_sums1, .ref q_t_parts1, .int c_traced, .ref q_t_trace, .int c_speaks, .int c_isParted, .ref q_t_bits, .ref q_t_sizes, .ref q_t_number, .ref q_t_aside])), (q_t_s, .inl (g.X.cI, 476, .inl c_s)), (q_t_errors, .inl (g.X.cI, 7, .inl c_errors))] := by
  intro n
  induction n with
  | zero => intro x1 x2 x3 c_errors h; exact False.elim h
  | succ n hK31 =>
    intro x1 x2 x3 c_errors h
    unfold wp_X7_as_b31 at h
    refine st_iload_n G 32 rfl 3 rfl dX7_as_31 rfl ?_
    refine st_iload_n G 33 rfl 2 rfl dX7_as_32 rfl ?_
    refine st_icmp_eq G 48 36 rfl dX7_as_33 rfl (fun c => ?_) (fun c => ?_)
    · have h := h.1 c
      refine st_iload_n G 49 rfl 3 rfl dX7_as_48 rfl ?_
      refine st_iload_n G 50 rfl 2 rfl dX7_as_49 rfl ?_
      refine st_icmp_ne G 62 53 rfl dX7_as_50 rfl (fun c => ?_) (fun c => ?_)
      · have h := h.1 c
        refine st_aload_n G 63 rfl 0 rfl dX7_as_62 rfl ?_
        refine st_iconst G 64 rfl (5 : Int32) (by decide) dX7_as_63 ?_
        refine st_cVi G lk_X7_65 (c_X7_error g.l g.D g.X q_t q_t_s q_t_k q_t_laid q_t_errors q_t_step q_t_named q_t_pile q_t_sums1 q_t_parts1 q_t_trace q_t_bits q_t_sizes q_t_number q_t_aside c_images c_at c_open c_steps c_use c_traced c_speaks c_isParted c_errors (5 : Int32) _ h) ⟨rfl, rfl, ⟨Nat.le_of_ble_eq_true rfl, Nat.le_of_ble_eq_true rfl⟩, Nat.zero_le _, Nat.zero_le _⟩ 67 rfl [0, 2] rfl (by decide) 0 7 rfl rfl rfl (Nat.le_of_ble_eq_true rfl) rfl dX7_as_64 (fun r_64 w hq => ?_)
        obtain ⟨c_errors_64, h, rfl⟩ := hq
        refine st_wp (ws' := [(q_t, .inr (7, [.ref q_t_s, .ref q_t_k, .ref q_t_laid, .int c_images, .ref q_t_errors, .int c_at, .int c_open, .int c_steps, .int c_use, .ref q_t_step, .ref q_t_named, .ref q_t_pile, .ref q_t_sums1, .ref q_t_parts1, .int c_traced, .ref q_t_trace, .int c_speaks, .int c_isParted, .ref q_t_bits, .ref q_t_sizes, .ref q_t_number, .ref q_t_aside])), (q_t_s, .inl (g.X.cI, 476, .inl c_s)), (q_t_errors, .inl (g.X.cI, 7, .inl c_errors_64))]) 3 [1] (by decide) rfl rfl (by rfl) [(q_t_s, .inl (g.X.cI, 476, .inl c_s))] (by rfl) rfl ?_
        exact R _ _ _ _ dX7_as_67 (Nat.le_of_ble_eq_true rfl) ⟨_, h, rfl⟩
      have h := h.2 c
      refine st_aload_n G 54 rfl 0 rfl dX7_as_53 rfl ?_
      refine st_iload_n G 55 rfl 1 rfl dX7_as_54 rfl ?_
      refine st_iconst G 56 rfl (1 : Int32) (by decide) dX7_as_55 ?_
      refine st_cVio G lk_X7_124 (c_X7_its g.l g.D g.X q_t q_t_s q_t_k q_t_laid q_t_errors q_t_step q_t_named q_t_pile q_t_sums1 q_t_parts1 q_t_trace q_t_bits q_t_sizes q_t_number q_t_aside c_images c_at c_open c_steps c_use c_traced c_speaks c_isParted c_s x1 (1 : Int32) _ h) ⟨rfl, rfl, ⟨Nat.le_of_ble_eq_true rfl, Nat.le_of_ble_eq_true rfl⟩, Nat.zero_le _, Nat.zero_le _⟩ 59 rfl [0, 1] rfl (by decide) 0 7 rfl rfl rfl (Nat.le_of_ble_eq_true rfl) rfl dX7_as_56 (fun r_56 h => ?_)
      refine st_goto G 67 dX7_as_59 rfl ?_
      exact R _ _ _ _ dX7_as_67 (Nat.le_of_ble_eq_true rfl) ⟨_, h, rfl⟩
    have h := h.2 c
    refine st_iload_n G 37 rfl 3 rfl dX7_as_36 rfl ?_
    refine st_if_eq G 48 40 rfl dX7_as_37 rfl (fun c => ?_) (fun c => ?_)
    · have h := h.1 c
      refine st_iload_n G 49 rfl 3 rfl dX7_as_48 rfl ?_
      refine st_iload_n G 50 rfl 2 rfl dX7_as_49 rfl ?_
      refine st_icmp_ne G 62 53 rfl dX7_as_50 rfl (fun c => ?_) (fun c => ?_)
      · have h := h.1 c
        refine st_aload_n G 63 rfl 0 rfl dX7_as_62 rfl ?_
        refine st_iconst G 64 rfl (5 : Int32) (by decide) dX7_as_63 ?_
        refine st_cVi G lk_X7_65 (c_X7_error g.l g.D g.X q_t q_t_s q_t_k q_t_laid q_t_errors q_t_step q_t_named q_t_pile q_t_sums1 q_t_parts1 q_t_trace q_t_bits q_t_sizes q_t_number q_t_aside c_images c_at c_open c_steps c_use c_traced c_speaks c_isParted c_errors (5 : Int32) _ h) ⟨rfl, rfl, ⟨Nat.le_of_ble_eq_true rfl, Nat.le_of_ble_eq_true rfl⟩, Nat.zero_le _, Nat.zero_le _⟩ 67 rfl [0, 2] rfl (by decide) 0 7 rfl rfl rfl (Nat.le_of_ble_eq_true rfl) rfl dX7_as_64 (fun r_64 w hq => ?_)
        obtain ⟨c_errors_64, h, rfl⟩ := hq
        refine st_wp (ws' := [(q_t, .inr (7, [.ref q_t_s, .ref q_t_k, .ref q_t_laid, .int c_images, .ref q_t_errors, .int c_at, .int c_open, .int c_steps, .int c_use, .ref q_t_step, .ref q_t_named, .ref q_t_pile, .ref q_t_sums1, .ref q_t_parts1, .int c_traced, .ref q_t_trace, .int c_speaks, .int c_isParted, .ref q_t_bits, .ref q_t_sizes, .ref q_t_number, .ref q_t_aside])), (q_t_s, .inl (g.X.cI, 476, .inl c_s)), (q_t_errors, .inl (g.X.cI, 7, .inl c_errors_64))]) 3 [1] (by decide) rfl rfl (by rfl) [(q_t_s, .inl (g.X.cI, 476, .inl c_s))] (by rfl) rfl ?_
        exact R _ _ _ _ dX7_as_67 (Nat.le_of_ble_eq_true rfl) ⟨_, h, rfl⟩
      have h := h.2 c
      refine st_aload_n G 54 rfl 0 rfl dX7_as_53 rfl ?_
      refine st_iload_n G 55 rfl 1 rfl dX7_as_54 rfl ?_
      refine st_iconst G 56 rfl (1 : Int32) (by decide) dX7_as_55 ?_
      refine st_cVio G lk_X7_124 (c_X7_its g.l g.D g.X q_t q_t_s q_t_k q_t_laid q_t_errors q_t_step q_t_named q_t_pile q_t_sums1 q_t_parts1 q_t_trace q_t_bits q_t_sizes q_t_number q_t_aside c_images c_at c_open c_steps c_use c_traced c_speaks c_isParted c_s x1 (1 : Int32) _ h) ⟨rfl, rfl, ⟨Nat.le_of_ble_eq_true rfl, Nat.le_of_ble_eq_true rfl⟩, Nat.zero_le _, Nat.zero_le _⟩ 59 rfl [0, 1] rfl (by decide) 0 7 rfl rfl rfl (Nat.le_of_ble_eq_true rfl) rfl dX7_as_56 (fun r_56 h => ?_)
      refine st_goto G 67 dX7_as_59 rfl ?_
      exact R _ _ _ _ dX7_as_67 (Nat.le_of_ble_eq_true rfl) ⟨_, h, rfl⟩
    have h := h.2 c
    refine st_iload_n G 41 rfl 3 rfl dX7_as_40 rfl ?_
    refine st_cSio G lk_X7_175 (c_X7_above g.l g.D g.X x3 _ h) ⟨rfl, rfl, ⟨Nat.le_of_ble_eq_true rfl, Nat.le_of_ble_eq_true rfl⟩, Nat.zero_le _, Nat.zero_le _⟩ 44 rfl [] rfl (by decide) rfl (Nat.le_of_ble_eq_true rfl) rfl dX7_as_41 (fun r_41 h => ?_)
    refine st_istore_n G 45 rfl [(3, .int r_41), (0, .ref q_t), (1, .int x1), (2, .int x2)] dX7_as_44 rfl (by decide) rfl ?_
    refine st_goto G 31 dX7_as_45 rfl ?_
    refine st_L (L' := [(0, .ref q_t), (1, .int x1), (2, .int x2), (3, .int r_41)]) [1, 2, 3, 0] rfl ?_
    exact hK31 _ _ _ _ h
set_option maxRecDepth 100000 in
set_option maxHeartbeats 4000000 in
theorem b_X7_as_e {g : GT} (G : GOOD g RX7 cX7_as 4 rm_X7_as) {q_t q_t_s q_t_k q_t_laid q_t_errors q_t_step q_t_named q_t_pile q_t_sums1 q_t_parts1 q_t_trace q_t_bits q_t_sizes q_t_number q_t_aside : Nat} {c_images : Int32} {c_at : Int32} {c_open : Int32} {c_steps : Int32} {c_use : Int32} {c_traced : Int32} {c_speaks : Int32} {c_isParted : Int32} {c_s : Nat → Int32} {c_errors : Nat → Int32} {x1 : Int32} {x2 : Int32} {Q : Int32 → (Nat → Int32) → Prop} (R : RETi g cX7_as 3 (fun (r : Int32) w => ∃ (c_errors' : Nat → Int32), Q r c_errors' ∧ w = [(q_t, .inr (7, [.ref q_t_s, .ref q_t_k, .ref q_t_laid, .int c_images, .ref q_t_errors, .int c_at, .int c_open, .int c_steps, .int c_use, .ref q_t_step, .ref q_t_named, .ref q_t_pile, .ref q_t_sums1, .ref q_t_parts1, .int c_traced, .ref q_t_trace, .int c_speaks, .int c_isParted, .ref q_t_bits, .ref q_t_sizes, .ref q_t_number, .ref q_t_aside])), (q_t_s, .inl (g.X.cI, 476, .inl c_s)), (q_t_errors, .inl (g.X.cI, 7, .inl c_errors'))])) (h : wp_X7_as x1 x2 c_s c_errors Q) : ST g 0 0 0 [(0, .ref q_t), (1, .int x1), (2, .int x2)] [] [(q_t, .inr (7, [.ref q_t_s, .ref q_t_k, .ref q_t_laid, .int c_images, .ref q_t_errors, .int c_at, .int c_open, .int c_steps, .int c_use, .ref q_t_step, .ref q_t_named, .ref q_t_pile, .ref q_t_sums1, .ref q_t_parts1, .int c_traced, .ref q_t_trace, .int c_speaks, .int c_isParted, .ref q_t_bits, .ref q_t_sizes, .ref q_t_number, .ref q_t_aside])), (q_t_s, .inl (g.X.cI, 476, .inl c_s)), (q_t_errors, .inl (g.X.cI, 7, .inl c_errors))] := by
  unfold wp_X7_as at h
  refine st_aload_n G 1 rfl 0 rfl dX7_as_0 rfl ?_
  refine st_iload_n G 2 rfl 1 rfl dX7_as_1 rfl ?_
  refine st_cVio G lk_X7_156 (c_X7_isPerson g.l g.D g.X q_t q_t_s q_t_k q_t_laid q_t_errors q_t_step q_t_named q_t_pile q_t_sums1 q_t_parts1 q_t_trace q_t_bits q_t_sizes q_t_number q_t_aside c_images c_at c_open c_steps c_use c_traced c_speaks c_isParted c_s x1 _ h) ⟨rfl, rfl, ⟨Nat.le_of_ble_eq_true rfl, Nat.le_of_ble_eq_true rfl⟩, Nat.zero_le _, Nat.zero_le _⟩ 5 rfl [0, 1] rfl (by decide) 0 7 rfl rfl rfl (Nat.le_of_ble_eq_true rfl) rfl dX7_as_2 (fun r_2 h => ?_)
  refine st_if_eq G 18 8 rfl dX7_as_5 rfl (fun c => ?_) (fun c => ?_)
  · have h := h.1 c
    refine st_aload_n G 19 rfl 0 rfl dX7_as_18 rfl ?_
    refine st_iconst G 20 rfl (1 : Int32) (by decide) dX7_as_19 ?_
    refine st_cVi G lk_X7_65 (c_X7_error g.l g.D g.X q_t q_t_s q_t_k q_t_laid q_t_errors q_t_step q_t_named q_t_pile q_t_sums1 q_t_parts1 q_t_trace q_t_bits q_t_sizes q_t_number q_t_aside c_images c_at c_open c_steps c_use c_traced c_speaks c_isParted c_errors (1 : Int32) _ h) ⟨rfl, rfl, ⟨Nat.le_of_ble_eq_true rfl, Nat.le_of_ble_eq_true rfl⟩, Nat.zero_le _, Nat.zero_le _⟩ 23 rfl [0, 2] rfl (by decide) 0 7 rfl rfl rfl (Nat.le_of_ble_eq_true rfl) rfl dX7_as_20 (fun r_20 w hq => ?_)
    obtain ⟨c_errors_20, h, rfl⟩ := hq
    refine st_wp (ws' := [(q_t, .inr (7, [.ref q_t_s, .ref q_t_k, .ref q_t_laid, .int c_images, .ref q_t_errors, .int c_at, .int c_open, .int c_steps, .int c_use, .ref q_t_step, .ref q_t_named, .ref q_t_pile, .ref q_t_sums1, .ref q_t_parts1, .int c_traced, .ref q_t_trace, .int c_speaks, .int c_isParted, .ref q_t_bits, .ref q_t_sizes, .ref q_t_number, .ref q_t_aside])), (q_t_s, .inl (g.X.cI, 476, .inl c_s)), (q_t_errors, .inl (g.X.cI, 7, .inl c_errors_20))]) 3 [1] (by decide) rfl rfl (by rfl) [(q_t_s, .inl (g.X.cI, 476, .inl c_s))] (by rfl) rfl ?_
    exact R _ _ _ _ dX7_as_23 (Nat.le_of_ble_eq_true rfl) ⟨_, h, rfl⟩
  have h := h.2 c
  refine st_iload_n G 9 rfl 2 rfl dX7_as_8 rfl ?_
  refine st_iconst G 10 rfl (0 : Int32) (by decide) dX7_as_9 ?_
  refine st_bipush G 12 rfl (6 : Int32) (by decide) dX7_as_10 ?_
  refine st_cSio G lk_X7_53 (c_X7_in g.l g.D g.X x2 (0 : Int32) (6 : Int32) _ h) ⟨rfl, rfl, ⟨Nat.le_of_ble_eq_true rfl, Nat.le_of_ble_eq_true rfl⟩, Nat.zero_le _, Nat.zero_le _⟩ 15 rfl [] rfl (by decide) rfl (Nat.le_of_ble_eq_true rfl) rfl dX7_as_12 (fun r_12 h => ?_)
  refine st_if_ne G 24 18 rfl dX7_as_15 rfl (fun c => ?_) (fun c => ?_)
  · have h := h.1 c
    refine st_aload_n G 25 rfl 0 rfl dX7_as_24 rfl ?_
    refine st_iload_n G 26 rfl 1 rfl dX7_as_25 rfl ?_
    refine st_iconst G 27 rfl (0 : Int32) (by decide) dX7_as_26 ?_
    refine st_cVio G lk_X7_124 (c_X7_its g.l g.D g.X q_t q_t_s q_t_k q_t_laid q_t_errors q_t_step q_t_named q_t_pile q_t_sums1 q_t_parts1 q_t_trace q_t_bits q_t_sizes q_t_number q_t_aside c_images c_at c_open c_steps c_use c_traced c_speaks c_isParted c_s x1 (0 : Int32) _ h) ⟨rfl, rfl, ⟨Nat.le_of_ble_eq_true rfl, Nat.le_of_ble_eq_true rfl⟩, Nat.zero_le _, Nat.zero_le _⟩ 30 rfl [0, 1] rfl (by decide) 0 7 rfl rfl rfl (Nat.le_of_ble_eq_true rfl) rfl dX7_as_27 (fun r_27 h => ?_)
    refine st_istore_n G 31 rfl [(3, .int r_27), (0, .ref q_t), (1, .int x1), (2, .int x2)] dX7_as_30 rfl (by decide) rfl ?_
    refine st_L (L' := [(0, .ref q_t), (1, .int x1), (2, .int x2), (3, .int r_27)]) [1, 2, 3, 0] rfl ?_
    obtain ⟨n, h⟩ := h
    exact b_X7_as_31 G R n _ _ _ _ h
  have h := h.2 c
  refine st_aload_n G 19 rfl 0 rfl dX7_as_18 rfl ?_
  refine st_iconst G 20 rfl (1 : Int32) (by decide) dX7_as_19 ?_
  refine st_cVi G lk_X7_65 (c_X7_error g.l g.D g.X q_t q_t_s q_t_k q_t_laid q_t_errors q_t_step q_t_named q_t_pile q_t_sums1 q_t_parts1 q_t_trace q_t_bits q_t_sizes q_t_number q_t_aside c_images c_at c_open c_steps c_use c_traced c_speaks c_isParted c_errors (1 : Int32) _ h) ⟨rfl, rfl, ⟨Nat.le_of_ble_eq_true rfl, Nat.le_of_ble_eq_true rfl⟩, Nat.zero_le _, Nat.zero_le _⟩ 23 rfl [0, 2] rfl (by decide) 0 7 rfl rfl rfl (Nat.le_of_ble_eq_true rfl) rfl dX7_as_20 (fun r_20 w hq => ?_)
  obtain ⟨c_errors_20, h, rfl⟩ := hq
  refine st_wp (ws' := [(q_t, .inr (7, [.ref q_t_s, .ref q_t_k, .ref q_t_laid, .int c_images, .ref q_t_errors, .int c_at, .int c_open, .int c_steps, .int c_use, .ref q_t_step, .ref q_t_named, .ref q_t_pile, .ref q_t_sums1, .ref q_t_parts1, .int c_traced, .ref q_t_trace, .int c_speaks, .int c_isParted, .ref q_t_bits, .ref q_t_sizes, .ref q_t_number, .ref q_t_aside])), (q_t_s, .inl (g.X.cI, 476, .inl c_s)), (q_t_errors, .inl (g.X.cI, 7, .inl c_errors_20))]) 3 [1] (by decide) rfl rfl (by rfl) [(q_t_s, .inl (g.X.cI, 476, .inl c_s))] (by rfl) rfl ?_
  exact R _ _ _ _ dX7_as_23 (Nat.le_of_ble_eq_true rfl) ⟨_, h, rfl⟩
set_option maxRecDepth 100000 in
set_option maxHeartbeats 4000000 in
theorem c_X7_as (l : Launch) (D : va_G) (X : XT) (q_t q_t_s q_t_k q_t_laid q_t_errors q_t_step q_t_named q_t_pile q_t_sums1 q_t_parts1 q_t_trace q_t_bits q_t_sizes q_t_number q_t_aside : Nat) (c_images : Int32) (c_at : Int32) (c_open : Int32) (c_steps : Int32) (c_use : Int32) (c_traced : Int32) (c_speaks : Int32) (c_isParted : Int32) (c_s : Nat → Int32) (c_errors : Nat → Int32) (x1 : Int32) (x2 : Int32) (Q : Int32 → (Nat → Int32) → Prop) (h : wp_X7_as x1 x2 c_s c_errors Q) : CTi l D X yX7_as cX7_as 4 .int rm_X7_as [.ref q_t, .int x1, .int x2] [(q_t, .inr (7, [.ref q_t_s, .ref q_t_k, .ref q_t_laid, .int c_images, .ref q_t_errors, .int c_at, .int c_open, .int c_steps, .int c_use, .ref q_t_step, .ref q_t_named, .ref q_t_pile, .ref q_t_sums1, .ref q_t_parts1, .int c_traced, .ref q_t_trace, .int c_speaks, .int c_isParted, .ref q_t_bits, .ref q_t_sizes, .ref q_t_number, .ref q_t_aside])), (q_t_s, .inl (X.cI, 476, .inl c_s)), (q_t_errors, .inl (X.cI, 7, .inl c_errors))] (fun (r : Int32) w => ∃ (c_errors' : Nat → Int32), Q r c_errors' ∧ w = [(q_t, .inr (7, [.ref q_t_s, .ref q_t_k, .ref q_t_laid, .int c_images, .ref q_t_errors, .int c_at, .int c_open, .int c_steps, .int c_use, .ref q_t_step, .ref q_t_named, .ref q_t_pile, .ref q_t_sums1, .ref q_t_parts1, .int c_traced, .ref q_t_trace, .int c_speaks, .int c_isParted, .ref q_t_bits, .ref q_t_sizes, .ref q_t_number, .ref q_t_aside])), (q_t_s, .inl (X.cI, 476, .inl c_s)), (q_t_errors, .inl (X.cI, 7, .inl c_errors'))]) :=
  ct_i (by decide) (Nat.le_of_ble_eq_true rfl) (fun g hl hD hX G R => by subst hl; subst hD; subst hX; exact b_X7_as_e G R h)
set_option maxRecDepth 100000 in
set_option maxHeartbeats 4000000 in
theorem b_X7_hold_e {g : GT} (G : GOOD g RX7 cX7_hold 3 rm_X7_hold) {q_t q_t_s q_t_k q_t_laid q_t_errors q_t_step q_t_named q_t_pile q_t_sums1 q_t_parts1 q_t_trace q_t_bits q_t_sizes q_t_number q_t_aside : Nat} {c_images : Int32} {c_at : Int32} {c_open : Int32} {c_steps : Int32} {c_use : Int32} {c_traced : Int32} {c_speaks : Int32} {c_isParted : Int32} {c_s : Nat → Int32} {c_errors : Nat → Int32} {x1 : Int32} {x2 : Int32} {Q : Int32 → (Nat → Int32) → Prop} (R : RETi g cX7_hold 3 (fun (r : Int32) w => ∃ (c_errors' : Nat → Int32), Q r c_errors' ∧ w = [(q_t, .inr (7, [.ref q_t_s, .ref q_t_k, .ref q_t_laid, .int c_images, .ref q_t_errors, .int c_at, .int c_open, .int c_steps, .int c_use, .ref q_t_step, .ref q_t_named, .ref q_t_pile, .ref q_t_sums1, .ref q_t_parts1, .int c_traced, .ref q_t_trace, .int c_speaks, .int c_isParted, .ref q_t_bits, .ref q_t_sizes, .ref q_t_number, .ref q_t_aside])), (q_t_s, .inl (g.X.cI, 476, .inl c_s)), (q_t_errors, .inl (g.X.cI, 7, .inl c_errors'))])) (h : wp_X7_hold x1 x2 c_s c_errors Q) : ST g 0 0 0 [(0, .ref q_t), (1, .int x1), (2, .int x2)] [] [(q_t, .inr (7, [.ref q_t_s, .ref q_t_k, .ref q_t_laid, .int c_images, .ref q_t_errors, .int c_at, .int c_open, .int c_steps, .int c_use, .ref q_t_step, .ref q_t_named, .ref q_t_pile, .ref q_t_sums1, .ref q_t_parts1, .int c_traced, .ref q_t_trace, .int c_speaks, .int c_isParted, .ref q_t_bits, .ref q_t_sizes, .ref q_t_number, .ref q_t_aside])), (q_t_s, .inl (g.X.cI, 476, .inl c_s)), (q_t_errors, .inl (g.X.cI, 7, .inl c_errors))] := by
  unfold wp_X7_hold at h
  refine st_aload_n G 1 rfl 0 rfl dX7_hold_0 rfl ?_
  refine st_iload_n G 2 rfl 1 rfl dX7_hold_1 rfl ?_
  refine st_cVio G lk_X7_156 (c_X7_isPerson g.l g.D g.X q_t q_t_s q_t_k q_t_laid q_t_errors q_t_step q_t_named q_t_pile q_t_sums1 q_t_parts1 q_t_trace q_t_bits q_t_sizes q_t_number q_t_aside c_images c_at c_open c_steps c_use c_traced c_speaks c_isParted c_s x1 _ h) ⟨rfl, rfl, ⟨Nat.le_of_ble_eq_true rfl, Nat.le_of_ble_eq_true rfl⟩, Nat.zero_le _, Nat.zero_le _⟩ 5 rfl [0, 1] rfl (by decide) 0 7 rfl rfl rfl (Nat.le_of_ble_eq_true rfl) rfl dX7_hold_2 (fun r_2 h => ?_)
  refine st_if_eq G 24 8 rfl dX7_hold_5 rfl (fun c => ?_) (fun c => ?_)
  · have h := h.1 c
    refine st_aload_n G 25 rfl 0 rfl dX7_hold_24 rfl ?_
    refine st_iconst G 26 rfl (1 : Int32) (by decide) dX7_hold_25 ?_
    refine st_cVi G lk_X7_65 (c_X7_error g.l g.D g.X q_t q_t_s q_t_k q_t_laid q_t_errors q_t_step q_t_named q_t_pile q_t_sums1 q_t_parts1 q_t_trace q_t_bits q_t_sizes q_t_number q_t_aside c_images c_at c_open c_steps c_use c_traced c_speaks c_isParted c_errors (1 : Int32) _ h) ⟨rfl, rfl, ⟨Nat.le_of_ble_eq_true rfl, Nat.le_of_ble_eq_true rfl⟩, Nat.zero_le _, Nat.zero_le _⟩ 29 rfl [0, 2] rfl (by decide) 0 7 rfl rfl rfl (Nat.le_of_ble_eq_true rfl) rfl dX7_hold_26 (fun r_26 w hq => ?_)
    obtain ⟨c_errors_26, h, rfl⟩ := hq
    refine st_wp (ws' := [(q_t, .inr (7, [.ref q_t_s, .ref q_t_k, .ref q_t_laid, .int c_images, .ref q_t_errors, .int c_at, .int c_open, .int c_steps, .int c_use, .ref q_t_step, .ref q_t_named, .ref q_t_pile, .ref q_t_sums1, .ref q_t_parts1, .int c_traced, .ref q_t_trace, .int c_speaks, .int c_isParted, .ref q_t_bits, .ref q_t_sizes, .ref q_t_number, .ref q_t_aside])), (q_t_s, .inl (g.X.cI, 476, .inl c_s)), (q_t_errors, .inl (g.X.cI, 7, .inl c_errors_26))]) 3 [1] (by decide) rfl rfl (by rfl) [(q_t_s, .inl (g.X.cI, 476, .inl c_s))] (by rfl) rfl ?_
    exact R _ _ _ _ dX7_hold_29 (Nat.le_of_ble_eq_true rfl) ⟨_, h, rfl⟩
  have h := h.2 c
  refine st_iload_n G 9 rfl 2 rfl dX7_hold_8 rfl ?_
  refine st_cSio G lk_X7_178 (c_X7_isSort g.l g.D g.X x2 _ h) ⟨rfl, rfl, ⟨Nat.le_of_ble_eq_true rfl, Nat.le_of_ble_eq_true rfl⟩, Nat.zero_le _, Nat.zero_le _⟩ 12 rfl [] rfl (by decide) rfl (Nat.le_of_ble_eq_true rfl) rfl dX7_hold_9 (fun r_9 h => ?_)
  refine st_if_eq G 24 15 rfl dX7_hold_12 rfl (fun c => ?_) (fun c => ?_)
  · have h := h.1 c
    refine st_aload_n G 25 rfl 0 rfl dX7_hold_24 rfl ?_
    refine st_iconst G 26 rfl (1 : Int32) (by decide) dX7_hold_25 ?_
    refine st_cVi G lk_X7_65 (c_X7_error g.l g.D g.X q_t q_t_s q_t_k q_t_laid q_t_errors q_t_step q_t_named q_t_pile q_t_sums1 q_t_parts1 q_t_trace q_t_bits q_t_sizes q_t_number q_t_aside c_images c_at c_open c_steps c_use c_traced c_speaks c_isParted c_errors (1 : Int32) _ h) ⟨rfl, rfl, ⟨Nat.le_of_ble_eq_true rfl, Nat.le_of_ble_eq_true rfl⟩, Nat.zero_le _, Nat.zero_le _⟩ 29 rfl [0, 2] rfl (by decide) 0 7 rfl rfl rfl (Nat.le_of_ble_eq_true rfl) rfl dX7_hold_26 (fun r_26 w hq => ?_)
    obtain ⟨c_errors_26, h, rfl⟩ := hq
    refine st_wp (ws' := [(q_t, .inr (7, [.ref q_t_s, .ref q_t_k, .ref q_t_laid, .int c_images, .ref q_t_errors, .int c_at, .int c_open, .int c_steps, .int c_use, .ref q_t_step, .ref q_t_named, .ref q_t_pile, .ref q_t_sums1, .ref q_t_parts1, .int c_traced, .ref q_t_trace, .int c_speaks, .int c_isParted, .ref q_t_bits, .ref q_t_sizes, .ref q_t_number, .ref q_t_aside])), (q_t_s, .inl (g.X.cI, 476, .inl c_s)), (q_t_errors, .inl (g.X.cI, 7, .inl c_errors_26))]) 3 [1] (by decide) rfl rfl (by rfl) [(q_t_s, .inl (g.X.cI, 476, .inl c_s))] (by rfl) rfl ?_
    exact R _ _ _ _ dX7_hold_29 (Nat.le_of_ble_eq_true rfl) ⟨_, h, rfl⟩
  have h := h.2 c
  refine st_aload_n G 16 rfl 0 rfl dX7_hold_15 rfl ?_
  refine st_iload_n G 17 rfl 1 rfl dX7_hold_16 rfl ?_
  refine st_iload_n G 18 rfl 2 rfl dX7_hold_17 rfl ?_
  refine st_cVio G lk_X7_57 (c_X7_has g.l g.D g.X q_t q_t_s q_t_k q_t_laid q_t_errors q_t_step q_t_named q_t_pile q_t_sums1 q_t_parts1 q_t_trace q_t_bits q_t_sizes q_t_number q_t_aside c_images c_at c_open c_steps c_use c_traced c_speaks c_isParted c_s x1 x2 _ h) ⟨rfl, rfl, ⟨Nat.le_of_ble_eq_true rfl, Nat.le_of_ble_eq_true rfl⟩, Nat.zero_le _, Nat.zero_le _⟩ 21 rfl [0, 1] rfl (by decide) 0 7 rfl rfl rfl (Nat.le_of_ble_eq_true rfl) rfl dX7_hold_18 (fun r_18 h => ?_)
  refine st_goto G 29 dX7_hold_21 rfl ?_
  exact R _ _ _ _ dX7_hold_29 (Nat.le_of_ble_eq_true rfl) ⟨_, h, rfl⟩
set_option maxRecDepth 100000 in
set_option maxHeartbeats 4000000 in
theorem c_X7_hold (l : Launch) (D : va_G) (X : XT) (q_t q_t_s q_t_k q_t_laid q_t_errors q_t_step q_t_named q_t_pile q_t_sums1 q_t_parts1 q_t_trace q_t_bits q_t_sizes q_t_number q_t_aside : Nat) (c_images : Int32) (c_at : Int32) (c_open : Int32) (c_steps : Int32) (c_use : Int32) (c_traced : Int32) (c_speaks : Int32) (c_isParted : Int32) (c_s : Nat → Int32) (c_errors : Nat → Int32) (x1 : Int32) (x2 : Int32) (Q : Int32 → (Nat → Int32) → Prop) (h : wp_X7_hold x1 x2 c_s c_errors Q) : CTi l D X yX7_hold cX7_hold 3 .int rm_X7_hold [.ref q_t, .int x1, .int x2] [(q_t, .inr (7, [.ref q_t_s, .ref q_t_k, .ref q_t_laid, .int c_images, .ref q_t_errors, .int c_at, .int c_open, .int c_steps, .int c_use, .ref q_t_step, .ref q_t_named, .ref q_t_pile, .ref q_t_sums1, .ref q_t_parts1, .int c_traced, .ref q_t_trace, .int c_speaks, .int c_isParted, .ref q_t_bits, .ref q_t_sizes, .ref q_t_number, .ref q_t_aside])), (q_t_s, .inl (X.cI, 476, .inl c_s)), (q_t_errors, .inl (X.cI, 7, .inl c_errors))] (fun (r : Int32) w => ∃ (c_errors' : Nat → Int32), Q r c_errors' ∧ w = [(q_t, .inr (7, [.ref q_t_s, .ref q_t_k, .ref q_t_laid, .int c_images, .ref q_t_errors, .int c_at, .int c_open, .int c_steps, .int c_use, .ref q_t_step, .ref q_t_named, .ref q_t_pile, .ref q_t_sums1, .ref q_t_parts1, .int c_traced, .ref q_t_trace, .int c_speaks, .int c_isParted, .ref q_t_bits, .ref q_t_sizes, .ref q_t_number, .ref q_t_aside])), (q_t_s, .inl (X.cI, 476, .inl c_s)), (q_t_errors, .inl (X.cI, 7, .inl c_errors'))]) :=
  ct_i (by decide) (Nat.le_of_ble_eq_true rfl) (fun g hl hD hX G R => by subst hl; subst hD; subst hX; exact b_X7_hold_e G R h)
set_option maxRecDepth 100000 in
set_option maxHeartbeats 4000000 in
theorem b_X7_spoon_e {g : GT} (G : GOOD g RX7 cX7_spoon 4 rm_X7_spoon) {q_t q_t_s q_t_k q_t_laid q_t_errors q_t_step q_t_named q_t_pile q_t_sums1 q_t_parts1 q_t_trace q_t_bits q_t_sizes q_t_number q_t_aside : Nat} {c_images : Int32} {c_at : Int32} {c_open : Int32} {c_steps : Int32} {c_use : Int32} {c_traced : Int32} {c_speaks : Int32} {c_isParted : Int32} {c_s : Nat → Int32} {c_errors : Nat → Int32} {x1 : Int32} {x2 : Int32} {x3 : Int32} {Q : Int32 → (Nat → Int32) → (Nat → Int32) → Prop} (R : RETi g cX7_spoon 3 (fun (r : Int32) w => ∃ (c_s' : Nat → Int32) (c_errors' : Nat → Int32), Q r c_s' c_errors' ∧ w = [(q_t, .inr (7, [.ref q_t_s, .ref q_t_k, .ref q_t_laid, .int c_images, .ref q_t_errors, .int c_at, .int c_open, .int c_steps, .int c_use, .ref q_t_step, .ref q_t_named, .ref q_t_pile, .ref q_t_sums1, .ref q_t_parts1, .int c_traced, .ref q_t_trace, .int c_speaks, .int c_isParted, .ref q_t_bits, .ref q_t_sizes, .ref q_t_number, .ref q_t_aside])), (q_t_s, .inl (g.X.cI, 476, .inl c_s')), (q_t_errors, .inl (g.X.cI, 7, .inl c_errors'))])) (h : wp_X7_spoon x1 x2 x3 c_s c_errors Q) : ST g 0 0 0 [(0, .ref q_t), (1, .int x1), (2, .int x2), (3, .int x3)] [] [(q_t, .inr (7, [.ref q_t_s, .ref q_t_k, .ref q_t_laid, .int c_images, .ref q_t_errors, .int c_at, .int c_open, .int c_steps, .int c_use, .ref q_t_step, .ref q_t_named, .ref q_t_pile, .ref q_t_sums1, .ref q_t_parts1, .int c_traced, .ref q_t_trace, .int c_speaks, .int c_isParted, .ref q_t_bits, .ref q_t_sizes, .ref q_t_number, .ref q_t_aside])), (q_t_s, .inl (g.X.cI, 476, .inl c_s)), (q_t_errors, .inl (g.X.cI, 7, .inl c_errors))] := by
  unfold wp_X7_spoon at h
  refine st_aload_n G 1 rfl 0 rfl dX7_spoon_0 rfl ?_
  refine st_iload_n G 2 rfl 1 rfl dX7_spoon_1 rfl ?_
  refine st_cVio G lk_X7_156 (c_X7_isPerson g.l g.D g.X q_t q_t_s q_t_k q_t_laid q_t_errors q_t_step q_t_named q_t_pile q_t_sums1 q_t_parts1 q_t_trace q_t_bits q_t_sizes q_t_number q_t_aside c_images c_at c_open c_steps c_use c_traced c_speaks c_isParted c_s x1 _ h) ⟨rfl, rfl, ⟨Nat.le_of_ble_eq_true rfl, Nat.le_of_ble_eq_true rfl⟩, Nat.zero_le _, Nat.zero_le _⟩ 5 rfl [0, 1] rfl (by decide) 0 7 rfl rfl rfl (Nat.le_of_ble_eq_true rfl) rfl dX7_spoon_2 (fun r_2 h => ?_)
  refine st_if_eq G 41 8 rfl dX7_spoon_5 rfl (fun c => ?_) (fun c => ?_)
  · have h := h.1 c
    refine st_aload_n G 42 rfl 0 rfl dX7_spoon_41 rfl ?_
    refine st_iconst G 43 rfl (1 : Int32) (by decide) dX7_spoon_42 ?_
    refine st_cVi G lk_X7_65 (c_X7_error g.l g.D g.X q_t q_t_s q_t_k q_t_laid q_t_errors q_t_step q_t_named q_t_pile q_t_sums1 q_t_parts1 q_t_trace q_t_bits q_t_sizes q_t_number q_t_aside c_images c_at c_open c_steps c_use c_traced c_speaks c_isParted c_errors (1 : Int32) _ h) ⟨rfl, rfl, ⟨Nat.le_of_ble_eq_true rfl, Nat.le_of_ble_eq_true rfl⟩, Nat.zero_le _, Nat.zero_le _⟩ 46 rfl [0, 2] rfl (by decide) 0 7 rfl rfl rfl (Nat.le_of_ble_eq_true rfl) rfl dX7_spoon_43 (fun r_43 w hq => ?_)
    obtain ⟨c_errors_43, h, rfl⟩ := hq
    refine st_wp (ws' := [(q_t, .inr (7, [.ref q_t_s, .ref q_t_k, .ref q_t_laid, .int c_images, .ref q_t_errors, .int c_at, .int c_open, .int c_steps, .int c_use, .ref q_t_step, .ref q_t_named, .ref q_t_pile, .ref q_t_sums1, .ref q_t_parts1, .int c_traced, .ref q_t_trace, .int c_speaks, .int c_isParted, .ref q_t_bits, .ref q_t_sizes, .ref q_t_number, .ref q_t_aside])), (q_t_s, .inl (g.X.cI, 476, .inl c_s)), (q_t_errors, .inl (g.X.cI, 7, .inl c_errors_43))]) 3 [1] (by decide) rfl rfl (by rfl) [(q_t_s, .inl (g.X.cI, 476, .inl c_s))] (by rfl) rfl ?_
    exact R _ _ _ _ dX7_spoon_46 (Nat.le_of_ble_eq_true rfl) ⟨_, _, h, rfl⟩
  have h := h.2 c
  refine st_iload_n G 9 rfl 2 rfl dX7_spoon_8 rfl ?_
  refine st_cSio G lk_X7_178 (c_X7_isSort g.l g.D g.X x2 _ h) ⟨rfl, rfl, ⟨Nat.le_of_ble_eq_true rfl, Nat.le_of_ble_eq_true rfl⟩, Nat.zero_le _, Nat.zero_le _⟩ 12 rfl [] rfl (by decide) rfl (Nat.le_of_ble_eq_true rfl) rfl dX7_spoon_9 (fun r_9 h => ?_)
  refine st_if_eq G 41 15 rfl dX7_spoon_12 rfl (fun c => ?_) (fun c => ?_)
  · have h := h.1 c
    refine st_aload_n G 42 rfl 0 rfl dX7_spoon_41 rfl ?_
    refine st_iconst G 43 rfl (1 : Int32) (by decide) dX7_spoon_42 ?_
    refine st_cVi G lk_X7_65 (c_X7_error g.l g.D g.X q_t q_t_s q_t_k q_t_laid q_t_errors q_t_step q_t_named q_t_pile q_t_sums1 q_t_parts1 q_t_trace q_t_bits q_t_sizes q_t_number q_t_aside c_images c_at c_open c_steps c_use c_traced c_speaks c_isParted c_errors (1 : Int32) _ h) ⟨rfl, rfl, ⟨Nat.le_of_ble_eq_true rfl, Nat.le_of_ble_eq_true rfl⟩, Nat.zero_le _, Nat.zero_le _⟩ 46 rfl [0, 2] rfl (by decide) 0 7 rfl rfl rfl (Nat.le_of_ble_eq_true rfl) rfl dX7_spoon_43 (fun r_43 w hq => ?_)
    obtain ⟨c_errors_43, h, rfl⟩ := hq
    refine st_wp (ws' := [(q_t, .inr (7, [.ref q_t_s, .ref q_t_k, .ref q_t_laid, .int c_images, .ref q_t_errors, .int c_at, .int c_open, .int c_steps, .int c_use, .ref q_t_step, .ref q_t_named, .ref q_t_pile, .ref q_t_sums1, .ref q_t_parts1, .int c_traced, .ref q_t_trace, .int c_speaks, .int c_isParted, .ref q_t_bits, .ref q_t_sizes, .ref q_t_number, .ref q_t_aside])), (q_t_s, .inl (g.X.cI, 476, .inl c_s)), (q_t_errors, .inl (g.X.cI, 7, .inl c_errors_43))]) 3 [1] (by decide) rfl rfl (by rfl) [(q_t_s, .inl (g.X.cI, 476, .inl c_s))] (by rfl) rfl ?_
    exact R _ _ _ _ dX7_spoon_46 (Nat.le_of_ble_eq_true rfl) ⟨_, _, h, rfl⟩
  have h := h.2 c
  refine st_iload_n G 16 rfl 3 rfl dX7_spoon_15 rfl ?_
  refine st_iconst G 17 rfl (0 : Int32) (by decide) dX7_spoon_16 ?_
  refine st_bipush G 19 rfl (99 : Int32) (by decide) dX7_spoon_17 ?_
  refine st_cSio G lk_X7_53 (c_X7_in g.l g.D g.X x3 (0 : Int32) (99 : Int32) _ h) ⟨rfl, rfl, ⟨Nat.le_of_ble_eq_true rfl, Nat.le_of_ble_eq_true rfl⟩, Nat.zero_le _, Nat.zero_le _⟩ 22 rfl [] rfl (by decide) rfl (Nat.le_of_ble_eq_true rfl) rfl dX7_spoon_19 (fun r_19 h => ?_)
  refine st_if_eq G 41 25 rfl dX7_spoon_22 rfl (fun c => ?_) (fun c => ?_)
  · have h := h.1 c
    refine st_aload_n G 42 rfl 0 rfl dX7_spoon_41 rfl ?_
    refine st_iconst G 43 rfl (1 : Int32) (by decide) dX7_spoon_42 ?_
    refine st_cVi G lk_X7_65 (c_X7_error g.l g.D g.X q_t q_t_s q_t_k q_t_laid q_t_errors q_t_step q_t_named q_t_pile q_t_sums1 q_t_parts1 q_t_trace q_t_bits q_t_sizes q_t_number q_t_aside c_images c_at c_open c_steps c_use c_traced c_speaks c_isParted c_errors (1 : Int32) _ h) ⟨rfl, rfl, ⟨Nat.le_of_ble_eq_true rfl, Nat.le_of_ble_eq_true rfl⟩, Nat.zero_le _, Nat.zero_le _⟩ 46 rfl [0, 2] rfl (by decide) 0 7 rfl rfl rfl (Nat.le_of_ble_eq_true rfl) rfl dX7_spoon_43 (fun r_43 w hq => ?_)
    obtain ⟨c_errors_43, h, rfl⟩ := hq
    refine st_wp (ws' := [(q_t, .inr (7, [.ref q_t_s, .ref q_t_k, .ref q_t_laid, .int c_images, .ref q_t_errors, .int c_at, .int c_open, .int c_steps, .int c_use, .ref q_t_step, .ref q_t_named, .ref q_t_pile, .ref q_t_sums1, .ref q_t_parts1, .int c_traced, .ref q_t_trace, .int c_speaks, .int c_isParted, .ref q_t_bits, .ref q_t_sizes, .ref q_t_number, .ref q_t_aside])), (q_t_s, .inl (g.X.cI, 476, .inl c_s)), (q_t_errors, .inl (g.X.cI, 7, .inl c_errors_43))]) 3 [1] (by decide) rfl rfl (by rfl) [(q_t_s, .inl (g.X.cI, 476, .inl c_s))] (by rfl) rfl ?_
    exact R _ _ _ _ dX7_spoon_46 (Nat.le_of_ble_eq_true rfl) ⟨_, _, h, rfl⟩
  have h := h.2 c
  refine st_aload_n G 26 rfl 0 rfl dX7_spoon_25 rfl ?_
  refine st_bipush G 28 rfl (38 : Int32) (by decide) dX7_spoon_26 ?_
  refine st_iconst G 29 rfl (5 : Int32) (by decide) dX7_spoon_28 ?_
  refine st_iload_n G 30 rfl 1 rfl dX7_spoon_29 rfl ?_
  refine st_imul G 31 rfl dX7_spoon_30 ?_
  refine st_iadd G 32 rfl dX7_spoon_31 ?_
  refine st_iload_n G 33 rfl 2 rfl dX7_spoon_32 rfl ?_
  refine st_iadd G 34 rfl dX7_spoon_33 ?_
  refine st_iload_n G 35 rfl 3 rfl dX7_spoon_34 rfl ?_
  refine st_cVi G lk_X7_172 (c_X7_change1 g.l g.D g.X q_t q_t_s q_t_k q_t_laid q_t_errors q_t_step q_t_named q_t_pile q_t_sums1 q_t_parts1 q_t_trace q_t_bits q_t_sizes q_t_number q_t_aside c_images c_at c_open c_steps c_use c_traced c_speaks c_isParted c_s (((38 : Int32) + ((5 : Int32) * x1)) + x2) x3 _ h) ⟨rfl, rfl, ⟨Nat.le_of_ble_eq_true rfl, Nat.le_of_ble_eq_true rfl⟩, Nat.zero_le _, Nat.zero_le _⟩ 38 rfl [0, 1] rfl (by decide) 0 7 rfl rfl rfl (Nat.le_of_ble_eq_true rfl) rfl dX7_spoon_35 (fun r_35 w hq => ?_)
  obtain ⟨c_s_35, h, rfl⟩ := hq
  refine st_wp (ws' := [(q_t, .inr (7, [.ref q_t_s, .ref q_t_k, .ref q_t_laid, .int c_images, .ref q_t_errors, .int c_at, .int c_open, .int c_steps, .int c_use, .ref q_t_step, .ref q_t_named, .ref q_t_pile, .ref q_t_sums1, .ref q_t_parts1, .int c_traced, .ref q_t_trace, .int c_speaks, .int c_isParted, .ref q_t_bits, .ref q_t_sizes, .ref q_t_number, .ref q_t_aside])), (q_t_s, .inl (g.X.cI, 476, .inl c_s_35)), (q_t_errors, .inl (g.X.cI, 7, .inl c_errors))]) 3 [2] (by decide) rfl rfl (by rfl) [(q_t_errors, .inl (g.X.cI, 7, .inl c_errors))] (by rfl) rfl ?_
  refine st_goto G 46 dX7_spoon_38 rfl ?_
  exact R _ _ _ _ dX7_spoon_46 (Nat.le_of_ble_eq_true rfl) ⟨_, _, h, rfl⟩
set_option maxRecDepth 100000 in
set_option maxHeartbeats 4000000 in
theorem c_X7_spoon (l : Launch) (D : va_G) (X : XT) (q_t q_t_s q_t_k q_t_laid q_t_errors q_t_step q_t_named q_t_pile q_t_sums1 q_t_parts1 q_t_trace q_t_bits q_t_sizes q_t_number q_t_aside : Nat) (c_images : Int32) (c_at : Int32) (c_open : Int32) (c_steps : Int32) (c_use : Int32) (c_traced : Int32) (c_speaks : Int32) (c_isParted : Int32) (c_s : Nat → Int32) (c_errors : Nat → Int32) (x1 : Int32) (x2 : Int32) (x3 : Int32) (Q : Int32 → (Nat → Int32) → (Nat → Int32) → Prop) (h : wp_X7_spoon x1 x2 x3 c_s c_errors Q) : CTi l D X yX7_spoon cX7_spoon 4 .int rm_X7_spoon [.ref q_t, .int x1, .int x2, .int x3] [(q_t, .inr (7, [.ref q_t_s, .ref q_t_k, .ref q_t_laid, .int c_images, .ref q_t_errors, .int c_at, .int c_open, .int c_steps, .int c_use, .ref q_t_step, .ref q_t_named, .ref q_t_pile, .ref q_t_sums1, .ref q_t_parts1, .int c_traced, .ref q_t_trace, .int c_speaks, .int c_isParted, .ref q_t_bits, .ref q_t_sizes, .ref q_t_number, .ref q_t_aside])), (q_t_s, .inl (X.cI, 476, .inl c_s)), (q_t_errors, .inl (X.cI, 7, .inl c_errors))] (fun (r : Int32) w => ∃ (c_s' : Nat → Int32) (c_errors' : Nat → Int32), Q r c_s' c_errors' ∧ w = [(q_t, .inr (7, [.ref q_t_s, .ref q_t_k, .ref q_t_laid, .int c_images, .ref q_t_errors, .int c_at, .int c_open, .int c_steps, .int c_use, .ref q_t_step, .ref q_t_named, .ref q_t_pile, .ref q_t_sums1, .ref q_t_parts1, .int c_traced, .ref q_t_trace, .int c_speaks, .int c_isParted, .ref q_t_bits, .ref q_t_sizes, .ref q_t_number, .ref q_t_aside])), (q_t_s, .inl (X.cI, 476, .inl c_s')), (q_t_errors, .inl (X.cI, 7, .inl c_errors'))]) :=
  ct_i (by decide) (Nat.le_of_ble_eq_true rfl) (fun g hl hD hX G R => by subst hl; subst hD; subst hX; exact b_X7_spoon_e G R h)
set_option maxRecDepth 100000 in
set_option maxHeartbeats 4000000 in
theorem b_X7_gain_e {g : GT} (G : GOOD g RX7 cX7_gain 3 rm_X7_gain) {q_t q_t_s q_t_k q_t_laid q_t_errors q_t_step q_t_named q_t_pile q_t_sums1 q_t_parts1 q_t_trace q_t_bits q_t_sizes q_t_number q_t_aside : Nat} {c_images : Int32} {c_at : Int32} {c_open : Int32} {c_steps : Int32} {c_use : Int32} {c_traced : Int32} {c_speaks : Int32} {c_isParted : Int32} {c_s : Nat → Int32} {c_errors : Nat → Int32} {c_named : Nat → Int32} {c_pile : Nat → Int32} {x1 : Int32} {x2 : Int32} {Q : Int32 → (Nat → Int32) → (Nat → Int32) → (Nat → Int32) → Prop} (R : RETi g cX7_gain 5 (fun (r : Int32) w => ∃ (c_errors' : Nat → Int32) (c_named' : Nat → Int32) (c_pile' : Nat → Int32), Q r c_errors' c_named' c_pile' ∧ w = [(q_t, .inr (7, [.ref q_t_s, .ref q_t_k, .ref q_t_laid, .int c_images, .ref q_t_errors, .int c_at, .int c_open, .int c_steps, .int c_use, .ref q_t_step, .ref q_t_named, .ref q_t_pile, .ref q_t_sums1, .ref q_t_parts1, .int c_traced, .ref q_t_trace, .int c_speaks, .int c_isParted, .ref q_t_bits, .ref q_t_sizes, .ref q_t_number, .ref q_t_aside])), (q_t_s, .inl (g.X.cI, 476, .inl c_s)), (q_t_errors, .inl (g.X.cI, 7, .inl c_errors')), (q_t_named, .inl (g.X.cI, 128, .inl c_named')), (q_t_pile, .inl (g.X.cI, 64, .inl c_pile'))])) (h : wp_X7_gain x1 x2 c_s c_errors c_named c_pile Q) : ST g 0 0 0 [(0, .ref q_t), (1, .int x1), (2, .int x2)] [] [(q_t, .inr (7, [.ref q_t_s, .ref q_t_k, .ref q_t_laid, .int c_images, .ref q_t_errors, .int c_at, .int c_open, .int c_steps, .int c_use, .ref q_t_step, .ref q_t_named, .ref q_t_pile, .ref q_t_sums1, .ref q_t_parts1, .int c_traced, .ref q_t_trace, .int c_speaks, .int c_isParted, .ref q_t_bits, .ref q_t_sizes, .ref q_t_number, .ref q_t_aside])), (q_t_s, .inl (g.X.cI, 476, .inl c_s)), (q_t_errors, .inl (g.X.cI, 7, .inl c_errors)), (q_t_named, .inl (g.X.cI, 128, .inl c_named)), (q_t_pile, .inl (g.X.cI, 64, .inl c_pile))] := by
  unfold wp_X7_gain at h
  refine st_aload_n G 1 rfl 0 rfl dX7_gain_0 rfl ?_
  refine st_iload_n G 2 rfl 1 rfl dX7_gain_1 rfl ?_
  refine st_cVio G lk_X7_156 (c_X7_isPerson g.l g.D g.X q_t q_t_s q_t_k q_t_laid q_t_errors q_t_step q_t_named q_t_pile q_t_sums1 q_t_parts1 q_t_trace q_t_bits q_t_sizes q_t_number q_t_aside c_images c_at c_open c_steps c_use c_traced c_speaks c_isParted c_s x1 _ h) ⟨rfl, rfl, ⟨Nat.le_of_ble_eq_true rfl, Nat.le_of_ble_eq_true rfl⟩, Nat.zero_le _, Nat.zero_le _⟩ 5 rfl [0, 1] rfl (by decide) 0 7 rfl rfl rfl (Nat.le_of_ble_eq_true rfl) rfl dX7_gain_2 (fun r_2 h => ?_)
  refine st_if_eq G 24 8 rfl dX7_gain_5 rfl (fun c => ?_) (fun c => ?_)
  · have h := h.1 c
    refine st_aload_n G 25 rfl 0 rfl dX7_gain_24 rfl ?_
    refine st_iconst G 26 rfl (1 : Int32) (by decide) dX7_gain_25 ?_
    refine st_cVi G lk_X7_65 (c_X7_error g.l g.D g.X q_t q_t_s q_t_k q_t_laid q_t_errors q_t_step q_t_named q_t_pile q_t_sums1 q_t_parts1 q_t_trace q_t_bits q_t_sizes q_t_number q_t_aside c_images c_at c_open c_steps c_use c_traced c_speaks c_isParted c_errors (1 : Int32) _ h) ⟨rfl, rfl, ⟨Nat.le_of_ble_eq_true rfl, Nat.le_of_ble_eq_true rfl⟩, Nat.zero_le _, Nat.zero_le _⟩ 29 rfl [0, 2] rfl (by decide) 0 7 rfl rfl rfl (Nat.le_of_ble_eq_true rfl) rfl dX7_gain_26 (fun r_26 w hq => ?_)
    obtain ⟨c_errors_26, h, rfl⟩ := hq
    refine st_wp (ws' := [(q_t, .inr (7, [.ref q_t_s, .ref q_t_k, .ref q_t_laid, .int c_images, .ref q_t_errors, .int c_at, .int c_open, .int c_steps, .int c_use, .ref q_t_step, .ref q_t_named, .ref q_t_pile, .ref q_t_sums1, .ref q_t_parts1, .int c_traced, .ref q_t_trace, .int c_speaks, .int c_isParted, .ref q_t_bits, .ref q_t_sizes, .ref q_t_number, .ref q_t_aside])), (q_t_s, .inl (g.X.cI, 476, .inl c_s)), (q_t_errors, .inl (g.X.cI, 7, .inl c_errors_26)), (q_t_named, .inl (g.X.cI, 128, .inl c_named)), (q_t_pile, .inl (g.X.cI, 64, .inl c_pile))]) 5 [1, 3, 4] (by decide) rfl rfl (by rfl) [(q_t_s, .inl (g.X.cI, 476, .inl c_s)), (q_t_named, .inl (g.X.cI, 128, .inl c_named)), (q_t_pile, .inl (g.X.cI, 64, .inl c_pile))] (by rfl) rfl ?_
    exact R _ _ _ _ dX7_gain_29 (Nat.le_of_ble_eq_true rfl) ⟨_, _, _, h, rfl⟩
  have h := h.2 c
  refine st_iload_n G 9 rfl 2 rfl dX7_gain_8 rfl ?_
  refine st_cSio G lk_X7_178 (c_X7_isSort g.l g.D g.X x2 _ h) ⟨rfl, rfl, ⟨Nat.le_of_ble_eq_true rfl, Nat.le_of_ble_eq_true rfl⟩, Nat.zero_le _, Nat.zero_le _⟩ 12 rfl [] rfl (by decide) rfl (Nat.le_of_ble_eq_true rfl) rfl dX7_gain_9 (fun r_9 h => ?_)
  refine st_if_eq G 24 15 rfl dX7_gain_12 rfl (fun c => ?_) (fun c => ?_)
  · have h := h.1 c
    refine st_aload_n G 25 rfl 0 rfl dX7_gain_24 rfl ?_
    refine st_iconst G 26 rfl (1 : Int32) (by decide) dX7_gain_25 ?_
    refine st_cVi G lk_X7_65 (c_X7_error g.l g.D g.X q_t q_t_s q_t_k q_t_laid q_t_errors q_t_step q_t_named q_t_pile q_t_sums1 q_t_parts1 q_t_trace q_t_bits q_t_sizes q_t_number q_t_aside c_images c_at c_open c_steps c_use c_traced c_speaks c_isParted c_errors (1 : Int32) _ h) ⟨rfl, rfl, ⟨Nat.le_of_ble_eq_true rfl, Nat.le_of_ble_eq_true rfl⟩, Nat.zero_le _, Nat.zero_le _⟩ 29 rfl [0, 2] rfl (by decide) 0 7 rfl rfl rfl (Nat.le_of_ble_eq_true rfl) rfl dX7_gain_26 (fun r_26 w hq => ?_)
    obtain ⟨c_errors_26, h, rfl⟩ := hq
    refine st_wp (ws' := [(q_t, .inr (7, [.ref q_t_s, .ref q_t_k, .ref q_t_laid, .int c_images, .ref q_t_errors, .int c_at, .int c_open, .int c_steps, .int c_use, .ref q_t_step, .ref q_t_named, .ref q_t_pile, .ref q_t_sums1, .ref q_t_parts1, .int c_traced, .ref q_t_trace, .int c_speaks, .int c_isParted, .ref q_t_bits, .ref q_t_sizes, .ref q_t_number, .ref q_t_aside])), (q_t_s, .inl (g.X.cI, 476, .inl c_s)), (q_t_errors, .inl (g.X.cI, 7, .inl c_errors_26)), (q_t_named, .inl (g.X.cI, 128, .inl c_named)), (q_t_pile, .inl (g.X.cI, 64, .inl c_pile))]) 5 [1, 3, 4] (by decide) rfl rfl (by rfl) [(q_t_s, .inl (g.X.cI, 476, .inl c_s)), (q_t_named, .inl (g.X.cI, 128, .inl c_named)), (q_t_pile, .inl (g.X.cI, 64, .inl c_pile))] (by rfl) rfl ?_
    exact R _ _ _ _ dX7_gain_29 (Nat.le_of_ble_eq_true rfl) ⟨_, _, _, h, rfl⟩
  have h := h.2 c
  refine st_aload_n G 16 rfl 0 rfl dX7_gain_15 rfl ?_
  refine st_iload_n G 17 rfl 1 rfl dX7_gain_16 rfl ?_
  refine st_iload_n G 18 rfl 2 rfl dX7_gain_17 rfl ?_
  refine st_cVi G lk_X7_139 (c_X7_gainOf g.l g.D g.X q_t q_t_s q_t_k q_t_laid q_t_errors q_t_step q_t_named q_t_pile q_t_sums1 q_t_parts1 q_t_trace q_t_bits q_t_sizes q_t_number q_t_aside c_images c_at c_open c_steps c_use c_traced c_speaks c_isParted c_s c_named c_pile x1 x2 _ h) ⟨rfl, rfl, ⟨Nat.le_of_ble_eq_true rfl, Nat.le_of_ble_eq_true rfl⟩, Nat.zero_le _, Nat.zero_le _⟩ 21 rfl [0, 1, 3, 4] rfl (by decide) 0 7 rfl rfl rfl (Nat.le_of_ble_eq_true rfl) rfl dX7_gain_18 (fun r_18 w hq => ?_)
  obtain ⟨c_named_18, c_pile_18, h, rfl⟩ := hq
  refine st_wp (ws' := [(q_t, .inr (7, [.ref q_t_s, .ref q_t_k, .ref q_t_laid, .int c_images, .ref q_t_errors, .int c_at, .int c_open, .int c_steps, .int c_use, .ref q_t_step, .ref q_t_named, .ref q_t_pile, .ref q_t_sums1, .ref q_t_parts1, .int c_traced, .ref q_t_trace, .int c_speaks, .int c_isParted, .ref q_t_bits, .ref q_t_sizes, .ref q_t_number, .ref q_t_aside])), (q_t_s, .inl (g.X.cI, 476, .inl c_s)), (q_t_errors, .inl (g.X.cI, 7, .inl c_errors)), (q_t_named, .inl (g.X.cI, 128, .inl c_named_18)), (q_t_pile, .inl (g.X.cI, 64, .inl c_pile_18))]) 5 [2] (by decide) rfl rfl (by rfl) [(q_t_errors, .inl (g.X.cI, 7, .inl c_errors))] (by rfl) rfl ?_
  refine st_goto G 29 dX7_gain_21 rfl ?_
  exact R _ _ _ _ dX7_gain_29 (Nat.le_of_ble_eq_true rfl) ⟨_, _, _, h, rfl⟩
set_option maxRecDepth 100000 in
set_option maxHeartbeats 4000000 in
theorem c_X7_gain (l : Launch) (D : va_G) (X : XT) (q_t q_t_s q_t_k q_t_laid q_t_errors q_t_step q_t_named q_t_pile q_t_sums1 q_t_parts1 q_t_trace q_t_bits q_t_sizes q_t_number q_t_aside : Nat) (c_images : Int32) (c_at : Int32) (c_open : Int32) (c_steps : Int32) (c_use : Int32) (c_traced : Int32) (c_speaks : Int32) (c_isParted : Int32) (c_s : Nat → Int32) (c_errors : Nat → Int32) (c_named : Nat → Int32) (c_pile : Nat → Int32) (x1 : Int32) (x2 : Int32) (Q : Int32 → (Nat → Int32) → (Nat → Int32) → (Nat → Int32) → Prop) (h : wp_X7_gain x1 x2 c_s c_errors c_named c_pile Q) : CTi l D X yX7_gain cX7_gain 3 .int rm_X7_gain [.ref q_t, .int x1, .int x2] [(q_t, .inr (7, [.ref q_t_s, .ref q_t_k, .ref q_t_laid, .int c_images, .ref q_t_errors, .int c_at, .int c_open, .int c_steps, .int c_use, .ref q_t_step, .ref q_t_named, .ref q_t_pile, .ref q_t_sums1, .ref q_t_parts1, .int c_traced, .ref q_t_trace, .int c_speaks, .int c_isParted, .ref q_t_bits, .ref q_t_sizes, .ref q_t_number, .ref q_t_aside])), (q_t_s, .inl (X.cI, 476, .inl c_s)), (q_t_errors, .inl (X.cI, 7, .inl c_errors)), (q_t_named, .inl (X.cI, 128, .inl c_named)), (q_t_pile, .inl (X.cI, 64, .inl c_pile))] (fun (r : Int32) w => ∃ (c_errors' : Nat → Int32) (c_named' : Nat → Int32) (c_pile' : Nat → Int32), Q r c_errors' c_named' c_pile' ∧ w = [(q_t, .inr (7, [.ref q_t_s, .ref q_t_k, .ref q_t_laid, .int c_images, .ref q_t_errors, .int c_at, .int c_open, .int c_steps, .int c_use, .ref q_t_step, .ref q_t_named, .ref q_t_pile, .ref q_t_sums1, .ref q_t_parts1, .int c_traced, .ref q_t_trace, .int c_speaks, .int c_isParted, .ref q_t_bits, .ref q_t_sizes, .ref q_t_number, .ref q_t_aside])), (q_t_s, .inl (X.cI, 476, .inl c_s)), (q_t_errors, .inl (X.cI, 7, .inl c_errors')), (q_t_named, .inl (X.cI, 128, .inl c_named')), (q_t_pile, .inl (X.cI, 64, .inl c_pile'))]) :=
  ct_i (by decide) (Nat.le_of_ble_eq_true rfl) (fun g hl hD hX G R => by subst hl; subst hD; subst hX; exact b_X7_gain_e G R h)
set_option maxRecDepth 100000 in
set_option maxHeartbeats 4000000 in
theorem b_X7_areGiven_e {g : GT} (G : GOOD g RX7 cX7_areGiven 5 rm_X7_areGiven) {q_t q_t_s q_t_k q_t_laid q_t_errors q_t_step q_t_named q_t_pile q_t_sums1 q_t_parts1 q_t_trace q_t_bits q_t_sizes q_t_number q_t_aside : Nat} {c_images : Int32} {c_at : Int32} {c_open : Int32} {c_steps : Int32} {c_use : Int32} {c_traced : Int32} {c_speaks : Int32} {c_isParted : Int32} {c_s : Nat → Int32} {x1 : Int32} {x2 : Int32} {x3 : Int32} {x4 : Int32} {Q : Int32 → Prop} (R : RETz g cX7_areGiven 2 (fun (r : Int32) w => (Q r) ∧ w = [(q_t, .inr (7, [.ref q_t_s, .ref q_t_k, .ref q_t_laid, .int c_images, .ref q_t_errors, .int c_at, .int c_open, .int c_steps, .int c_use, .ref q_t_step, .ref q_t_named, .ref q_t_pile, .ref q_t_sums1, .ref q_t_parts1, .int c_traced, .ref q_t_trace, .int c_speaks, .int c_isParted, .ref q_t_bits, .ref q_t_sizes, .ref q_t_number, .ref q_t_aside])), (q_t_s, .inl (g.X.cI, 476, .inl c_s))])) (h : wp_X7_areGiven x1 x2 x3 x4 c_s Q) : ST g 0 0 0 [(0, .ref q_t), (1, .int x1), (2, .int x2), (3, .int x3), (4, .int x4)] [] [(q_t, .inr (7, [.ref q_t_s, .ref q_t_k, .ref q_t_laid, .int c_images, .ref q_t_errors, .int c_at, .int c_open, .int c_steps, .int c_use, .ref q_t_step, .ref q_t_named, .ref q_t_pile, .ref q_t_sums1, .ref q_t_parts1, .int c_traced, .ref q_t_trace, .int c_speaks, .int c_isParted, .ref q_t_bits, .ref q_t_sizes, .ref q_t_number, .ref q_t_aside])), (q_t_s, .inl (g.X.cI, 476, .inl c_s))] := by
  unfold wp_X7_areGiven at h
  refine st_aload_n G 1 rfl 0 rfl dX7_areGiven_0 rfl ?_
  refine st_iload_n G 2 rfl 1 rfl dX7_areGiven_1 rfl ?_
  refine st_iload_n G 3 rfl 2 rfl dX7_areGiven_2 rfl ?_
  refine st_cVio G lk_X7_159 (c_X7_areTwo g.l g.D g.X q_t q_t_s q_t_k q_t_laid q_t_errors q_t_step q_t_named q_t_pile q_t_sums1 q_t_parts1 q_t_trace q_t_bits q_t_sizes q_t_number q_t_aside c_images c_at c_open c_steps c_use c_traced c_speaks c_isParted c_s x1 x2 _ h) ⟨rfl, rfl, ⟨Nat.le_of_ble_eq_true rfl, Nat.le_of_ble_eq_true rfl⟩, Nat.zero_le _, Nat.zero_le _⟩ 6 rfl [0, 1] rfl (by decide) 0 7 rfl rfl rfl (Nat.le_of_ble_eq_true rfl) rfl dX7_areGiven_3 (fun r_3 h => ?_)
  refine st_if_eq G 31 9 rfl dX7_areGiven_6 rfl (fun c => ?_) (fun c => ?_)
  · have h := h.1 c
    refine st_iconst G 32 rfl (0 : Int32) (by decide) dX7_areGiven_31 ?_
    exact R _ _ _ _ dX7_areGiven_32 (Nat.le_of_ble_eq_true rfl) rfl ⟨h, rfl⟩
  have h := h.2 c
  refine st_iload_n G 10 rfl 3 rfl dX7_areGiven_9 rfl ?_
  refine st_cSio G lk_X7_178 (c_X7_isSort g.l g.D g.X x3 _ h) ⟨rfl, rfl, ⟨Nat.le_of_ble_eq_true rfl, Nat.le_of_ble_eq_true rfl⟩, Nat.zero_le _, Nat.zero_le _⟩ 13 rfl [] rfl (by decide) rfl (Nat.le_of_ble_eq_true rfl) rfl dX7_areGiven_10 (fun r_10 h => ?_)
  refine st_if_eq G 31 16 rfl dX7_areGiven_13 rfl (fun c => ?_) (fun c => ?_)
  · have h := h.1 c
    refine st_iconst G 32 rfl (0 : Int32) (by decide) dX7_areGiven_31 ?_
    exact R _ _ _ _ dX7_areGiven_32 (Nat.le_of_ble_eq_true rfl) rfl ⟨h, rfl⟩
  have h := h.2 c
  refine st_iload G 18 rfl 4 rfl dX7_areGiven_16 ?_
  refine st_iconst G 19 rfl (1 : Int32) (by decide) dX7_areGiven_18 ?_
  refine st_bipush G 21 rfl (99 : Int32) (by decide) dX7_areGiven_19 ?_
  refine st_cSio G lk_X7_53 (c_X7_in g.l g.D g.X x4 (1 : Int32) (99 : Int32) _ h) ⟨rfl, rfl, ⟨Nat.le_of_ble_eq_true rfl, Nat.le_of_ble_eq_true rfl⟩, Nat.zero_le _, Nat.zero_le _⟩ 24 rfl [] rfl (by decide) rfl (Nat.le_of_ble_eq_true rfl) rfl dX7_areGiven_21 (fun r_21 h => ?_)
  refine st_if_eq G 31 27 rfl dX7_areGiven_24 rfl (fun c => ?_) (fun c => ?_)
  · have h := h.1 c
    refine st_iconst G 32 rfl (0 : Int32) (by decide) dX7_areGiven_31 ?_
    exact R _ _ _ _ dX7_areGiven_32 (Nat.le_of_ble_eq_true rfl) rfl ⟨h, rfl⟩
  have h := h.2 c
  refine st_iconst G 28 rfl (1 : Int32) (by decide) dX7_areGiven_27 ?_
  refine st_goto G 32 dX7_areGiven_28 rfl ?_
  exact R _ _ _ _ dX7_areGiven_32 (Nat.le_of_ble_eq_true rfl) rfl ⟨h, rfl⟩
set_option maxRecDepth 100000 in
set_option maxHeartbeats 4000000 in
theorem c_X7_areGiven (l : Launch) (D : va_G) (X : XT) (q_t q_t_s q_t_k q_t_laid q_t_errors q_t_step q_t_named q_t_pile q_t_sums1 q_t_parts1 q_t_trace q_t_bits q_t_sizes q_t_number q_t_aside : Nat) (c_images : Int32) (c_at : Int32) (c_open : Int32) (c_steps : Int32) (c_use : Int32) (c_traced : Int32) (c_speaks : Int32) (c_isParted : Int32) (c_s : Nat → Int32) (x1 : Int32) (x2 : Int32) (x3 : Int32) (x4 : Int32) (Q : Int32 → Prop) (h : wp_X7_areGiven x1 x2 x3 x4 c_s Q) : CTi l D X yX7_areGiven cX7_areGiven 5 .boolean rm_X7_areGiven [.ref q_t, .int x1, .int x2, .int x3, .int x4] [(q_t, .inr (7, [.ref q_t_s, .ref q_t_k, .ref q_t_laid, .int c_images, .ref q_t_errors, .int c_at, .int c_open, .int c_steps, .int c_use, .ref q_t_step, .ref q_t_named, .ref q_t_pile, .ref q_t_sums1, .ref q_t_parts1, .int c_traced, .ref q_t_trace, .int c_speaks, .int c_isParted, .ref q_t_bits, .ref q_t_sizes, .ref q_t_number, .ref q_t_aside])), (q_t_s, .inl (X.cI, 476, .inl c_s))] (fun (r : Int32) w => (Q r) ∧ w = [(q_t, .inr (7, [.ref q_t_s, .ref q_t_k, .ref q_t_laid, .int c_images, .ref q_t_errors, .int c_at, .int c_open, .int c_steps, .int c_use, .ref q_t_step, .ref q_t_named, .ref q_t_pile, .ref q_t_sums1, .ref q_t_parts1, .int c_traced, .ref q_t_trace, .int c_speaks, .int c_isParted, .ref q_t_bits, .ref q_t_sizes, .ref q_t_number, .ref q_t_aside])), (q_t_s, .inl (X.cI, 476, .inl c_s))]) :=
  ct_z (by decide) (Nat.le_of_ble_eq_true rfl) (fun g hl hD hX G R => by subst hl; subst hD; subst hX; exact b_X7_areGiven_e G R h)
set_option maxRecDepth 100000 in
set_option maxHeartbeats 4000000 in
theorem b_X7_canGo_e {g : GT} (G : GOOD g RX7 cX7_canGo 5 rm_X7_canGo) {q_t q_t_s q_t_k q_t_laid q_t_errors q_t_step q_t_named q_t_pile q_t_sums1 q_t_parts1 q_t_trace q_t_bits q_t_sizes q_t_number q_t_aside : Nat} {c_images : Int32} {c_at : Int32} {c_open : Int32} {c_steps : Int32} {c_use : Int32} {c_traced : Int32} {c_speaks : Int32} {c_isParted : Int32} {c_s : Nat → Int32} {x1 : Int32} {x2 : Int32} {x3 : Int32} {x4 : Int32} {Q : Int32 → Prop} (R : RETz g cX7_canGo 2 (fun (r : Int32) w => (Q r) ∧ w = [(q_t, .inr (7, [.ref q_t_s, .ref q_t_k, .ref q_t_laid, .int c_images, .ref q_t_errors, .int c_at, .int c_open, .int c_steps, .int c_use, .ref q_t_step, .ref q_t_named, .ref q_t_pile, .ref q_t_sums1, .ref q_t_parts1, .int c_traced, .ref q_t_trace, .int c_speaks, .int c_isParted, .ref q_t_bits, .ref q_t_sizes, .ref q_t_number, .ref q_t_aside])), (q_t_s, .inl (g.X.cI, 476, .inl c_s))])) (h : wp_X7_canGo x1 x2 x3 x4 c_s Q) : ST g 0 0 0 [(0, .ref q_t), (1, .int x1), (2, .int x2), (3, .int x3), (4, .int x4)] [] [(q_t, .inr (7, [.ref q_t_s, .ref q_t_k, .ref q_t_laid, .int c_images, .ref q_t_errors, .int c_at, .int c_open, .int c_steps, .int c_use, .ref q_t_step, .ref q_t_named, .ref q_t_pile, .ref q_t_sums1, .ref q_t_parts1, .int c_traced, .ref q_t_trace, .int c_speaks, .int c_isParted, .ref q_t_bits, .ref q_t_sizes, .ref q_t_number, .ref q_t_aside])), (q_t_s, .inl (g.X.cI, 476, .inl c_s))] := by
  unfold wp_X7_canGo at h
  refine st_aload_n G 1 rfl 0 rfl dX7_canGo_0 rfl ?_
  refine st_iload_n G 2 rfl 1 rfl dX7_canGo_1 rfl ?_
  refine st_iload_n G 3 rfl 3 rfl dX7_canGo_2 rfl ?_
  refine st_cVio G lk_X7_57 (c_X7_has g.l g.D g.X q_t q_t_s q_t_k q_t_laid q_t_errors q_t_step q_t_named q_t_pile q_t_sums1 q_t_parts1 q_t_trace q_t_bits q_t_sizes q_t_number q_t_aside c_images c_at c_open c_steps c_use c_traced c_speaks c_isParted c_s x1 x3 _ h) ⟨rfl, rfl, ⟨Nat.le_of_ble_eq_true rfl, Nat.le_of_ble_eq_true rfl⟩, Nat.zero_le _, Nat.zero_le _⟩ 6 rfl [0, 1] rfl (by decide) 0 7 rfl rfl rfl (Nat.le_of_ble_eq_true rfl) rfl dX7_canGo_3 (fun r_3 h => ?_)
  refine st_iload G 8 rfl 4 rfl dX7_canGo_6 ?_
  refine st_icmp_lt G 29 11 rfl dX7_canGo_8 rfl (fun c => ?_) (fun c => ?_)
  · have h := h.1 c
    refine st_iconst G 30 rfl (0 : Int32) (by decide) dX7_canGo_29 ?_
    exact R _ _ _ _ dX7_canGo_30 (Nat.le_of_ble_eq_true rfl) rfl ⟨h, rfl⟩
  have h := h.2 c
  refine st_aload_n G 12 rfl 0 rfl dX7_canGo_11 rfl ?_
  refine st_iload_n G 13 rfl 2 rfl dX7_canGo_12 rfl ?_
  refine st_iload_n G 14 rfl 3 rfl dX7_canGo_13 rfl ?_
  refine st_cVio G lk_X7_57 (c_X7_has g.l g.D g.X q_t q_t_s q_t_k q_t_laid q_t_errors q_t_step q_t_named q_t_pile q_t_sums1 q_t_parts1 q_t_trace q_t_bits q_t_sizes q_t_number q_t_aside c_images c_at c_open c_steps c_use c_traced c_speaks c_isParted c_s x2 x3 _ h) ⟨rfl, rfl, ⟨Nat.le_of_ble_eq_true rfl, Nat.le_of_ble_eq_true rfl⟩, Nat.zero_le _, Nat.zero_le _⟩ 17 rfl [0, 1] rfl (by decide) 0 7 rfl rfl rfl (Nat.le_of_ble_eq_true rfl) rfl dX7_canGo_14 (fun r_14 h => ?_)
  refine st_iload G 19 rfl 4 rfl dX7_canGo_17 ?_
  refine st_iadd G 20 rfl dX7_canGo_19 ?_
  refine st_bipush G 22 rfl (99 : Int32) (by decide) dX7_canGo_20 ?_
  refine st_icmp_gt G 29 25 rfl dX7_canGo_22 rfl (fun c => ?_) (fun c => ?_)
  · have h := h.1 c
    refine st_iconst G 30 rfl (0 : Int32) (by decide) dX7_canGo_29 ?_
    exact R _ _ _ _ dX7_canGo_30 (Nat.le_of_ble_eq_true rfl) rfl ⟨h, rfl⟩
  have h := h.2 c
  refine st_iconst G 26 rfl (1 : Int32) (by decide) dX7_canGo_25 ?_
  refine st_goto G 30 dX7_canGo_26 rfl ?_
  exact R _ _ _ _ dX7_canGo_30 (Nat.le_of_ble_eq_true rfl) rfl ⟨h, rfl⟩
set_option maxRecDepth 100000 in
set_option maxHeartbeats 4000000 in
theorem c_X7_canGo (l : Launch) (D : va_G) (X : XT) (q_t q_t_s q_t_k q_t_laid q_t_errors q_t_step q_t_named q_t_pile q_t_sums1 q_t_parts1 q_t_trace q_t_bits q_t_sizes q_t_number q_t_aside : Nat) (c_images : Int32) (c_at : Int32) (c_open : Int32) (c_steps : Int32) (c_use : Int32) (c_traced : Int32) (c_speaks : Int32) (c_isParted : Int32) (c_s : Nat → Int32) (x1 : Int32) (x2 : Int32) (x3 : Int32) (x4 : Int32) (Q : Int32 → Prop) (h : wp_X7_canGo x1 x2 x3 x4 c_s Q) : CTi l D X yX7_canGo cX7_canGo 5 .boolean rm_X7_canGo [.ref q_t, .int x1, .int x2, .int x3, .int x4] [(q_t, .inr (7, [.ref q_t_s, .ref q_t_k, .ref q_t_laid, .int c_images, .ref q_t_errors, .int c_at, .int c_open, .int c_steps, .int c_use, .ref q_t_step, .ref q_t_named, .ref q_t_pile, .ref q_t_sums1, .ref q_t_parts1, .int c_traced, .ref q_t_trace, .int c_speaks, .int c_isParted, .ref q_t_bits, .ref q_t_sizes, .ref q_t_number, .ref q_t_aside])), (q_t_s, .inl (X.cI, 476, .inl c_s))] (fun (r : Int32) w => (Q r) ∧ w = [(q_t, .inr (7, [.ref q_t_s, .ref q_t_k, .ref q_t_laid, .int c_images, .ref q_t_errors, .int c_at, .int c_open, .int c_steps, .int c_use, .ref q_t_step, .ref q_t_named, .ref q_t_pile, .ref q_t_sums1, .ref q_t_parts1, .int c_traced, .ref q_t_trace, .int c_speaks, .int c_isParted, .ref q_t_bits, .ref q_t_sizes, .ref q_t_number, .ref q_t_aside])), (q_t_s, .inl (X.cI, 476, .inl c_s))]) :=
  ct_z (by decide) (Nat.le_of_ble_eq_true rfl) (fun g hl hD hX G R => by subst hl; subst hD; subst hX; exact b_X7_canGo_e G R h)
set_option maxRecDepth 100000 in
set_option maxHeartbeats 4000000 in
theorem b_X7_go_e {g : GT} (G : GOOD g RX7 cX7_go 5 rm_X7_go) {q_t q_t_s q_t_k q_t_laid q_t_errors q_t_step q_t_named q_t_pile q_t_sums1 q_t_parts1 q_t_trace q_t_bits q_t_sizes q_t_number q_t_aside : Nat} {c_images : Int32} {c_at : Int32} {c_open : Int32} {c_steps : Int32} {c_use : Int32} {c_traced : Int32} {c_speaks : Int32} {c_isParted : Int32} {c_s : Nat → Int32} {x1 : Int32} {x2 : Int32} {x3 : Int32} {x4 : Int32} {Q : (Nat → Int32) → Prop} (R : RETv g cX7_go 0 0 2 (fun w => ∃ (c_s' : Nat → Int32), Q c_s' ∧ w = [(q_t, .inr (7, [.ref q_t_s, .ref q_t_k, .ref q_t_laid, .int c_images, .ref q_t_errors, .int c_at, .int c_open, .int c_steps, .int c_use, .ref q_t_step, .ref q_t_named, .ref q_t_pile, .ref q_t_sums1, .ref q_t_parts1, .int c_traced, .ref q_t_trace, .int c_speaks, .int c_isParted, .ref q_t_bits, .ref q_t_sizes, .ref q_t_number, .ref q_t_aside])), (q_t_s, .inl (g.X.cI, 476, .inl c_s'))])) (h : wp_X7_go x1 x2 x3 x4 c_s Q) : ST g 0 0 0 [(0, .ref q_t), (1, .int x1), (2, .int x2), (3, .int x3), (4, .int x4)] [] [(q_t, .inr (7, [.ref q_t_s, .ref q_t_k, .ref q_t_laid, .int c_images, .ref q_t_errors, .int c_at, .int c_open, .int c_steps, .int c_use, .ref q_t_step, .ref q_t_named, .ref q_t_pile, .ref q_t_sums1, .ref q_t_parts1, .int c_traced, .ref q_t_trace, .int c_speaks, .int c_isParted, .ref q_t_bits, .ref q_t_sizes, .ref q_t_number, .ref q_t_aside])), (q_t_s, .inl (g.X.cI, 476, .inl c_s))] := by
  unfold wp_X7_go at h
  refine st_aload_n G 1 rfl 0 rfl dX7_go_0 rfl ?_
  refine st_iload_n G 2 rfl 1 rfl dX7_go_1 rfl ?_
  refine st_iload_n G 3 rfl 3 rfl dX7_go_2 rfl ?_
  refine st_iload G 5 rfl 4 rfl dX7_go_3 ?_
  refine st_ineg G 6 rfl dX7_go_5 ?_
  refine st_cVv G lk_X7_142 (c_X7_gets g.l g.D g.X q_t q_t_s q_t_k q_t_laid q_t_errors q_t_step q_t_named q_t_pile q_t_sums1 q_t_parts1 q_t_trace q_t_bits q_t_sizes q_t_number q_t_aside c_images c_at c_open c_steps c_use c_traced c_speaks c_isParted c_s x1 x3 (-x4) _ h) ⟨rfl, rfl, ⟨Nat.le_of_ble_eq_true rfl, Nat.le_of_ble_eq_true rfl⟩, Nat.zero_le _, Nat.zero_le _⟩ 9 rfl [0, 1] rfl (by decide) 0 7 rfl rfl rfl (Nat.le_of_ble_eq_true rfl) rfl dX7_go_6 (fun w hq => ?_)
  obtain ⟨c_s_6, h, rfl⟩ := hq
  refine st_wp (ws' := [(q_t, .inr (7, [.ref q_t_s, .ref q_t_k, .ref q_t_laid, .int c_images, .ref q_t_errors, .int c_at, .int c_open, .int c_steps, .int c_use, .ref q_t_step, .ref q_t_named, .ref q_t_pile, .ref q_t_sums1, .ref q_t_parts1, .int c_traced, .ref q_t_trace, .int c_speaks, .int c_isParted, .ref q_t_bits, .ref q_t_sizes, .ref q_t_number, .ref q_t_aside])), (q_t_s, .inl (g.X.cI, 476, .inl c_s_6))]) 2 [] (by decide) rfl rfl (by rfl) [] (by rfl) rfl ?_
  refine st_aload_n G 10 rfl 0 rfl dX7_go_9 rfl ?_
  refine st_iload_n G 11 rfl 2 rfl dX7_go_10 rfl ?_
  refine st_iload_n G 12 rfl 3 rfl dX7_go_11 rfl ?_
  refine st_iload G 14 rfl 4 rfl dX7_go_12 ?_
  refine st_cVv G lk_X7_142 (c_X7_gets g.l g.D g.X q_t q_t_s q_t_k q_t_laid q_t_errors q_t_step q_t_named q_t_pile q_t_sums1 q_t_parts1 q_t_trace q_t_bits q_t_sizes q_t_number q_t_aside c_images c_at c_open c_steps c_use c_traced c_speaks c_isParted c_s_6 x2 x3 x4 _ h) ⟨rfl, rfl, ⟨Nat.le_of_ble_eq_true rfl, Nat.le_of_ble_eq_true rfl⟩, Nat.zero_le _, Nat.zero_le _⟩ 17 rfl [0, 1] rfl (by decide) 0 7 rfl rfl rfl (Nat.le_of_ble_eq_true rfl) rfl dX7_go_14 (fun w hq => ?_)
  obtain ⟨c_s_14, h, rfl⟩ := hq
  refine st_wp (ws' := [(q_t, .inr (7, [.ref q_t_s, .ref q_t_k, .ref q_t_laid, .int c_images, .ref q_t_errors, .int c_at, .int c_open, .int c_steps, .int c_use, .ref q_t_step, .ref q_t_named, .ref q_t_pile, .ref q_t_sums1, .ref q_t_parts1, .int c_traced, .ref q_t_trace, .int c_speaks, .int c_isParted, .ref q_t_bits, .ref q_t_sizes, .ref q_t_number, .ref q_t_aside])), (q_t_s, .inl (g.X.cI, 476, .inl c_s_14))]) 2 [] (by decide) rfl rfl (by rfl) [] (by rfl) rfl ?_
  exact R _ _ _ dX7_go_17 (Nat.le_of_ble_eq_true rfl) ⟨_, h, rfl⟩
set_option maxRecDepth 100000 in
set_option maxHeartbeats 4000000 in
theorem c_X7_go (l : Launch) (D : va_G) (X : XT) (q_t q_t_s q_t_k q_t_laid q_t_errors q_t_step q_t_named q_t_pile q_t_sums1 q_t_parts1 q_t_trace q_t_bits q_t_sizes q_t_number q_t_aside : Nat) (c_images : Int32) (c_at : Int32) (c_open : Int32) (c_steps : Int32) (c_use : Int32) (c_traced : Int32) (c_speaks : Int32) (c_isParted : Int32) (c_s : Nat → Int32) (x1 : Int32) (x2 : Int32) (x3 : Int32) (x4 : Int32) (Q : (Nat → Int32) → Prop) (h : wp_X7_go x1 x2 x3 x4 c_s Q) : CTv l D X yX7_go cX7_go 5 rm_X7_go 0 0 [.ref q_t, .int x1, .int x2, .int x3, .int x4] [(q_t, .inr (7, [.ref q_t_s, .ref q_t_k, .ref q_t_laid, .int c_images, .ref q_t_errors, .int c_at, .int c_open, .int c_steps, .int c_use, .ref q_t_step, .ref q_t_named, .ref q_t_pile, .ref q_t_sums1, .ref q_t_parts1, .int c_traced, .ref q_t_trace, .int c_speaks, .int c_isParted, .ref q_t_bits, .ref q_t_sizes, .ref q_t_number, .ref q_t_aside])), (q_t_s, .inl (X.cI, 476, .inl c_s))] (fun w => ∃ (c_s' : Nat → Int32), Q c_s' ∧ w = [(q_t, .inr (7, [.ref q_t_s, .ref q_t_k, .ref q_t_laid, .int c_images, .ref q_t_errors, .int c_at, .int c_open, .int c_steps, .int c_use, .ref q_t_step, .ref q_t_named, .ref q_t_pile, .ref q_t_sums1, .ref q_t_parts1, .int c_traced, .ref q_t_trace, .int c_speaks, .int c_isParted, .ref q_t_bits, .ref q_t_sizes, .ref q_t_number, .ref q_t_aside])), (q_t_s, .inl (X.cI, 476, .inl c_s'))]) :=
  ct_v (by decide) (Nat.le_of_ble_eq_true rfl) (fun g hl hD hX G _ R => by subst hl; subst hD; subst hX; exact b_X7_go_e G R h)
set_option maxRecDepth 100000 in
set_option maxHeartbeats 4000000 in
theorem b_X7_lend_e {g : GT} (G : GOOD g RX7 cX7_lend 5 rm_X7_lend) {q_t q_t_s q_t_k q_t_laid q_t_errors q_t_step q_t_named q_t_pile q_t_sums1 q_t_parts1 q_t_trace q_t_bits q_t_sizes q_t_number q_t_aside : Nat} {c_images : Int32} {c_at : Int32} {c_open : Int32} {c_steps : Int32} {c_use : Int32} {c_traced : Int32} {c_speaks : Int32} {c_isParted : Int32} {c_s : Nat → Int32} {c_errors : Nat → Int32} {x1 : Int32} {x2 : Int32} {x3 : Int32} {x4 : Int32} {Q : Int32 → (Nat → Int32) → (Nat → Int32) → Prop} (R : RETi g cX7_lend 3 (fun (r : Int32) w => ∃ (c_s' : Nat → Int32) (c_errors' : Nat → Int32), Q r c_s' c_errors' ∧ w = [(q_t, .inr (7, [.ref q_t_s, .ref q_t_k, .ref q_t_laid, .int c_images, .ref q_t_errors, .int c_at, .int c_open, .int c_steps, .int c_use, .ref q_t_step, .ref q_t_named, .ref q_t_pile, .ref q_t_sums1, .ref q_t_parts1, .int c_traced, .ref q_t_trace, .int c_speaks, .int c_isParted, .ref q_t_bits, .ref q_t_sizes, .ref q_t_number, .ref q_t_aside])), (q_t_s, .inl (g.X.cI, 476, .inl c_s')), (q_t_errors, .inl (g.X.cI, 7, .inl c_errors'))])) (h : wp_X7_lend x1 x2 x3 x4 c_s c_errors Q) : ST g 0 0 0 [(0, .ref q_t), (1, .int x1), (2, .int x2), (3, .int x3), (4, .int x4)] [] [(q_t, .inr (7, [.ref q_t_s, .ref q_t_k, .ref q_t_laid, .int c_images, .ref q_t_errors, .int c_at, .int c_open, .int c_steps, .int c_use, .ref q_t_step, .ref q_t_named, .ref q_t_pile, .ref q_t_sums1, .ref q_t_parts1, .int c_traced, .ref q_t_trace, .int c_speaks, .int c_isParted, .ref q_t_bits, .ref q_t_sizes, .ref q_t_number, .ref q_t_aside])), (q_t_s, .inl (g.X.cI, 476, .inl c_s)), (q_t_errors, .inl (g.X.cI, 7, .inl c_errors))] := by
  unfold wp_X7_lend at h
  refine st_aload_n G 1 rfl 0 rfl dX7_lend_0 rfl ?_
  refine st_iload_n G 2 rfl 1 rfl dX7_lend_1 rfl ?_
  refine st_iload_n G 3 rfl 2 rfl dX7_lend_2 rfl ?_
  refine st_iload_n G 4 rfl 3 rfl dX7_lend_3 rfl ?_
  refine st_iload G 6 rfl 4 rfl dX7_lend_4 ?_
  refine st_cVio G lk_X7_181 (c_X7_areGiven g.l g.D g.X q_t q_t_s q_t_k q_t_laid q_t_errors q_t_step q_t_named q_t_pile q_t_sums1 q_t_parts1 q_t_trace q_t_bits q_t_sizes q_t_number q_t_aside c_images c_at c_open c_steps c_use c_traced c_speaks c_isParted c_s x1 x2 x3 x4 _ h) ⟨rfl, rfl, ⟨Nat.le_of_ble_eq_true rfl, Nat.le_of_ble_eq_true rfl⟩, Nat.zero_le _, Nat.zero_le _⟩ 9 rfl [0, 1] rfl (by decide) 0 7 rfl rfl rfl (Nat.le_of_ble_eq_true rfl) rfl dX7_lend_6 (fun r_6 h => ?_)
  refine st_if_ne G 18 12 rfl dX7_lend_9 rfl (fun c => ?_) (fun c => ?_)
  · have h := h.1 c
    refine st_aload_n G 19 rfl 0 rfl dX7_lend_18 rfl ?_
    refine st_iload_n G 20 rfl 1 rfl dX7_lend_19 rfl ?_
    refine st_iload_n G 21 rfl 2 rfl dX7_lend_20 rfl ?_
    refine st_iload_n G 22 rfl 3 rfl dX7_lend_21 rfl ?_
    refine st_iload G 24 rfl 4 rfl dX7_lend_22 ?_
    refine st_cVio G lk_X7_185 (c_X7_canGo g.l g.D g.X q_t q_t_s q_t_k q_t_laid q_t_errors q_t_step q_t_named q_t_pile q_t_sums1 q_t_parts1 q_t_trace q_t_bits q_t_sizes q_t_number q_t_aside c_images c_at c_open c_steps c_use c_traced c_speaks c_isParted c_s x1 x2 x3 x4 _ h) ⟨rfl, rfl, ⟨Nat.le_of_ble_eq_true rfl, Nat.le_of_ble_eq_true rfl⟩, Nat.zero_le _, Nat.zero_le _⟩ 27 rfl [0, 1] rfl (by decide) 0 7 rfl rfl rfl (Nat.le_of_ble_eq_true rfl) rfl dX7_lend_24 (fun r_24 h => ?_)
    refine st_if_eq G 45 30 rfl dX7_lend_27 rfl (fun c => ?_) (fun c => ?_)
    · have h := h.1 c
      refine st_aload_n G 46 rfl 0 rfl dX7_lend_45 rfl ?_
      refine st_iconst G 47 rfl (3 : Int32) (by decide) dX7_lend_46 ?_
      refine st_cVi G lk_X7_65 (c_X7_error g.l g.D g.X q_t q_t_s q_t_k q_t_laid q_t_errors q_t_step q_t_named q_t_pile q_t_sums1 q_t_parts1 q_t_trace q_t_bits q_t_sizes q_t_number q_t_aside c_images c_at c_open c_steps c_use c_traced c_speaks c_isParted c_errors (3 : Int32) _ h) ⟨rfl, rfl, ⟨Nat.le_of_ble_eq_true rfl, Nat.le_of_ble_eq_true rfl⟩, Nat.zero_le _, Nat.zero_le _⟩ 50 rfl [0, 2] rfl (by decide) 0 7 rfl rfl rfl (Nat.le_of_ble_eq_true rfl) rfl dX7_lend_47 (fun r_47 w hq => ?_)
      obtain ⟨c_errors_47, h, rfl⟩ := hq
      refine st_wp (ws' := [(q_t, .inr (7, [.ref q_t_s, .ref q_t_k, .ref q_t_laid, .int c_images, .ref q_t_errors, .int c_at, .int c_open, .int c_steps, .int c_use, .ref q_t_step, .ref q_t_named, .ref q_t_pile, .ref q_t_sums1, .ref q_t_parts1, .int c_traced, .ref q_t_trace, .int c_speaks, .int c_isParted, .ref q_t_bits, .ref q_t_sizes, .ref q_t_number, .ref q_t_aside])), (q_t_s, .inl (g.X.cI, 476, .inl c_s)), (q_t_errors, .inl (g.X.cI, 7, .inl c_errors_47))]) 3 [1] (by decide) rfl rfl (by rfl) [(q_t_s, .inl (g.X.cI, 476, .inl c_s))] (by rfl) rfl ?_
      exact R _ _ _ _ dX7_lend_50 (Nat.le_of_ble_eq_true rfl) ⟨_, _, h, rfl⟩
    have h := h.2 c
    refine st_aload_n G 31 rfl 0 rfl dX7_lend_30 rfl ?_
    refine st_iload_n G 32 rfl 2 rfl dX7_lend_31 rfl ?_
    refine st_iload_n G 33 rfl 1 rfl dX7_lend_32 rfl ?_
    refine st_cVio G lk_X7_188 (c_X7_owed g.l g.D g.X q_t q_t_s q_t_k q_t_laid q_t_errors q_t_step q_t_named q_t_pile q_t_sums1 q_t_parts1 q_t_trace q_t_bits q_t_sizes q_t_number q_t_aside c_images c_at c_open c_steps c_use c_traced c_speaks c_isParted c_s x2 x1 _ h) ⟨rfl, rfl, ⟨Nat.le_of_ble_eq_true rfl, Nat.le_of_ble_eq_true rfl⟩, Nat.zero_le _, Nat.zero_le _⟩ 36 rfl [0, 1] rfl (by decide) 0 7 rfl rfl rfl (Nat.le_of_ble_eq_true rfl) rfl dX7_lend_33 (fun r_33 h => ?_)
    refine st_iload G 38 rfl 4 rfl dX7_lend_36 ?_
    refine st_iadd G 39 rfl dX7_lend_38 ?_
    refine st_sipush G 42 rfl (999 : Int32) (by decide) dX7_lend_39 ?_
    refine st_icmp_le G 51 45 rfl dX7_lend_42 rfl (fun c => ?_) (fun c => ?_)
    · have h := h.1 c
      refine st_aload_n G 52 rfl 0 rfl dX7_lend_51 rfl ?_
      refine st_iload_n G 53 rfl 1 rfl dX7_lend_52 rfl ?_
      refine st_iload_n G 54 rfl 2 rfl dX7_lend_53 rfl ?_
      refine st_iload_n G 55 rfl 3 rfl dX7_lend_54 rfl ?_
      refine st_iload G 57 rfl 4 rfl dX7_lend_55 ?_
      refine st_cVv G lk_X7_191 (c_X7_go g.l g.D g.X q_t q_t_s q_t_k q_t_laid q_t_errors q_t_step q_t_named q_t_pile q_t_sums1 q_t_parts1 q_t_trace q_t_bits q_t_sizes q_t_number q_t_aside c_images c_at c_open c_steps c_use c_traced c_speaks c_isParted c_s x1 x2 x3 x4 _ h) ⟨rfl, rfl, ⟨Nat.le_of_ble_eq_true rfl, Nat.le_of_ble_eq_true rfl⟩, Nat.zero_le _, Nat.zero_le _⟩ 60 rfl [0, 1] rfl (by decide) 0 7 rfl rfl rfl (Nat.le_of_ble_eq_true rfl) rfl dX7_lend_57 (fun w hq => ?_)
      obtain ⟨c_s_57, h, rfl⟩ := hq
      refine st_wp (ws' := [(q_t, .inr (7, [.ref q_t_s, .ref q_t_k, .ref q_t_laid, .int c_images, .ref q_t_errors, .int c_at, .int c_open, .int c_steps, .int c_use, .ref q_t_step, .ref q_t_named, .ref q_t_pile, .ref q_t_sums1, .ref q_t_parts1, .int c_traced, .ref q_t_trace, .int c_speaks, .int c_isParted, .ref q_t_bits, .ref q_t_sizes, .ref q_t_number, .ref q_t_aside])), (q_t_s, .inl (g.X.cI, 476, .inl c_s_57)), (q_t_errors, .inl (g.X.cI, 7, .inl c_errors))]) 3 [2] (by decide) rfl rfl (by rfl) [(q_t_errors, .inl (g.X.cI, 7, .inl c_errors))] (by rfl) rfl ?_
      refine st_aload_n G 61 rfl 0 rfl dX7_lend_60 rfl ?_
      refine st_get G inX7 rfl 0 (by decide) wd_82 64 rfl 0 rfl rfl dX7_lend_61 ?_
      refine st_bipush G 66 rfl (78 : Int32) (by decide) dX7_lend_64 ?_
      refine st_bipush G 68 rfl (8 : Int32) (by decide) dX7_lend_66 ?_
      refine st_iload_n G 69 rfl 2 rfl dX7_lend_68 rfl ?_
      refine st_imul G 70 rfl dX7_lend_69 ?_
      refine st_iadd G 71 rfl dX7_lend_70 ?_
      refine st_iload_n G 72 rfl 1 rfl dX7_lend_71 rfl ?_
      refine st_iadd G 73 rfl dX7_lend_72 ?_
      refine st_dup2 G 74 rfl dX7_lend_73 rfl rfl ?_
      obtain ⟨hin, h⟩ := h
      refine st_iald G 75 rfl 1 rfl hin dX7_lend_74 ?_
      refine st_iload G 77 rfl 4 rfl dX7_lend_75 ?_
      refine st_iadd G 78 rfl dX7_lend_77 ?_
      obtain ⟨hin, h⟩ := h
      obtain ⟨c_s_78, ec_s_78⟩ : ∃ y : Nat → Int32, y = upd c_s_57 (((78 : Int32) + ((8 : Int32) * x2)) + x1).toNatClampNeg ((c_s_57 (((78 : Int32) + ((8 : Int32) * x2)) + x1).toNatClampNeg) + x4) := ⟨_, rfl⟩
      have h := h c_s_78 ec_s_78
      refine st_iast G [(q_t, .inr (7, [.ref q_t_s, .ref q_t_k, .ref q_t_laid, .int c_images, .ref q_t_errors, .int c_at, .int c_open, .int c_steps, .int c_use, .ref q_t_step, .ref q_t_named, .ref q_t_pile, .ref q_t_sums1, .ref q_t_parts1, .int c_traced, .ref q_t_trace, .int c_speaks, .int c_isParted, .ref q_t_bits, .ref q_t_sizes, .ref q_t_number, .ref q_t_aside])), (q_t_s, .inl (g.X.cI, 476, .inl c_s_78)), (q_t_errors, .inl (g.X.cI, 7, .inl c_errors))] 79 rfl 1 rfl hin (by subst ec_s_78; rfl) dX7_lend_78 ?_
      refine st_aload_n G 80 rfl 0 rfl dX7_lend_79 rfl ?_
      refine st_iload_n G 81 rfl 2 rfl dX7_lend_80 rfl ?_
      refine st_iload_n G 82 rfl 1 rfl dX7_lend_81 rfl ?_
      refine st_cVio G lk_X7_188 (c_X7_owed g.l g.D g.X q_t q_t_s q_t_k q_t_laid q_t_errors q_t_step q_t_named q_t_pile q_t_sums1 q_t_parts1 q_t_trace q_t_bits q_t_sizes q_t_number q_t_aside c_images c_at c_open c_steps c_use c_traced c_speaks c_isParted c_s_78 x2 x1 _ h) ⟨rfl, rfl, ⟨Nat.le_of_ble_eq_true rfl, Nat.le_of_ble_eq_true rfl⟩, Nat.zero_le _, Nat.zero_le _⟩ 85 rfl [0, 1] rfl (by decide) 0 7 rfl rfl rfl (Nat.le_of_ble_eq_true rfl) rfl dX7_lend_82 (fun r_82 h => ?_)
      exact R _ _ _ _ dX7_lend_85 (Nat.le_of_ble_eq_true rfl) ⟨_, _, h, rfl⟩
    have h := h.2 c
    refine st_aload_n G 46 rfl 0 rfl dX7_lend_45 rfl ?_
    refine st_iconst G 47 rfl (3 : Int32) (by decide) dX7_lend_46 ?_
    refine st_cVi G lk_X7_65 (c_X7_error g.l g.D g.X q_t q_t_s q_t_k q_t_laid q_t_errors q_t_step q_t_named q_t_pile q_t_sums1 q_t_parts1 q_t_trace q_t_bits q_t_sizes q_t_number q_t_aside c_images c_at c_open c_steps c_use c_traced c_speaks c_isParted c_errors (3 : Int32) _ h) ⟨rfl, rfl, ⟨Nat.le_of_ble_eq_true rfl, Nat.le_of_ble_eq_true rfl⟩, Nat.zero_le _, Nat.zero_le _⟩ 50 rfl [0, 2] rfl (by decide) 0 7 rfl rfl rfl (Nat.le_of_ble_eq_true rfl) rfl dX7_lend_47 (fun r_47 w hq => ?_)
    obtain ⟨c_errors_47, h, rfl⟩ := hq
    refine st_wp (ws' := [(q_t, .inr (7, [.ref q_t_s, .ref q_t_k, .ref q_t_laid, .int c_images, .ref q_t_errors, .int c_at, .int c_open, .int c_steps, .int c_use, .ref q_t_step, .ref q_t_named, .ref q_t_pile, .ref q_t_sums1, .ref q_t_parts1, .int c_traced, .ref q_t_trace, .int c_speaks, .int c_isParted, .ref q_t_bits, .ref q_t_sizes, .ref q_t_number, .ref q_t_aside])), (q_t_s, .inl (g.X.cI, 476, .inl c_s)), (q_t_errors, .inl (g.X.cI, 7, .inl c_errors_47))]) 3 [1] (by decide) rfl rfl (by rfl) [(q_t_s, .inl (g.X.cI, 476, .inl c_s))] (by rfl) rfl ?_
    exact R _ _ _ _ dX7_lend_50 (Nat.le_of_ble_eq_true rfl) ⟨_, _, h, rfl⟩
  have h := h.2 c
  refine st_aload_n G 13 rfl 0 rfl dX7_lend_12 rfl ?_
  refine st_iconst G 14 rfl (1 : Int32) (by decide) dX7_lend_13 ?_
  refine st_cVi G lk_X7_65 (c_X7_error g.l g.D g.X q_t q_t_s q_t_k q_t_laid q_t_errors q_t_step q_t_named q_t_pile q_t_sums1 q_t_parts1 q_t_trace q_t_bits q_t_sizes q_t_number q_t_aside c_images c_at c_open c_steps c_use c_traced c_speaks c_isParted c_errors (1 : Int32) _ h) ⟨rfl, rfl, ⟨Nat.le_of_ble_eq_true rfl, Nat.le_of_ble_eq_true rfl⟩, Nat.zero_le _, Nat.zero_le _⟩ 17 rfl [0, 2] rfl (by decide) 0 7 rfl rfl rfl (Nat.le_of_ble_eq_true rfl) rfl dX7_lend_14 (fun r_14 w hq => ?_)
  obtain ⟨c_errors_14, h, rfl⟩ := hq
  refine st_wp (ws' := [(q_t, .inr (7, [.ref q_t_s, .ref q_t_k, .ref q_t_laid, .int c_images, .ref q_t_errors, .int c_at, .int c_open, .int c_steps, .int c_use, .ref q_t_step, .ref q_t_named, .ref q_t_pile, .ref q_t_sums1, .ref q_t_parts1, .int c_traced, .ref q_t_trace, .int c_speaks, .int c_isParted, .ref q_t_bits, .ref q_t_sizes, .ref q_t_number, .ref q_t_aside])), (q_t_s, .inl (g.X.cI, 476, .inl c_s)), (q_t_errors, .inl (g.X.cI, 7, .inl c_errors_14))]) 3 [1] (by decide) rfl rfl (by rfl) [(q_t_s, .inl (g.X.cI, 476, .inl c_s))] (by rfl) rfl ?_
  exact R _ _ _ _ dX7_lend_17 (Nat.le_of_ble_eq_true rfl) ⟨_, _, h, rfl⟩
set_option maxRecDepth 100000 in
set_option maxHeartbeats 4000000 in
theorem c_X7_lend (l : Launch) (D : va_G) (X : XT) (q_t q_t_s q_t_k q_t_laid q_t_errors q_t_step q_t_named q_t_pile q_t_sums1 q_t_parts1 q_t_trace q_t_bits q_t_sizes q_t_number q_t_aside : Nat) (c_images : Int32) (c_at : Int32) (c_open : Int32) (c_steps : Int32) (c_use : Int32) (c_traced : Int32) (c_speaks : Int32) (c_isParted : Int32) (c_s : Nat → Int32) (c_errors : Nat → Int32) (x1 : Int32) (x2 : Int32) (x3 : Int32) (x4 : Int32) (Q : Int32 → (Nat → Int32) → (Nat → Int32) → Prop) (h : wp_X7_lend x1 x2 x3 x4 c_s c_errors Q) : CTi l D X yX7_lend cX7_lend 5 .int rm_X7_lend [.ref q_t, .int x1, .int x2, .int x3, .int x4] [(q_t, .inr (7, [.ref q_t_s, .ref q_t_k, .ref q_t_laid, .int c_images, .ref q_t_errors, .int c_at, .int c_open, .int c_steps, .int c_use, .ref q_t_step, .ref q_t_named, .ref q_t_pile, .ref q_t_sums1, .ref q_t_parts1, .int c_traced, .ref q_t_trace, .int c_speaks, .int c_isParted, .ref q_t_bits, .ref q_t_sizes, .ref q_t_number, .ref q_t_aside])), (q_t_s, .inl (X.cI, 476, .inl c_s)), (q_t_errors, .inl (X.cI, 7, .inl c_errors))] (fun (r : Int32) w => ∃ (c_s' : Nat → Int32) (c_errors' : Nat → Int32), Q r c_s' c_errors' ∧ w = [(q_t, .inr (7, [.ref q_t_s, .ref q_t_k, .ref q_t_laid, .int c_images, .ref q_t_errors, .int c_at, .int c_open, .int c_steps, .int c_use, .ref q_t_step, .ref q_t_named, .ref q_t_pile, .ref q_t_sums1, .ref q_t_parts1, .int c_traced, .ref q_t_trace, .int c_speaks, .int c_isParted, .ref q_t_bits, .ref q_t_sizes, .ref q_t_number, .ref q_t_aside])), (q_t_s, .inl (X.cI, 476, .inl c_s')), (q_t_errors, .inl (X.cI, 7, .inl c_errors'))]) :=
  ct_i (by decide) (Nat.le_of_ble_eq_true rfl) (fun g hl hD hX G R => by subst hl; subst hD; subst hX; exact b_X7_lend_e G R h)
set_option maxRecDepth 100000 in
set_option maxHeartbeats 4000000 in
theorem b_X7_repay_e {g : GT} (G : GOOD g RX7 cX7_repay 5 rm_X7_repay) {q_t q_t_s q_t_k q_t_laid q_t_errors q_t_step q_t_named q_t_pile q_t_sums1 q_t_parts1 q_t_trace q_t_bits q_t_sizes q_t_number q_t_aside : Nat} {c_images : Int32} {c_at : Int32} {c_open : Int32} {c_steps : Int32} {c_use : Int32} {c_traced : Int32} {c_speaks : Int32} {c_isParted : Int32} {c_s : Nat → Int32} {c_errors : Nat → Int32} {x1 : Int32} {x2 : Int32} {x3 : Int32} {x4 : Int32} {Q : Int32 → (Nat → Int32) → (Nat → Int32) → Prop} (R : RETi g cX7_repay 3 (fun (r : Int32) w => ∃ (c_s' : Nat → Int32) (c_errors' : Nat → Int32), Q r c_s' c_errors' ∧ w = [(q_t, .inr (7, [.ref q_t_s, .ref q_t_k, .ref q_t_laid, .int c_images, .ref q_t_errors, .int c_at, .int c_open, .int c_steps, .int c_use, .ref q_t_step, .ref q_t_named, .ref q_t_pile, .ref q_t_sums1, .ref q_t_parts1, .int c_traced, .ref q_t_trace, .int c_speaks, .int c_isParted, .ref q_t_bits, .ref q_t_sizes, .ref q_t_number, .ref q_t_aside])), (q_t_s, .inl (g.X.cI, 476, .inl c_s')), (q_t_errors, .inl (g.X.cI, 7, .inl c_errors'))])) (h : wp_X7_repay x1 x2 x3 x4 c_s c_errors Q) : ST g 0 0 0 [(0, .ref q_t), (1, .int x1), (2, .int x2), (3, .int x3), (4, .int x4)] [] [(q_t, .inr (7, [.ref q_t_s, .ref q_t_k, .ref q_t_laid, .int c_images, .ref q_t_errors, .int c_at, .int c_open, .int c_steps, .int c_use, .ref q_t_step, .ref q_t_named, .ref q_t_pile, .ref q_t_sums1, .ref q_t_parts1, .int c_traced, .ref q_t_trace, .int c_speaks, .int c_isParted, .ref q_t_bits, .ref q_t_sizes, .ref q_t_number, .ref q_t_aside])), (q_t_s, .inl (g.X.cI, 476, .inl c_s)), (q_t_errors, .inl (g.X.cI, 7, .inl c_errors))] := by
  unfold wp_X7_repay at h
  refine st_aload_n G 1 rfl 0 rfl dX7_repay_0 rfl ?_
  refine st_iload_n G 2 rfl 1 rfl dX7_repay_1 rfl ?_
  refine st_iload_n G 3 rfl 2 rfl dX7_repay_2 rfl ?_
  refine st_iload_n G 4 rfl 3 rfl dX7_repay_3 rfl ?_
  refine st_iload G 6 rfl 4 rfl dX7_repay_4 ?_
  refine st_cVio G lk_X7_181 (c_X7_areGiven g.l g.D g.X q_t q_t_s q_t_k q_t_laid q_t_errors q_t_step q_t_named q_t_pile q_t_sums1 q_t_parts1 q_t_trace q_t_bits q_t_sizes q_t_number q_t_aside c_images c_at c_open c_steps c_use c_traced c_speaks c_isParted c_s x1 x2 x3 x4 _ h) ⟨rfl, rfl, ⟨Nat.le_of_ble_eq_true rfl, Nat.le_of_ble_eq_true rfl⟩, Nat.zero_le _, Nat.zero_le _⟩ 9 rfl [0, 1] rfl (by decide) 0 7 rfl rfl rfl (Nat.le_of_ble_eq_true rfl) rfl dX7_repay_6 (fun r_6 h => ?_)
  refine st_if_ne G 18 12 rfl dX7_repay_9 rfl (fun c => ?_) (fun c => ?_)
  · have h := h.1 c
    refine st_aload_n G 19 rfl 0 rfl dX7_repay_18 rfl ?_
    refine st_iload_n G 20 rfl 1 rfl dX7_repay_19 rfl ?_
    refine st_iload_n G 21 rfl 2 rfl dX7_repay_20 rfl ?_
    refine st_cVio G lk_X7_188 (c_X7_owed g.l g.D g.X q_t q_t_s q_t_k q_t_laid q_t_errors q_t_step q_t_named q_t_pile q_t_sums1 q_t_parts1 q_t_trace q_t_bits q_t_sizes q_t_number q_t_aside c_images c_at c_open c_steps c_use c_traced c_speaks c_isParted c_s x1 x2 _ h) ⟨rfl, rfl, ⟨Nat.le_of_ble_eq_true rfl, Nat.le_of_ble_eq_true rfl⟩, Nat.zero_le _, Nat.zero_le _⟩ 24 rfl [0, 1] rfl (by decide) 0 7 rfl rfl rfl (Nat.le_of_ble_eq_true rfl) rfl dX7_repay_21 (fun r_21 h => ?_)
    refine st_iload G 26 rfl 4 rfl dX7_repay_24 ?_
    refine st_icmp_lt G 41 29 rfl dX7_repay_26 rfl (fun c => ?_) (fun c => ?_)
    · have h := h.1 c
      refine st_aload_n G 42 rfl 0 rfl dX7_repay_41 rfl ?_
      refine st_iconst G 43 rfl (3 : Int32) (by decide) dX7_repay_42 ?_
      refine st_cVi G lk_X7_65 (c_X7_error g.l g.D g.X q_t q_t_s q_t_k q_t_laid q_t_errors q_t_step q_t_named q_t_pile q_t_sums1 q_t_parts1 q_t_trace q_t_bits q_t_sizes q_t_number q_t_aside c_images c_at c_open c_steps c_use c_traced c_speaks c_isParted c_errors (3 : Int32) _ h) ⟨rfl, rfl, ⟨Nat.le_of_ble_eq_true rfl, Nat.le_of_ble_eq_true rfl⟩, Nat.zero_le _, Nat.zero_le _⟩ 46 rfl [0, 2] rfl (by decide) 0 7 rfl rfl rfl (Nat.le_of_ble_eq_true rfl) rfl dX7_repay_43 (fun r_43 w hq => ?_)
      obtain ⟨c_errors_43, h, rfl⟩ := hq
      refine st_wp (ws' := [(q_t, .inr (7, [.ref q_t_s, .ref q_t_k, .ref q_t_laid, .int c_images, .ref q_t_errors, .int c_at, .int c_open, .int c_steps, .int c_use, .ref q_t_step, .ref q_t_named, .ref q_t_pile, .ref q_t_sums1, .ref q_t_parts1, .int c_traced, .ref q_t_trace, .int c_speaks, .int c_isParted, .ref q_t_bits, .ref q_t_sizes, .ref q_t_number, .ref q_t_aside])), (q_t_s, .inl (g.X.cI, 476, .inl c_s)), (q_t_errors, .inl (g.X.cI, 7, .inl c_errors_43))]) 3 [1] (by decide) rfl rfl (by rfl) [(q_t_s, .inl (g.X.cI, 476, .inl c_s))] (by rfl) rfl ?_
      exact R _ _ _ _ dX7_repay_46 (Nat.le_of_ble_eq_true rfl) ⟨_, _, h, rfl⟩
    have h := h.2 c
    refine st_aload_n G 30 rfl 0 rfl dX7_repay_29 rfl ?_
    refine st_iload_n G 31 rfl 1 rfl dX7_repay_30 rfl ?_
    refine st_iload_n G 32 rfl 2 rfl dX7_repay_31 rfl ?_
    refine st_iload_n G 33 rfl 3 rfl dX7_repay_32 rfl ?_
    refine st_iload G 35 rfl 4 rfl dX7_repay_33 ?_
    refine st_cVio G lk_X7_185 (c_X7_canGo g.l g.D g.X q_t q_t_s q_t_k q_t_laid q_t_errors q_t_step q_t_named q_t_pile q_t_sums1 q_t_parts1 q_t_trace q_t_bits q_t_sizes q_t_number q_t_aside c_images c_at c_open c_steps c_use c_traced c_speaks c_isParted c_s x1 x2 x3 x4 _ h) ⟨rfl, rfl, ⟨Nat.le_of_ble_eq_true rfl, Nat.le_of_ble_eq_true rfl⟩, Nat.zero_le _, Nat.zero_le _⟩ 38 rfl [0, 1] rfl (by decide) 0 7 rfl rfl rfl (Nat.le_of_ble_eq_true rfl) rfl dX7_repay_35 (fun r_35 h => ?_)
    refine st_if_ne G 47 41 rfl dX7_repay_38 rfl (fun c => ?_) (fun c => ?_)
    · have h := h.1 c
      refine st_aload_n G 48 rfl 0 rfl dX7_repay_47 rfl ?_
      refine st_iload_n G 49 rfl 1 rfl dX7_repay_48 rfl ?_
      refine st_iload_n G 50 rfl 2 rfl dX7_repay_49 rfl ?_
      refine st_iload_n G 51 rfl 3 rfl dX7_repay_50 rfl ?_
      refine st_iload G 53 rfl 4 rfl dX7_repay_51 ?_
      refine st_cVv G lk_X7_191 (c_X7_go g.l g.D g.X q_t q_t_s q_t_k q_t_laid q_t_errors q_t_step q_t_named q_t_pile q_t_sums1 q_t_parts1 q_t_trace q_t_bits q_t_sizes q_t_number q_t_aside c_images c_at c_open c_steps c_use c_traced c_speaks c_isParted c_s x1 x2 x3 x4 _ h) ⟨rfl, rfl, ⟨Nat.le_of_ble_eq_true rfl, Nat.le_of_ble_eq_true rfl⟩, Nat.zero_le _, Nat.zero_le _⟩ 56 rfl [0, 1] rfl (by decide) 0 7 rfl rfl rfl (Nat.le_of_ble_eq_true rfl) rfl dX7_repay_53 (fun w hq => ?_)
      obtain ⟨c_s_53, h, rfl⟩ := hq
      refine st_wp (ws' := [(q_t, .inr (7, [.ref q_t_s, .ref q_t_k, .ref q_t_laid, .int c_images, .ref q_t_errors, .int c_at, .int c_open, .int c_steps, .int c_use, .ref q_t_step, .ref q_t_named, .ref q_t_pile, .ref q_t_sums1, .ref q_t_parts1, .int c_traced, .ref q_t_trace, .int c_speaks, .int c_isParted, .ref q_t_bits, .ref q_t_sizes, .ref q_t_number, .ref q_t_aside])), (q_t_s, .inl (g.X.cI, 476, .inl c_s_53)), (q_t_errors, .inl (g.X.cI, 7, .inl c_errors))]) 3 [2] (by decide) rfl rfl (by rfl) [(q_t_errors, .inl (g.X.cI, 7, .inl c_errors))] (by rfl) rfl ?_
      refine st_aload_n G 57 rfl 0 rfl dX7_repay_56 rfl ?_
      refine st_get G inX7 rfl 0 (by decide) wd_82 60 rfl 0 rfl rfl dX7_repay_57 ?_
      refine st_bipush G 62 rfl (78 : Int32) (by decide) dX7_repay_60 ?_
      refine st_bipush G 64 rfl (8 : Int32) (by decide) dX7_repay_62 ?_
      refine st_iload_n G 65 rfl 1 rfl dX7_repay_64 rfl ?_
      refine st_imul G 66 rfl dX7_repay_65 ?_
      refine st_iadd G 67 rfl dX7_repay_66 ?_
      refine st_iload_n G 68 rfl 2 rfl dX7_repay_67 rfl ?_
      refine st_iadd G 69 rfl dX7_repay_68 ?_
      refine st_dup2 G 70 rfl dX7_repay_69 rfl rfl ?_
      obtain ⟨hin, h⟩ := h
      refine st_iald G 71 rfl 1 rfl hin dX7_repay_70 ?_
      refine st_iload G 73 rfl 4 rfl dX7_repay_71 ?_
      refine st_isub G 74 rfl dX7_repay_73 ?_
      obtain ⟨hin, h⟩ := h
      obtain ⟨c_s_74, ec_s_74⟩ : ∃ y : Nat → Int32, y = upd c_s_53 (((78 : Int32) + ((8 : Int32) * x1)) + x2).toNatClampNeg ((c_s_53 (((78 : Int32) + ((8 : Int32) * x1)) + x2).toNatClampNeg) - x4) := ⟨_, rfl⟩
      have h := h c_s_74 ec_s_74
      refine st_iast G [(q_t, .inr (7, [.ref q_t_s, .ref q_t_k, .ref q_t_laid, .int c_images, .ref q_t_errors, .int c_at, .int c_open, .int c_steps, .int c_use, .ref q_t_step, .ref q_t_named, .ref q_t_pile, .ref q_t_sums1, .ref q_t_parts1, .int c_traced, .ref q_t_trace, .int c_speaks, .int c_isParted, .ref q_t_bits, .ref q_t_sizes, .ref q_t_number, .ref q_t_aside])), (q_t_s, .inl (g.X.cI, 476, .inl c_s_74)), (q_t_errors, .inl (g.X.cI, 7, .inl c_errors))] 75 rfl 1 rfl hin (by subst ec_s_74; rfl) dX7_repay_74 ?_
      refine st_aload_n G 76 rfl 0 rfl dX7_repay_75 rfl ?_
      refine st_iload_n G 77 rfl 1 rfl dX7_repay_76 rfl ?_
      refine st_iload_n G 78 rfl 2 rfl dX7_repay_77 rfl ?_
      refine st_cVio G lk_X7_188 (c_X7_owed g.l g.D g.X q_t q_t_s q_t_k q_t_laid q_t_errors q_t_step q_t_named q_t_pile q_t_sums1 q_t_parts1 q_t_trace q_t_bits q_t_sizes q_t_number q_t_aside c_images c_at c_open c_steps c_use c_traced c_speaks c_isParted c_s_74 x1 x2 _ h) ⟨rfl, rfl, ⟨Nat.le_of_ble_eq_true rfl, Nat.le_of_ble_eq_true rfl⟩, Nat.zero_le _, Nat.zero_le _⟩ 81 rfl [0, 1] rfl (by decide) 0 7 rfl rfl rfl (Nat.le_of_ble_eq_true rfl) rfl dX7_repay_78 (fun r_78 h => ?_)
      exact R _ _ _ _ dX7_repay_81 (Nat.le_of_ble_eq_true rfl) ⟨_, _, h, rfl⟩
    have h := h.2 c
    refine st_aload_n G 42 rfl 0 rfl dX7_repay_41 rfl ?_
    refine st_iconst G 43 rfl (3 : Int32) (by decide) dX7_repay_42 ?_
    refine st_cVi G lk_X7_65 (c_X7_error g.l g.D g.X q_t q_t_s q_t_k q_t_laid q_t_errors q_t_step q_t_named q_t_pile q_t_sums1 q_t_parts1 q_t_trace q_t_bits q_t_sizes q_t_number q_t_aside c_images c_at c_open c_steps c_use c_traced c_speaks c_isParted c_errors (3 : Int32) _ h) ⟨rfl, rfl, ⟨Nat.le_of_ble_eq_true rfl, Nat.le_of_ble_eq_true rfl⟩, Nat.zero_le _, Nat.zero_le _⟩ 46 rfl [0, 2] rfl (by decide) 0 7 rfl rfl rfl (Nat.le_of_ble_eq_true rfl) rfl dX7_repay_43 (fun r_43 w hq => ?_)
    obtain ⟨c_errors_43, h, rfl⟩ := hq
    refine st_wp (ws' := [(q_t, .inr (7, [.ref q_t_s, .ref q_t_k, .ref q_t_laid, .int c_images, .ref q_t_errors, .int c_at, .int c_open, .int c_steps, .int c_use, .ref q_t_step, .ref q_t_named, .ref q_t_pile, .ref q_t_sums1, .ref q_t_parts1, .int c_traced, .ref q_t_trace, .int c_speaks, .int c_isParted, .ref q_t_bits, .ref q_t_sizes, .ref q_t_number, .ref q_t_aside])), (q_t_s, .inl (g.X.cI, 476, .inl c_s)), (q_t_errors, .inl (g.X.cI, 7, .inl c_errors_43))]) 3 [1] (by decide) rfl rfl (by rfl) [(q_t_s, .inl (g.X.cI, 476, .inl c_s))] (by rfl) rfl ?_
    exact R _ _ _ _ dX7_repay_46 (Nat.le_of_ble_eq_true rfl) ⟨_, _, h, rfl⟩
  have h := h.2 c
  refine st_aload_n G 13 rfl 0 rfl dX7_repay_12 rfl ?_
  refine st_iconst G 14 rfl (1 : Int32) (by decide) dX7_repay_13 ?_
  refine st_cVi G lk_X7_65 (c_X7_error g.l g.D g.X q_t q_t_s q_t_k q_t_laid q_t_errors q_t_step q_t_named q_t_pile q_t_sums1 q_t_parts1 q_t_trace q_t_bits q_t_sizes q_t_number q_t_aside c_images c_at c_open c_steps c_use c_traced c_speaks c_isParted c_errors (1 : Int32) _ h) ⟨rfl, rfl, ⟨Nat.le_of_ble_eq_true rfl, Nat.le_of_ble_eq_true rfl⟩, Nat.zero_le _, Nat.zero_le _⟩ 17 rfl [0, 2] rfl (by decide) 0 7 rfl rfl rfl (Nat.le_of_ble_eq_true rfl) rfl dX7_repay_14 (fun r_14 w hq => ?_)
  obtain ⟨c_errors_14, h, rfl⟩ := hq
  refine st_wp (ws' := [(q_t, .inr (7, [.ref q_t_s, .ref q_t_k, .ref q_t_laid, .int c_images, .ref q_t_errors, .int c_at, .int c_open, .int c_steps, .int c_use, .ref q_t_step, .ref q_t_named, .ref q_t_pile, .ref q_t_sums1, .ref q_t_parts1, .int c_traced, .ref q_t_trace, .int c_speaks, .int c_isParted, .ref q_t_bits, .ref q_t_sizes, .ref q_t_number, .ref q_t_aside])), (q_t_s, .inl (g.X.cI, 476, .inl c_s)), (q_t_errors, .inl (g.X.cI, 7, .inl c_errors_14))]) 3 [1] (by decide) rfl rfl (by rfl) [(q_t_s, .inl (g.X.cI, 476, .inl c_s))] (by rfl) rfl ?_
  exact R _ _ _ _ dX7_repay_17 (Nat.le_of_ble_eq_true rfl) ⟨_, _, h, rfl⟩
set_option maxRecDepth 100000 in
set_option maxHeartbeats 4000000 in
theorem c_X7_repay (l : Launch) (D : va_G) (X : XT) (q_t q_t_s q_t_k q_t_laid q_t_errors q_t_step q_t_named q_t_pile q_t_sums1 q_t_parts1 q_t_trace q_t_bits q_t_sizes q_t_number q_t_aside : Nat) (c_images : Int32) (c_at : Int32) (c_open : Int32) (c_steps : Int32) (c_use : Int32) (c_traced : Int32) (c_speaks : Int32) (c_isParted : Int32) (c_s : Nat → Int32) (c_errors : Nat → Int32) (x1 : Int32) (x2 : Int32) (x3 : Int32) (x4 : Int32) (Q : Int32 → (Nat → Int32) → (Nat → Int32) → Prop) (h : wp_X7_repay x1 x2 x3 x4 c_s c_errors Q) : CTi l D X yX7_repay cX7_repay 5 .int rm_X7_repay [.ref q_t, .int x1, .int x2, .int x3, .int x4] [(q_t, .inr (7, [.ref q_t_s, .ref q_t_k, .ref q_t_laid, .int c_images, .ref q_t_errors, .int c_at, .int c_open, .int c_steps, .int c_use, .ref q_t_step, .ref q_t_named, .ref q_t_pile, .ref q_t_sums1, .ref q_t_parts1, .int c_traced, .ref q_t_trace, .int c_speaks, .int c_isParted, .ref q_t_bits, .ref q_t_sizes, .ref q_t_number, .ref q_t_aside])), (q_t_s, .inl (X.cI, 476, .inl c_s)), (q_t_errors, .inl (X.cI, 7, .inl c_errors))] (fun (r : Int32) w => ∃ (c_s' : Nat → Int32) (c_errors' : Nat → Int32), Q r c_s' c_errors' ∧ w = [(q_t, .inr (7, [.ref q_t_s, .ref q_t_k, .ref q_t_laid, .int c_images, .ref q_t_errors, .int c_at, .int c_open, .int c_steps, .int c_use, .ref q_t_step, .ref q_t_named, .ref q_t_pile, .ref q_t_sums1, .ref q_t_parts1, .int c_traced, .ref q_t_trace, .int c_speaks, .int c_isParted, .ref q_t_bits, .ref q_t_sizes, .ref q_t_number, .ref q_t_aside])), (q_t_s, .inl (X.cI, 476, .inl c_s')), (q_t_errors, .inl (X.cI, 7, .inl c_errors'))]) :=
  ct_i (by decide) (Nat.le_of_ble_eq_true rfl) (fun g hl hD hX G R => by subst hl; subst hD; subst hX; exact b_X7_repay_e G R h)
set_option maxRecDepth 100000 in
set_option maxHeartbeats 4000000 in
theorem b_X7_owes_e {g : GT} (G : GOOD g RX7 cX7_owes 3 rm_X7_owes) {q_t q_t_s q_t_k q_t_laid q_t_errors q_t_step q_t_named q_t_pile q_t_sums1 q_t_parts1 q_t_trace q_t_bits q_t_sizes q_t_number q_t_aside : Nat} {c_images : Int32} {c_at : Int32} {c_open : Int32} {c_steps : Int32} {c_use : Int32} {c_traced : Int32} {c_speaks : Int32} {c_isParted : Int32} {c_s : Nat → Int32} {c_errors : Nat → Int32} {x1 : Int32} {x2 : Int32} {Q : Int32 → (Nat → Int32) → Prop} (R : RETi g cX7_owes 3 (fun (r : Int32) w => ∃ (c_errors' : Nat → Int32), Q r c_errors' ∧ w = [(q_t, .inr (7, [.ref q_t_s, .ref q_t_k, .ref q_t_laid, .int c_images, .ref q_t_errors, .int c_at, .int c_open, .int c_steps, .int c_use, .ref q_t_step, .ref q_t_named, .ref q_t_pile, .ref q_t_sums1, .ref q_t_parts1, .int c_traced, .ref q_t_trace, .int c_speaks, .int c_isParted, .ref q_t_bits, .ref q_t_sizes, .ref q_t_number, .ref q_t_aside])), (q_t_s, .inl (g.X.cI, 476, .inl c_s)), (q_t_errors, .inl (g.X.cI, 7, .inl c_errors'))])) (h : wp_X7_owes x1 x2 c_s c_errors Q) : ST g 0 0 0 [(0, .ref q_t), (1, .int x1), (2, .int x2)] [] [(q_t, .inr (7, [.ref q_t_s, .ref q_t_k, .ref q_t_laid, .int c_images, .ref q_t_errors, .int c_at, .int c_open, .int c_steps, .int c_use, .ref q_t_step, .ref q_t_named, .ref q_t_pile, .ref q_t_sums1, .ref q_t_parts1, .int c_traced, .ref q_t_trace, .int c_speaks, .int c_isParted, .ref q_t_bits, .ref q_t_sizes, .ref q_t_number, .ref q_t_aside])), (q_t_s, .inl (g.X.cI, 476, .inl c_s)), (q_t_errors, .inl (g.X.cI, 7, .inl c_errors))] := by
  unfold wp_X7_owes at h
  refine st_aload_n G 1 rfl 0 rfl dX7_owes_0 rfl ?_
  refine st_iload_n G 2 rfl 1 rfl dX7_owes_1 rfl ?_
  refine st_iload_n G 3 rfl 2 rfl dX7_owes_2 rfl ?_
  refine st_cVio G lk_X7_159 (c_X7_areTwo g.l g.D g.X q_t q_t_s q_t_k q_t_laid q_t_errors q_t_step q_t_named q_t_pile q_t_sums1 q_t_parts1 q_t_trace q_t_bits q_t_sizes q_t_number q_t_aside c_images c_at c_open c_steps c_use c_traced c_speaks c_isParted c_s x1 x2 _ h) ⟨rfl, rfl, ⟨Nat.le_of_ble_eq_true rfl, Nat.le_of_ble_eq_true rfl⟩, Nat.zero_le _, Nat.zero_le _⟩ 6 rfl [0, 1] rfl (by decide) 0 7 rfl rfl rfl (Nat.le_of_ble_eq_true rfl) rfl dX7_owes_3 (fun r_3 h => ?_)
  refine st_if_eq G 18 9 rfl dX7_owes_6 rfl (fun c => ?_) (fun c => ?_)
  · have h := h.1 c
    refine st_aload_n G 19 rfl 0 rfl dX7_owes_18 rfl ?_
    refine st_iconst G 20 rfl (1 : Int32) (by decide) dX7_owes_19 ?_
    refine st_cVi G lk_X7_65 (c_X7_error g.l g.D g.X q_t q_t_s q_t_k q_t_laid q_t_errors q_t_step q_t_named q_t_pile q_t_sums1 q_t_parts1 q_t_trace q_t_bits q_t_sizes q_t_number q_t_aside c_images c_at c_open c_steps c_use c_traced c_speaks c_isParted c_errors (1 : Int32) _ h) ⟨rfl, rfl, ⟨Nat.le_of_ble_eq_true rfl, Nat.le_of_ble_eq_true rfl⟩, Nat.zero_le _, Nat.zero_le _⟩ 23 rfl [0, 2] rfl (by decide) 0 7 rfl rfl rfl (Nat.le_of_ble_eq_true rfl) rfl dX7_owes_20 (fun r_20 w hq => ?_)
    obtain ⟨c_errors_20, h, rfl⟩ := hq
    refine st_wp (ws' := [(q_t, .inr (7, [.ref q_t_s, .ref q_t_k, .ref q_t_laid, .int c_images, .ref q_t_errors, .int c_at, .int c_open, .int c_steps, .int c_use, .ref q_t_step, .ref q_t_named, .ref q_t_pile, .ref q_t_sums1, .ref q_t_parts1, .int c_traced, .ref q_t_trace, .int c_speaks, .int c_isParted, .ref q_t_bits, .ref q_t_sizes, .ref q_t_number, .ref q_t_aside])), (q_t_s, .inl (g.X.cI, 476, .inl c_s)), (q_t_errors, .inl (g.X.cI, 7, .inl c_errors_20))]) 3 [1] (by decide) rfl rfl (by rfl) [(q_t_s, .inl (g.X.cI, 476, .inl c_s))] (by rfl) rfl ?_
    exact R _ _ _ _ dX7_owes_23 (Nat.le_of_ble_eq_true rfl) ⟨_, h, rfl⟩
  have h := h.2 c
  refine st_aload_n G 10 rfl 0 rfl dX7_owes_9 rfl ?_
  refine st_iload_n G 11 rfl 1 rfl dX7_owes_10 rfl ?_
  refine st_iload_n G 12 rfl 2 rfl dX7_owes_11 rfl ?_
  refine st_cVio G lk_X7_188 (c_X7_owed g.l g.D g.X q_t q_t_s q_t_k q_t_laid q_t_errors q_t_step q_t_named q_t_pile q_t_sums1 q_t_parts1 q_t_trace q_t_bits q_t_sizes q_t_number q_t_aside c_images c_at c_open c_steps c_use c_traced c_speaks c_isParted c_s x1 x2 _ h) ⟨rfl, rfl, ⟨Nat.le_of_ble_eq_true rfl, Nat.le_of_ble_eq_true rfl⟩, Nat.zero_le _, Nat.zero_le _⟩ 15 rfl [0, 1] rfl (by decide) 0 7 rfl rfl rfl (Nat.le_of_ble_eq_true rfl) rfl dX7_owes_12 (fun r_12 h => ?_)
  refine st_goto G 23 dX7_owes_15 rfl ?_
  exact R _ _ _ _ dX7_owes_23 (Nat.le_of_ble_eq_true rfl) ⟨_, h, rfl⟩
set_option maxRecDepth 100000 in
set_option maxHeartbeats 4000000 in
theorem c_X7_owes (l : Launch) (D : va_G) (X : XT) (q_t q_t_s q_t_k q_t_laid q_t_errors q_t_step q_t_named q_t_pile q_t_sums1 q_t_parts1 q_t_trace q_t_bits q_t_sizes q_t_number q_t_aside : Nat) (c_images : Int32) (c_at : Int32) (c_open : Int32) (c_steps : Int32) (c_use : Int32) (c_traced : Int32) (c_speaks : Int32) (c_isParted : Int32) (c_s : Nat → Int32) (c_errors : Nat → Int32) (x1 : Int32) (x2 : Int32) (Q : Int32 → (Nat → Int32) → Prop) (h : wp_X7_owes x1 x2 c_s c_errors Q) : CTi l D X yX7_owes cX7_owes 3 .int rm_X7_owes [.ref q_t, .int x1, .int x2] [(q_t, .inr (7, [.ref q_t_s, .ref q_t_k, .ref q_t_laid, .int c_images, .ref q_t_errors, .int c_at, .int c_open, .int c_steps, .int c_use, .ref q_t_step, .ref q_t_named, .ref q_t_pile, .ref q_t_sums1, .ref q_t_parts1, .int c_traced, .ref q_t_trace, .int c_speaks, .int c_isParted, .ref q_t_bits, .ref q_t_sizes, .ref q_t_number, .ref q_t_aside])), (q_t_s, .inl (X.cI, 476, .inl c_s)), (q_t_errors, .inl (X.cI, 7, .inl c_errors))] (fun (r : Int32) w => ∃ (c_errors' : Nat → Int32), Q r c_errors' ∧ w = [(q_t, .inr (7, [.ref q_t_s, .ref q_t_k, .ref q_t_laid, .int c_images, .ref q_t_errors, .int c_at, .int c_open, .int c_steps, .int c_use, .ref q_t_step, .ref q_t_named, .ref q_t_pile, .ref q_t_sums1, .ref q_t_parts1, .int c_traced, .ref q_t_trace, .int c_speaks, .int c_isParted, .ref q_t_bits, .ref q_t_sizes, .ref q_t_number, .ref q_t_aside])), (q_t_s, .inl (X.cI, 476, .inl c_s)), (q_t_errors, .inl (X.cI, 7, .inl c_errors'))]) :=
  ct_i (by decide) (Nat.le_of_ble_eq_true rfl) (fun g hl hD hX G R => by subst hl; subst hD; subst hX; exact b_X7_owes_e G R h)
set_option maxRecDepth 100000 in
set_option maxHeartbeats 4000000 in
theorem b_X7_law_e {g : GT} (G : GOOD g RX7 cX7_law 5 rm_X7_law) {q_t q_t_s q_t_k q_t_laid q_t_errors q_t_step q_t_named q_t_pile q_t_sums1 q_t_parts1 q_t_trace q_t_bits q_t_sizes q_t_number q_t_aside : Nat} {c_images : Int32} {c_at : Int32} {c_open : Int32} {c_steps : Int32} {c_use : Int32} {c_traced : Int32} {c_speaks : Int32} {c_isParted : Int32} {c_s : Nat → Int32} {c_errors : Nat → Int32} {c_named : Nat → Int32} {c_pile : Nat → Int32} {x1 : Int32} {x2 : Int32} {x3 : Int32} {x4 : Int32} {Q : Int32 → (Nat → Int32) → (Nat → Int32) → (Nat → Int32) → Prop} (R : RETi g cX7_law 5 (fun (r : Int32) w => ∃ (c_errors' : Nat → Int32) (c_named' : Nat → Int32) (c_pile' : Nat → Int32), Q r c_errors' c_named' c_pile' ∧ w = [(q_t, .inr (7, [.ref q_t_s, .ref q_t_k, .ref q_t_laid, .int c_images, .ref q_t_errors, .int c_at, .int c_open, .int c_steps, .int c_use, .ref q_t_step, .ref q_t_named, .ref q_t_pile, .ref q_t_sums1, .ref q_t_parts1, .int c_traced, .ref q_t_trace, .int c_speaks, .int c_isParted, .ref q_t_bits, .ref q_t_sizes, .ref q_t_number, .ref q_t_aside])), (q_t_s, .inl (g.X.cI, 476, .inl c_s)), (q_t_errors, .inl (g.X.cI, 7, .inl c_errors')), (q_t_named, .inl (g.X.cI, 128, .inl c_named')), (q_t_pile, .inl (g.X.cI, 64, .inl c_pile'))])) (h : wp_X7_law x1 x2 x3 x4 c_s c_errors c_named c_pile Q) : ST g 0 0 0 [(0, .ref q_t), (1, .int x1), (2, .int x2), (3, .int x3), (4, .int x4)] [] [(q_t, .inr (7, [.ref q_t_s, .ref q_t_k, .ref q_t_laid, .int c_images, .ref q_t_errors, .int c_at, .int c_open, .int c_steps, .int c_use, .ref q_t_step, .ref q_t_named, .ref q_t_pile, .ref q_t_sums1, .ref q_t_parts1, .int c_traced, .ref q_t_trace, .int c_speaks, .int c_isParted, .ref q_t_bits, .ref q_t_sizes, .ref q_t_number, .ref q_t_aside])), (q_t_s, .inl (g.X.cI, 476, .inl c_s)), (q_t_errors, .inl (g.X.cI, 7, .inl c_errors)), (q_t_named, .inl (g.X.cI, 128, .inl c_named)), (q_t_pile, .inl (g.X.cI, 64, .inl c_pile))] := by
  unfold wp_X7_law at h
  refine st_iload_n G 1 rfl 1 rfl dX7_law_0 rfl ?_
  refine st_iconst G 2 rfl (0 : Int32) (by decide) dX7_law_1 ?_
  refine st_iconst G 3 rfl (1 : Int32) (by decide) dX7_law_2 ?_
  refine st_cSio G lk_X7_53 (c_X7_in g.l g.D g.X x1 (0 : Int32) (1 : Int32) _ h) ⟨rfl, rfl, ⟨Nat.le_of_ble_eq_true rfl, Nat.le_of_ble_eq_true rfl⟩, Nat.zero_le _, Nat.zero_le _⟩ 6 rfl [] rfl (by decide) rfl (Nat.le_of_ble_eq_true rfl) rfl dX7_law_3 (fun r_3 h => ?_)
  refine st_if_ne G 15 9 rfl dX7_law_6 rfl (fun c => ?_) (fun c => ?_)
  · have h := h.1 c
    refine st_iload_n G 16 rfl 1 rfl dX7_law_15 rfl ?_
    refine st_if_ne G 30 19 rfl dX7_law_16 rfl (fun c => ?_) (fun c => ?_)
    · have h := h.1 c
      refine st_aload_n G 31 rfl 0 rfl dX7_law_30 rfl ?_
      refine st_iload_n G 32 rfl 2 rfl dX7_law_31 rfl ?_
      refine st_iload_n G 33 rfl 3 rfl dX7_law_32 rfl ?_
      refine st_iload G 35 rfl 4 rfl dX7_law_33 ?_
      refine st_cVi G lk_X7_136 (c_X7_worthTold g.l g.D g.X q_t q_t_s q_t_k q_t_laid q_t_errors q_t_step q_t_named q_t_pile q_t_sums1 q_t_parts1 q_t_trace q_t_bits q_t_sizes q_t_number q_t_aside c_images c_at c_open c_steps c_use c_traced c_speaks c_isParted c_s c_named c_pile x2 x3 x4 _ h) ⟨rfl, rfl, ⟨Nat.le_of_ble_eq_true rfl, Nat.le_of_ble_eq_true rfl⟩, Nat.zero_le _, Nat.zero_le _⟩ 38 rfl [0, 1, 3, 4] rfl (by decide) 0 7 rfl rfl rfl (Nat.le_of_ble_eq_true rfl) rfl dX7_law_35 (fun r_35 w hq => ?_)
      obtain ⟨c_named_35, c_pile_35, h, rfl⟩ := hq
      refine st_wp (ws' := [(q_t, .inr (7, [.ref q_t_s, .ref q_t_k, .ref q_t_laid, .int c_images, .ref q_t_errors, .int c_at, .int c_open, .int c_steps, .int c_use, .ref q_t_step, .ref q_t_named, .ref q_t_pile, .ref q_t_sums1, .ref q_t_parts1, .int c_traced, .ref q_t_trace, .int c_speaks, .int c_isParted, .ref q_t_bits, .ref q_t_sizes, .ref q_t_number, .ref q_t_aside])), (q_t_s, .inl (g.X.cI, 476, .inl c_s)), (q_t_errors, .inl (g.X.cI, 7, .inl c_errors)), (q_t_named, .inl (g.X.cI, 128, .inl c_named_35)), (q_t_pile, .inl (g.X.cI, 64, .inl c_pile_35))]) 5 [2] (by decide) rfl rfl (by rfl) [(q_t_errors, .inl (g.X.cI, 7, .inl c_errors))] (by rfl) rfl ?_
      exact R _ _ _ _ dX7_law_38 (Nat.le_of_ble_eq_true rfl) ⟨_, _, _, h, rfl⟩
    have h := h.2 c
    refine st_aload_n G 20 rfl 0 rfl dX7_law_19 rfl ?_
    refine st_iload_n G 21 rfl 2 rfl dX7_law_20 rfl ?_
    refine st_iload_n G 22 rfl 3 rfl dX7_law_21 rfl ?_
    refine st_iload G 24 rfl 4 rfl dX7_law_22 ?_
    refine st_cVi G lk_X7_133 (c_X7_gainTold g.l g.D g.X q_t q_t_s q_t_k q_t_laid q_t_errors q_t_step q_t_named q_t_pile q_t_sums1 q_t_parts1 q_t_trace q_t_bits q_t_sizes q_t_number q_t_aside c_images c_at c_open c_steps c_use c_traced c_speaks c_isParted c_s c_named c_pile x2 x3 x4 _ h) ⟨rfl, rfl, ⟨Nat.le_of_ble_eq_true rfl, Nat.le_of_ble_eq_true rfl⟩, Nat.zero_le _, Nat.zero_le _⟩ 27 rfl [0, 1, 3, 4] rfl (by decide) 0 7 rfl rfl rfl (Nat.le_of_ble_eq_true rfl) rfl dX7_law_24 (fun r_24 w hq => ?_)
    obtain ⟨c_named_24, c_pile_24, h, rfl⟩ := hq
    refine st_wp (ws' := [(q_t, .inr (7, [.ref q_t_s, .ref q_t_k, .ref q_t_laid, .int c_images, .ref q_t_errors, .int c_at, .int c_open, .int c_steps, .int c_use, .ref q_t_step, .ref q_t_named, .ref q_t_pile, .ref q_t_sums1, .ref q_t_parts1, .int c_traced, .ref q_t_trace, .int c_speaks, .int c_isParted, .ref q_t_bits, .ref q_t_sizes, .ref q_t_number, .ref q_t_aside])), (q_t_s, .inl (g.X.cI, 476, .inl c_s)), (q_t_errors, .inl (g.X.cI, 7, .inl c_errors)), (q_t_named, .inl (g.X.cI, 128, .inl c_named_24)), (q_t_pile, .inl (g.X.cI, 64, .inl c_pile_24))]) 5 [2] (by decide) rfl rfl (by rfl) [(q_t_errors, .inl (g.X.cI, 7, .inl c_errors))] (by rfl) rfl ?_
    refine st_goto G 38 dX7_law_27 rfl ?_
    exact R _ _ _ _ dX7_law_38 (Nat.le_of_ble_eq_true rfl) ⟨_, _, _, h, rfl⟩
  have h := h.2 c
  refine st_aload_n G 10 rfl 0 rfl dX7_law_9 rfl ?_
  refine st_iconst G 11 rfl (1 : Int32) (by decide) dX7_law_10 ?_
  refine st_cVi G lk_X7_65 (c_X7_error g.l g.D g.X q_t q_t_s q_t_k q_t_laid q_t_errors q_t_step q_t_named q_t_pile q_t_sums1 q_t_parts1 q_t_trace q_t_bits q_t_sizes q_t_number q_t_aside c_images c_at c_open c_steps c_use c_traced c_speaks c_isParted c_errors (1 : Int32) _ h) ⟨rfl, rfl, ⟨Nat.le_of_ble_eq_true rfl, Nat.le_of_ble_eq_true rfl⟩, Nat.zero_le _, Nat.zero_le _⟩ 14 rfl [0, 2] rfl (by decide) 0 7 rfl rfl rfl (Nat.le_of_ble_eq_true rfl) rfl dX7_law_11 (fun r_11 w hq => ?_)
  obtain ⟨c_errors_11, h, rfl⟩ := hq
  refine st_wp (ws' := [(q_t, .inr (7, [.ref q_t_s, .ref q_t_k, .ref q_t_laid, .int c_images, .ref q_t_errors, .int c_at, .int c_open, .int c_steps, .int c_use, .ref q_t_step, .ref q_t_named, .ref q_t_pile, .ref q_t_sums1, .ref q_t_parts1, .int c_traced, .ref q_t_trace, .int c_speaks, .int c_isParted, .ref q_t_bits, .ref q_t_sizes, .ref q_t_number, .ref q_t_aside])), (q_t_s, .inl (g.X.cI, 476, .inl c_s)), (q_t_errors, .inl (g.X.cI, 7, .inl c_errors_11)), (q_t_named, .inl (g.X.cI, 128, .inl c_named)), (q_t_pile, .inl (g.X.cI, 64, .inl c_pile))]) 5 [1, 3, 4] (by decide) rfl rfl (by rfl) [(q_t_s, .inl (g.X.cI, 476, .inl c_s)), (q_t_named, .inl (g.X.cI, 128, .inl c_named)), (q_t_pile, .inl (g.X.cI, 64, .inl c_pile))] (by rfl) rfl ?_
  exact R _ _ _ _ dX7_law_14 (Nat.le_of_ble_eq_true rfl) ⟨_, _, _, h, rfl⟩
set_option maxRecDepth 100000 in
set_option maxHeartbeats 4000000 in
theorem c_X7_law (l : Launch) (D : va_G) (X : XT) (q_t q_t_s q_t_k q_t_laid q_t_errors q_t_step q_t_named q_t_pile q_t_sums1 q_t_parts1 q_t_trace q_t_bits q_t_sizes q_t_number q_t_aside : Nat) (c_images : Int32) (c_at : Int32) (c_open : Int32) (c_steps : Int32) (c_use : Int32) (c_traced : Int32) (c_speaks : Int32) (c_isParted : Int32) (c_s : Nat → Int32) (c_errors : Nat → Int32) (c_named : Nat → Int32) (c_pile : Nat → Int32) (x1 : Int32) (x2 : Int32) (x3 : Int32) (x4 : Int32) (Q : Int32 → (Nat → Int32) → (Nat → Int32) → (Nat → Int32) → Prop) (h : wp_X7_law x1 x2 x3 x4 c_s c_errors c_named c_pile Q) : CTi l D X yX7_law cX7_law 5 .int rm_X7_law [.ref q_t, .int x1, .int x2, .int x3, .int x4] [(q_t, .inr (7, [.ref q_t_s, .ref q_t_k, .ref q_t_laid, .int c_images, .ref q_t_errors, .int c_at, .int c_open, .int c_steps, .int c_use, .ref q_t_step, .ref q_t_named, .ref q_t_pile, .ref q_t_sums1, .ref q_t_parts1, .int c_traced, .ref q_t_trace, .int c_speaks, .int c_isParted, .ref q_t_bits, .ref q_t_sizes, .ref q_t_number, .ref q_t_aside])), (q_t_s, .inl (X.cI, 476, .inl c_s)), (q_t_errors, .inl (X.cI, 7, .inl c_errors)), (q_t_named, .inl (X.cI, 128, .inl c_named)), (q_t_pile, .inl (X.cI, 64, .inl c_pile))] (fun (r : Int32) w => ∃ (c_errors' : Nat → Int32) (c_named' : Nat → Int32) (c_pile' : Nat → Int32), Q r c_errors' c_named' c_pile' ∧ w = [(q_t, .inr (7, [.ref q_t_s, .ref q_t_k, .ref q_t_laid, .int c_images, .ref q_t_errors, .int c_at, .int c_open, .int c_steps, .int c_use, .ref q_t_step, .ref q_t_named, .ref q_t_pile, .ref q_t_sums1, .ref q_t_parts1, .int c_traced, .ref q_t_trace, .int c_speaks, .int c_isParted, .ref q_t_bits, .ref q_t_sizes, .ref q_t_number, .ref q_t_aside])), (q_t_s, .inl (X.cI, 476, .inl c_s)), (q_t_errors, .inl (X.cI, 7, .inl c_errors')), (q_t_named, .inl (X.cI, 128, .inl c_named')), (q_t_pile, .inl (X.cI, 64, .inl c_pile'))]) :=
  ct_i (by decide) (Nat.le_of_ble_eq_true rfl) (fun g hl hD hX G R => by subst hl; subst hD; subst hX; exact b_X7_law_e G R h)
set_option maxRecDepth 100000 in
set_option maxHeartbeats 4000000 in
theorem b_X7_whyNot_e {g : GT} (G : GOOD g RX7 cX7_whyNot 3 rm_X7_whyNot) {q_t q_t_s q_t_k q_t_laid q_t_errors q_t_step q_t_named q_t_pile q_t_sums1 q_t_parts1 q_t_trace q_t_bits q_t_sizes q_t_number q_t_aside : Nat} {c_images : Int32} {c_at : Int32} {c_open : Int32} {c_steps : Int32} {c_use : Int32} {c_traced : Int32} {c_speaks : Int32} {c_isParted : Int32} {c_s : Nat → Int32} {x1 : Int32} {x2 : Int32} {Q : Int32 → Prop} (R : RETi g cX7_whyNot 2 (fun (r : Int32) w => (Q r) ∧ w = [(q_t, .inr (7, [.ref q_t_s, .ref q_t_k, .ref q_t_laid, .int c_images, .ref q_t_errors, .int c_at, .int c_open, .int c_steps, .int c_use, .ref q_t_step, .ref q_t_named, .ref q_t_pile, .ref q_t_sums1, .ref q_t_parts1, .int c_traced, .ref q_t_trace, .int c_speaks, .int c_isParted, .ref q_t_bits, .ref q_t_sizes, .ref q_t_number, .ref q_t_aside])), (q_t_s, .inl (g.X.cI, 476, .inl c_s))])) (h : wp_X7_whyNot x1 x2 c_s Q) : ST g 0 0 0 [(0, .ref q_t), (1, .int x1), (2, .int x2)] [] [(q_t, .inr (7, [.ref q_t_s, .ref q_t_k, .ref q_t_laid, .int c_images, .ref q_t_errors, .int c_at, .int c_open, .int c_steps, .int c_use, .ref q_t_step, .ref q_t_named, .ref q_t_pile, .ref q_t_sums1, .ref q_t_parts1, .int c_traced, .ref q_t_trace, .int c_speaks, .int c_isParted, .ref q_t_bits, .ref q_t_sizes, .ref q_t_number, .ref q_t_aside])), (q_t_s, .inl (g.X.cI, 476, .inl c_s))] := by
  unfold wp_X7_whyNot at h
  refine st_iload_n G 1 rfl 1 rfl dX7_whyNot_0 rfl ?_
  refine st_iconst G 2 rfl (1 : Int32) (by decide) dX7_whyNot_1 ?_
  refine st_iload_n G 3 rfl 2 rfl dX7_whyNot_2 rfl ?_
  refine st_cSio G lk_X7_53 (c_X7_in g.l g.D g.X x1 (1 : Int32) x2 _ h) ⟨rfl, rfl, ⟨Nat.le_of_ble_eq_true rfl, Nat.le_of_ble_eq_true rfl⟩, Nat.zero_le _, Nat.zero_le _⟩ 6 rfl [] rfl (by decide) rfl (Nat.le_of_ble_eq_true rfl) rfl dX7_whyNot_3 (fun r_3 h => ?_)
  refine st_if_ne G 13 9 rfl dX7_whyNot_6 rfl (fun c => ?_) (fun c => ?_)
  · have h := h.1 c
    refine st_aload_n G 14 rfl 0 rfl dX7_whyNot_13 rfl ?_
    refine st_get G inX7 rfl 0 (by decide) wd_82 17 rfl 0 rfl rfl dX7_whyNot_14 ?_
    refine st_iconst G 18 rfl (0 : Int32) (by decide) dX7_whyNot_17 ?_
    obtain ⟨hin, h⟩ := h
    refine st_iald G 19 rfl 1 rfl hin dX7_whyNot_18 ?_
    refine st_iload_n G 20 rfl 1 rfl dX7_whyNot_19 rfl ?_
    refine st_iadd G 21 rfl dX7_whyNot_20 ?_
    refine st_sipush G 24 rfl (999 : Int32) (by decide) dX7_whyNot_21 ?_
    refine st_icmp_le G 31 27 rfl dX7_whyNot_24 rfl (fun c => ?_) (fun c => ?_)
    · have h := h.1 c
      refine st_iconst G 32 rfl (0 : Int32) (by decide) dX7_whyNot_31 ?_
      exact R _ _ _ _ dX7_whyNot_32 (Nat.le_of_ble_eq_true rfl) ⟨h, rfl⟩
    have h := h.2 c
    refine st_iconst G 28 rfl (3 : Int32) (by decide) dX7_whyNot_27 ?_
    refine st_goto G 32 dX7_whyNot_28 rfl ?_
    exact R _ _ _ _ dX7_whyNot_32 (Nat.le_of_ble_eq_true rfl) ⟨h, rfl⟩
  have h := h.2 c
  refine st_iconst G 10 rfl (1 : Int32) (by decide) dX7_whyNot_9 ?_
  refine st_goto G 32 dX7_whyNot_10 rfl ?_
  exact R _ _ _ _ dX7_whyNot_32 (Nat.le_of_ble_eq_true rfl) ⟨h, rfl⟩
set_option maxRecDepth 100000 in
set_option maxHeartbeats 4000000 in
theorem c_X7_whyNot (l : Launch) (D : va_G) (X : XT) (q_t q_t_s q_t_k q_t_laid q_t_errors q_t_step q_t_named q_t_pile q_t_sums1 q_t_parts1 q_t_trace q_t_bits q_t_sizes q_t_number q_t_aside : Nat) (c_images : Int32) (c_at : Int32) (c_open : Int32) (c_steps : Int32) (c_use : Int32) (c_traced : Int32) (c_speaks : Int32) (c_isParted : Int32) (c_s : Nat → Int32) (x1 : Int32) (x2 : Int32) (Q : Int32 → Prop) (h : wp_X7_whyNot x1 x2 c_s Q) : CTi l D X yX7_whyNot cX7_whyNot 3 .int rm_X7_whyNot [.ref q_t, .int x1, .int x2] [(q_t, .inr (7, [.ref q_t_s, .ref q_t_k, .ref q_t_laid, .int c_images, .ref q_t_errors, .int c_at, .int c_open, .int c_steps, .int c_use, .ref q_t_step, .ref q_t_named, .ref q_t_pile, .ref q_t_sums1, .ref q_t_parts1, .int c_traced, .ref q_t_trace, .int c_speaks, .int c_isParted, .ref q_t_bits, .ref q_t_sizes, .ref q_t_number, .ref q_t_aside])), (q_t_s, .inl (X.cI, 476, .inl c_s))] (fun (r : Int32) w => (Q r) ∧ w = [(q_t, .inr (7, [.ref q_t_s, .ref q_t_k, .ref q_t_laid, .int c_images, .ref q_t_errors, .int c_at, .int c_open, .int c_steps, .int c_use, .ref q_t_step, .ref q_t_named, .ref q_t_pile, .ref q_t_sums1, .ref q_t_parts1, .int c_traced, .ref q_t_trace, .int c_speaks, .int c_isParted, .ref q_t_bits, .ref q_t_sizes, .ref q_t_number, .ref q_t_aside])), (q_t_s, .inl (X.cI, 476, .inl c_s))]) :=
  ct_i (by decide) (Nat.le_of_ble_eq_true rfl) (fun g hl hD hX G R => by subst hl; subst hD; subst hX; exact b_X7_whyNot_e G R h)
set_option maxRecDepth 100000 in
set_option maxHeartbeats 4000000 in
theorem b_X7_years_20 {g : GT} (G : GOOD g RX7 cX7_years 4 rm_X7_years) {q_t q_t_s q_t_k q_t_laid q_t_errors q_t_step q_t_named q_t_pile q_t_sums1 q_t_parts1 q_t_trace q_t_bits q_t_sizes q_t_number q_t_aside : Nat} {c_images : Int32} {c_at : Int32} {c_open : Int32} {c_steps : Int32} {c_use : Int32} {c_traced : Int32} {c_speaks : Int32} {c_isParted : Int32} {Q : Int32 → (Nat → Int32) → (Nat → Int32) → (Nat → Int32) → (Nat → Int32) → Prop} (R : RETi g cX7_years 5 (fun (r : Int32) w => ∃ (c_s' : Nat → Int32) (c_errors' : Nat → Int32) (c_named' : Nat → Int32) (c_pile' : Nat → Int32), Q r c_s' c_errors' c_named' c_pile' ∧ w = [(q_t, .inr (7, [.ref q_t_s, .ref q_t_k, .ref q_t_laid, .int c_images, .ref q_t_errors, .int c_at, .int c_open, .int c_steps, .int c_use, .ref q_t_step, .ref q_t_named, .ref q_t_pile, .ref q_t_sums1, .ref q_t_parts1, .int c_traced, .ref q_t_trace, .int c_speaks, .int c_isParted, .ref q_t_bits, .ref q_t_sizes, .ref q_t_number, .ref q_t_aside])), (q_t_s, .inl (g.X.cI, 476, .inl c_s')), (q_t_errors, .inl (g.X.cI, 7, .inl c_errors')), (q_t_named, .inl (g.X.cI, 128, .inl c_named')), (q_t_pile, .inl (g.X.cI, 64, .inl c_pile'))])) : ∀ (n : Nat) (x1 : Int32) (x3 : Int32) (c_s : Nat → Int32) (c_errors : Nat → Int32) (c_named : Nat → Int32) (c_pile : Nat → Int32), wp_X7_years_b20 Q n x1 x3 c_s c_errors c_named c_pile → ST g 0 0 20 [(0, .ref q_t), (1, .int x1), (3, .int x3)] [] [(q_t, .inr (7, [.ref q_t_s, .ref q_t_k, .ref q_t_laid, .int c_images, .ref q_t_errors, .int c_at, .int c_open, .int c_steps, .int c_use, .ref q_t_step, .ref q_t_named, .ref q_t_pile, .ref q_t_sums1, .ref q_t_parts1, .int c_traced, .ref q_t_trace, .int c_speaks, .int c_isParted, .ref q_t_bits, .ref q_t_sizes, .ref q_t_number, .ref q_t_aside])), (q_t_s, .inl (g.X.cI, 476, .inl c_s)), (q_t_errors, .inl (g.X.cI, 7, .inl c_errors)), (q_t_named, .inl (g.X.cI, 128, .inl c_named)), (q_t_pile, .inl (g.X.cI, 64, .inl c_pile))] := by
  intro n
  induction n with
  | zero => intro x1 x3 c_s c_errors c_named c_pile h; exact False.elim h
  | succ n hK20 =>
    intro x1 x3 c_s c_errors c_named c_pile h
    unfold wp_X7_years_b20 at h
    refine st_iload_n G 21 rfl 2 rfl dX7_years_20 rfl ?_
    refine st_iload_n G 22 rfl 1 rfl dX7_years_21 rfl ?_
    refine st_icmp_ge G 35 25 rfl dX7_years_22 rfl (fun c => ?_) (fun c => ?_)
    · have h := h.1 c
      refine st_aload_n G 36 rfl 0 rfl dX7_years_35 rfl ?_
      refine st_get G inX7 rfl 0 (by decide) wd_82 39 rfl 0 rfl rfl dX7_years_36 ?_
      refine st_iconst G 40 rfl (0 : Int32) (by decide) dX7_years_39 ?_
      obtain ⟨hin, h⟩ := h
      refine st_iald G 41 rfl 1 rfl hin dX7_years_40 ?_
      exact R _ _ _ _ dX7_years_41 (Nat.le_of_ble_eq_true rfl) ⟨_, _, _, _, h, rfl⟩
    have h := h.2 c
    refine st_aload_n G 26 rfl 0 rfl dX7_years_25 rfl ?_
    refine st_cVv G lk_X7_198 (c_X7_aYear g.l g.D g.X q_t q_t_s q_t_k q_t_laid q_t_errors q_t_step q_t_named q_t_pile q_t_sums1 q_t_parts1 q_t_trace q_t_bits q_t_sizes q_t_number q_t_aside c_images c_at c_open c_steps c_use c_traced c_speaks c_isParted c_s c_named c_pile _ h) ⟨rfl, rfl, ⟨Nat.le_of_ble_eq_true rfl, Nat.le_of_ble_eq_true rfl⟩, Nat.zero_le _, Nat.zero_le _⟩ 29 rfl [0, 1, 3, 4] rfl (by decide) 0 7 rfl rfl rfl (Nat.le_of_ble_eq_true rfl) rfl dX7_years_26 (fun w hq => ?_)
    obtain ⟨c_s_26, c_named_26, c_pile_26, h, rfl⟩ := hq
    refine st_wp (ws' := [(q_t, .inr (7, [.ref q_t_s, .ref q_t_k, .ref q_t_laid, .int c_images, .ref q_t_errors, .int c_at, .int c_open, .int c_steps, .int c_use, .ref q_t_step, .ref q_t_named, .ref q_t_pile, .ref q_t_sums1, .ref q_t_parts1, .int c_traced, .ref q_t_trace, .int c_speaks, .int c_isParted, .ref q_t_bits, .ref q_t_sizes, .ref q_t_number, .ref q_t_aside])), (q_t_s, .inl (g.X.cI, 476, .inl c_s_26)), (q_t_errors, .inl (g.X.cI, 7, .inl c_errors)), (q_t_named, .inl (g.X.cI, 128, .inl c_named_26)), (q_t_pile, .inl (g.X.cI, 64, .inl c_pile_26))]) 5 [2] (by decide) rfl rfl (by rfl) [(q_t_errors, .inl (g.X.cI, 7, .inl c_errors))] (by rfl) rfl ?_
    obtain ⟨x3_29, ex3_29⟩ : ∃ y : Int32, y = (x3 + (1 : Int32)) := ⟨_, rfl⟩
    have h := h x3_29 ex3_29
    refine st_iinc G 32 rfl [(3, .int x3_29), (0, .ref q_t), (1, .int x1)] x3_29 2 rfl (by rw [ex3_29]; rfl) dX7_years_29 (by decide) rfl ?_
    refine st_goto G 20 dX7_years_32 rfl ?_
    refine st_L (L' := [(0, .ref q_t), (1, .int x1), (3, .int x3_29)]) [1, 2, 0] rfl ?_
    exact hK20 _ _ _ _ _ _ h
set_option maxRecDepth 100000 in
set_option maxHeartbeats 4000000 in
theorem b_X7_years_e {g : GT} (G : GOOD g RX7 cX7_years 4 rm_X7_years) {q_t q_t_s q_t_k q_t_laid q_t_errors q_t_step q_t_named q_t_pile q_t_sums1 q_t_parts1 q_t_trace q_t_bits q_t_sizes q_t_number q_t_aside : Nat} {c_images : Int32} {c_at : Int32} {c_open : Int32} {c_steps : Int32} {c_use : Int32} {c_traced : Int32} {c_speaks : Int32} {c_isParted : Int32} {c_s : Nat → Int32} {c_errors : Nat → Int32} {c_named : Nat → Int32} {c_pile : Nat → Int32} {x1 : Int32} {Q : Int32 → (Nat → Int32) → (Nat → Int32) → (Nat → Int32) → (Nat → Int32) → Prop} (R : RETi g cX7_years 5 (fun (r : Int32) w => ∃ (c_s' : Nat → Int32) (c_errors' : Nat → Int32) (c_named' : Nat → Int32) (c_pile' : Nat → Int32), Q r c_s' c_errors' c_named' c_pile' ∧ w = [(q_t, .inr (7, [.ref q_t_s, .ref q_t_k, .ref q_t_laid, .int c_images, .ref q_t_errors, .int c_at, .int c_open, .int c_steps, .int c_use, .ref q_t_step, .ref q_t_named, .ref q_t_pile, .ref q_t_sums1, .ref q_t_parts1, .int c_traced, .ref q_t_trace, .int c_speaks, .int c_isParted, .ref q_t_bits, .ref q_t_sizes, .ref q_t_number, .ref q_t_aside])), (q_t_s, .inl (g.X.cI, 476, .inl c_s')), (q_t_errors, .inl (g.X.cI, 7, .inl c_errors')), (q_t_named, .inl (g.X.cI, 128, .inl c_named')), (q_t_pile, .inl (g.X.cI, 64, .inl c_pile'))])) (h : wp_X7_years x1 c_s c_errors c_named c_pile Q) : ST g 0 0 0 [(0, .ref q_t), (1, .int x1)] [] [(q_t, .inr (7, [.ref q_t_s, .ref q_t_k, .ref q_t_laid, .int c_images, .ref q_t_errors, .int c_at, .int c_open, .int c_steps, .int c_use, .ref q_t_step, .ref q_t_named, .ref q_t_pile, .ref q_t_sums1, .ref q_t_parts1, .int c_traced, .ref q_t_trace, .int c_speaks, .int c_isParted, .ref q_t_bits, .ref q_t_sizes, .ref q_t_number, .ref q_t_aside])), (q_t_s, .inl (g.X.cI, 476, .inl c_s)), (q_t_errors, .inl (g.X.cI, 7, .inl c_errors)), (q_t_named, .inl (g.X.cI, 128, .inl c_named)), (q_t_pile, .inl (g.X.cI, 64, .inl c_pile))] := by
  unfold wp_X7_years at h
  refine st_aload_n G 1 rfl 0 rfl dX7_years_0 rfl ?_
  refine st_iload_n G 2 rfl 1 rfl dX7_years_1 rfl ?_
  refine st_bipush G 4 rfl (60 : Int32) (by decide) dX7_years_2 ?_
  refine st_cVio G lk_X7_195 (c_X7_whyNot g.l g.D g.X q_t q_t_s q_t_k q_t_laid q_t_errors q_t_step q_t_named q_t_pile q_t_sums1 q_t_parts1 q_t_trace q_t_bits q_t_sizes q_t_number q_t_aside c_images c_at c_open c_steps c_use c_traced c_speaks c_isParted c_s x1 (60 : Int32) _ h) ⟨rfl, rfl, ⟨Nat.le_of_ble_eq_true rfl, Nat.le_of_ble_eq_true rfl⟩, Nat.zero_le _, Nat.zero_le _⟩ 7 rfl [0, 1] rfl (by decide) 0 7 rfl rfl rfl (Nat.le_of_ble_eq_true rfl) rfl dX7_years_4 (fun r_4 h => ?_)
  refine st_istore_n G 8 rfl [(2, .int r_4), (0, .ref q_t), (1, .int x1)] dX7_years_7 rfl (by decide) rfl ?_
  refine st_iload_n G 9 rfl 0 rfl dX7_years_8 rfl ?_
  refine st_if_eq G 18 12 rfl dX7_years_9 rfl (fun c => ?_) (fun c => ?_)
  · have h := h.1 c
    refine st_iconst G 19 rfl (0 : Int32) (by decide) dX7_years_18 ?_
    refine st_istore_n G 20 rfl [(3, .int (0 : Int32)), (2, .int r_4), (0, .ref q_t), (1, .int x1)] dX7_years_19 rfl (by decide) rfl ?_
    refine st_L (L' := [(0, .ref q_t), (1, .int x1), (3, .int (0 : Int32))]) [2, 3, 0] rfl ?_
    obtain ⟨n, h⟩ := h
    exact b_X7_years_20 G R n _ _ _ _ _ _ h
  have h := h.2 c
  refine st_aload_n G 13 rfl 1 rfl dX7_years_12 rfl ?_
  refine st_iload_n G 14 rfl 0 rfl dX7_years_13 rfl ?_
  refine st_cVi G lk_X7_65 (c_X7_error g.l g.D g.X q_t q_t_s q_t_k q_t_laid q_t_errors q_t_step q_t_named q_t_pile q_t_sums1 q_t_parts1 q_t_trace q_t_bits q_t_sizes q_t_number q_t_aside c_images c_at c_open c_steps c_use c_traced c_speaks c_isParted c_errors r_4 _ h) ⟨rfl, rfl, ⟨Nat.le_of_ble_eq_true rfl, Nat.le_of_ble_eq_true rfl⟩, Nat.zero_le _, Nat.zero_le _⟩ 17 rfl [0, 2] rfl (by decide) 0 7 rfl rfl rfl (Nat.le_of_ble_eq_true rfl) rfl dX7_years_14 (fun r_14 w hq => ?_)
  obtain ⟨c_errors_14, h, rfl⟩ := hq
  refine st_wp (ws' := [(q_t, .inr (7, [.ref q_t_s, .ref q_t_k, .ref q_t_laid, .int c_images, .ref q_t_errors, .int c_at, .int c_open, .int c_steps, .int c_use, .ref q_t_step, .ref q_t_named, .ref q_t_pile, .ref q_t_sums1, .ref q_t_parts1, .int c_traced, .ref q_t_trace, .int c_speaks, .int c_isParted, .ref q_t_bits, .ref q_t_sizes, .ref q_t_number, .ref q_t_aside])), (q_t_s, .inl (g.X.cI, 476, .inl c_s)), (q_t_errors, .inl (g.X.cI, 7, .inl c_errors_14)), (q_t_named, .inl (g.X.cI, 128, .inl c_named)), (q_t_pile, .inl (g.X.cI, 64, .inl c_pile))]) 5 [1, 3, 4] (by decide) rfl rfl (by rfl) [(q_t_s, .inl (g.X.cI, 476, .inl c_s)), (q_t_named, .inl (g.X.cI, 128, .inl c_named)), (q_t_pile, .inl (g.X.cI, 64, .inl c_pile))] (by rfl) rfl ?_
  exact R _ _ _ _ dX7_years_17 (Nat.le_of_ble_eq_true rfl) ⟨_, _, _, _, h, rfl⟩
set_option maxRecDepth 100000 in
set_option maxHeartbeats 4000000 in
theorem c_X7_years (l : Launch) (D : va_G) (X : XT) (q_t q_t_s q_t_k q_t_laid q_t_errors q_t_step q_t_named q_t_pile q_t_sums1 q_t_parts1 q_t_trace q_t_bits q_t_sizes q_t_number q_t_aside : Nat) (c_images : Int32) (c_at : Int32) (c_open : Int32) (c_steps : Int32) (c_use : Int32) (c_traced : Int32) (c_speaks : Int32) (c_isParted : Int32) (c_s : Nat → Int32) (c_errors : Nat → Int32) (c_named : Nat → Int32) (c_pile : Nat → Int32) (x1 : Int32) (Q : Int32 → (Nat → Int32) → (Nat → Int32) → (Nat → Int32) → (Nat → Int32) → Prop) (h : wp_X7_years x1 c_s c_errors c_named c_pile Q) : CTi l D X yX7_years cX7_years 4 .int rm_X7_years [.ref q_t, .int x1] [(q_t, .inr (7, [.ref q_t_s, .ref q_t_k, .ref q_t_laid, .int c_images, .ref q_t_errors, .int c_at, .int c_open, .int c_steps, .int c_use, .ref q_t_step, .ref q_t_named, .ref q_t_pile, .ref q_t_sums1, .ref q_t_parts1, .int c_traced, .ref q_t_trace, .int c_speaks, .int c_isParted, .ref q_t_bits, .ref q_t_sizes, .ref q_t_number, .ref q_t_aside])), (q_t_s, .inl (X.cI, 476, .inl c_s)), (q_t_errors, .inl (X.cI, 7, .inl c_errors)), (q_t_named, .inl (X.cI, 128, .inl c_named)), (q_t_pile, .inl (X.cI, 64, .inl c_pile))] (fun (r : Int32) w => ∃ (c_s' : Nat → Int32) (c_errors' : Nat → Int32) (c_named' : Nat → Int32) (c_pile' : Nat → Int32), Q r c_s' c_errors' c_named' c_pile' ∧ w = [(q_t, .inr (7, [.ref q_t_s, .ref q_t_k, .ref q_t_laid, .int c_images, .ref q_t_errors, .int c_at, .int c_open, .int c_steps, .int c_use, .ref q_t_step, .ref q_t_named, .ref q_t_pile, .ref q_t_sums1, .ref q_t_parts1, .int c_traced, .ref q_t_trace, .int c_speaks, .int c_isParted, .ref q_t_bits, .ref q_t_sizes, .ref q_t_number, .ref q_t_aside])), (q_t_s, .inl (X.cI, 476, .inl c_s')), (q_t_errors, .inl (X.cI, 7, .inl c_errors')), (q_t_named, .inl (X.cI, 128, .inl c_named')), (q_t_pile, .inl (X.cI, 64, .inl c_pile'))]) :=
  ct_i (by decide) (Nat.le_of_ble_eq_true rfl) (fun g hl hD hX G R => by subst hl; subst hD; subst hX; exact b_X7_years_e G R h)
set_option maxRecDepth 100000 in
set_option maxHeartbeats 4000000 in
theorem b_X7_steals_e {g : GT} (G : GOOD g RX7 cX7_steals 6 rm_X7_steals) {q_t q_t_s q_t_k q_t_laid q_t_errors q_t_step q_t_named q_t_pile q_t_sums1 q_t_parts1 q_t_trace q_t_bits q_t_sizes q_t_number q_t_aside : Nat} {c_images : Int32} {c_at : Int32} {c_open : Int32} {c_steps : Int32} {c_use : Int32} {c_traced : Int32} {c_speaks : Int32} {c_isParted : Int32} {c_s : Nat → Int32} {Q : Int32 → (Nat → Int32) → Prop} (R : RETi g cX7_steals 2 (fun (r : Int32) w => ∃ (c_s' : Nat → Int32), Q r c_s' ∧ w = [(q_t, .inr (7, [.ref q_t_s, .ref q_t_k, .ref q_t_laid, .int c_images, .ref q_t_errors, .int c_at, .int c_open, .int c_steps, .int c_use, .ref q_t_step, .ref q_t_named, .ref q_t_pile, .ref q_t_sums1, .ref q_t_parts1, .int c_traced, .ref q_t_trace, .int c_speaks, .int c_isParted, .ref q_t_bits, .ref q_t_sizes, .ref q_t_number, .ref q_t_aside])), (q_t_s, .inl (g.X.cI, 476, .inl c_s'))])) (h : wp_X7_steals c_s Q) : ST g 0 0 0 [(0, .ref q_t)] [] [(q_t, .inr (7, [.ref q_t_s, .ref q_t_k, .ref q_t_laid, .int c_images, .ref q_t_errors, .int c_at, .int c_open, .int c_steps, .int c_use, .ref q_t_step, .ref q_t_named, .ref q_t_pile, .ref q_t_sums1, .ref q_t_parts1, .int c_traced, .ref q_t_trace, .int c_speaks, .int c_isParted, .ref q_t_bits, .ref q_t_sizes, .ref q_t_number, .ref q_t_aside])), (q_t_s, .inl (g.X.cI, 476, .inl c_s))] := by
  unfold wp_X7_steals at h
  refine st_aload_n G 1 rfl 0 rfl dX7_steals_0 rfl ?_
  refine st_get G inX7 rfl 0 (by decide) wd_82 4 rfl 0 rfl rfl dX7_steals_1 ?_
  refine st_iconst G 5 rfl (4 : Int32) (by decide) dX7_steals_4 ?_
  obtain ⟨hin, h⟩ := h
  refine st_iald G 6 rfl 1 rfl hin dX7_steals_5 ?_
  refine st_if_ne G 11 9 rfl dX7_steals_6 rfl (fun c => ?_) (fun c => ?_)
  · have h := h.1 c
    refine st_aload_n G 12 rfl 0 rfl dX7_steals_11 rfl ?_
    refine st_cVi G lk_X7_201 (c_X7_draw g.l g.D g.X q_t q_t_s q_t_k q_t_laid q_t_errors q_t_step q_t_named q_t_pile q_t_sums1 q_t_parts1 q_t_trace q_t_bits q_t_sizes q_t_number q_t_aside c_images c_at c_open c_steps c_use c_traced c_speaks c_isParted c_s _ h) ⟨rfl, rfl, ⟨Nat.le_of_ble_eq_true rfl, Nat.le_of_ble_eq_true rfl⟩, Nat.zero_le _, Nat.zero_le _⟩ 15 rfl [0, 1] rfl (by decide) 0 7 rfl rfl rfl (Nat.le_of_ble_eq_true rfl) rfl dX7_steals_12 (fun r_12 w hq => ?_)
    obtain ⟨c_s_12, h, rfl⟩ := hq
    refine st_wp (ws' := [(q_t, .inr (7, [.ref q_t_s, .ref q_t_k, .ref q_t_laid, .int c_images, .ref q_t_errors, .int c_at, .int c_open, .int c_steps, .int c_use, .ref q_t_step, .ref q_t_named, .ref q_t_pile, .ref q_t_sums1, .ref q_t_parts1, .int c_traced, .ref q_t_trace, .int c_speaks, .int c_isParted, .ref q_t_bits, .ref q_t_sizes, .ref q_t_number, .ref q_t_aside])), (q_t_s, .inl (g.X.cI, 476, .inl c_s_12))]) 2 [] (by decide) rfl rfl (by rfl) [] (by rfl) rfl ?_
    refine st_aload_n G 16 rfl 0 rfl dX7_steals_15 rfl ?_
    refine st_get G inX7 rfl 0 (by decide) wd_82 19 rfl 0 rfl rfl dX7_steals_16 ?_
    refine st_iconst G 20 rfl (4 : Int32) (by decide) dX7_steals_19 ?_
    obtain ⟨hin, h⟩ := h
    refine st_iald G 21 rfl 1 rfl hin dX7_steals_20 ?_
    obtain ⟨hne, h⟩ := h
    refine st_irem G 22 rfl hne dX7_steals_21 ?_
    refine st_topi (fun x1_22 ex1_22 => ?_)
    have h := h x1_22 ex1_22
    refine st_istore_n G 23 rfl [(1, .int x1_22), (0, .ref q_t)] dX7_steals_22 rfl (by decide) rfl ?_
    refine st_aload_n G 24 rfl 1 rfl dX7_steals_23 rfl ?_
    refine st_cVi G lk_X7_201 (c_X7_draw g.l g.D g.X q_t q_t_s q_t_k q_t_laid q_t_errors q_t_step q_t_named q_t_pile q_t_sums1 q_t_parts1 q_t_trace q_t_bits q_t_sizes q_t_number q_t_aside c_images c_at c_open c_steps c_use c_traced c_speaks c_isParted c_s_12 _ h) ⟨rfl, rfl, ⟨Nat.le_of_ble_eq_true rfl, Nat.le_of_ble_eq_true rfl⟩, Nat.zero_le _, Nat.zero_le _⟩ 27 rfl [0, 1] rfl (by decide) 0 7 rfl rfl rfl (Nat.le_of_ble_eq_true rfl) rfl dX7_steals_24 (fun r_24 w hq => ?_)
    obtain ⟨c_s_24, h, rfl⟩ := hq
    refine st_wp (ws' := [(q_t, .inr (7, [.ref q_t_s, .ref q_t_k, .ref q_t_laid, .int c_images, .ref q_t_errors, .int c_at, .int c_open, .int c_steps, .int c_use, .ref q_t_step, .ref q_t_named, .ref q_t_pile, .ref q_t_sums1, .ref q_t_parts1, .int c_traced, .ref q_t_trace, .int c_speaks, .int c_isParted, .ref q_t_bits, .ref q_t_sizes, .ref q_t_number, .ref q_t_aside])), (q_t_s, .inl (g.X.cI, 476, .inl c_s_24))]) 2 [] (by decide) rfl rfl (by rfl) [] (by rfl) rfl ?_
    refine st_aload_n G 28 rfl 1 rfl dX7_steals_27 rfl ?_
    refine st_get G inX7 rfl 0 (by decide) wd_82 31 rfl 0 rfl rfl dX7_steals_28 ?_
    refine st_iconst G 32 rfl (4 : Int32) (by decide) dX7_steals_31 ?_
    obtain ⟨hin, h⟩ := h
    refine st_iald G 33 rfl 1 rfl hin dX7_steals_32 ?_
    obtain ⟨hne, h⟩ := h
    refine st_irem G 34 rfl hne dX7_steals_33 ?_
    refine st_topi (fun x2_34 ex2_34 => ?_)
    have h := h x2_34 ex2_34
    refine st_istore_n G 35 rfl [(2, .int x2_34), (1, .int x1_22), (0, .ref q_t)] dX7_steals_34 rfl (by decide) rfl ?_
    refine st_aload_n G 36 rfl 2 rfl dX7_steals_35 rfl ?_
    refine st_cVi G lk_X7_201 (c_X7_draw g.l g.D g.X q_t q_t_s q_t_k q_t_laid q_t_errors q_t_step q_t_named q_t_pile q_t_sums1 q_t_parts1 q_t_trace q_t_bits q_t_sizes q_t_number q_t_aside c_images c_at c_open c_steps c_use c_traced c_speaks c_isParted c_s_24 _ h) ⟨rfl, rfl, ⟨Nat.le_of_ble_eq_true rfl, Nat.le_of_ble_eq_true rfl⟩, Nat.zero_le _, Nat.zero_le _⟩ 39 rfl [0, 1] rfl (by decide) 0 7 rfl rfl rfl (Nat.le_of_ble_eq_true rfl) rfl dX7_steals_36 (fun r_36 w hq => ?_)
    obtain ⟨c_s_36, h, rfl⟩ := hq
    refine st_wp (ws' := [(q_t, .inr (7, [.ref q_t_s, .ref q_t_k, .ref q_t_laid, .int c_images, .ref q_t_errors, .int c_at, .int c_open, .int c_steps, .int c_use, .ref q_t_step, .ref q_t_named, .ref q_t_pile, .ref q_t_sums1, .ref q_t_parts1, .int c_traced, .ref q_t_trace, .int c_speaks, .int c_isParted, .ref q_t_bits, .ref q_t_sizes, .ref q_t_number, .ref q_t_aside])), (q_t_s, .inl (g.X.cI, 476, .inl c_s_36))]) 2 [] (by decide) rfl rfl (by rfl) [] (by rfl) rfl ?_
    refine st_iconst G 40 rfl (5 : Int32) (by decide) dX7_steals_39 ?_
    refine st_irem G 41 rfl (by decide) dX7_steals_40 ?_
    refine st_topi (fun x3_41 ex3_41 => ?_)
    have h := h x3_41 ex3_41
    refine st_istore_n G 42 rfl [(3, .int x3_41), (2, .int x2_34), (1, .int x1_22), (0, .ref q_t)] dX7_steals_41 rfl (by decide) rfl ?_
    refine st_bipush G 44 rfl (99 : Int32) (by decide) dX7_steals_42 ?_
    refine st_aload_n G 45 rfl 3 rfl dX7_steals_44 rfl ?_
    refine st_iload_n G 46 rfl 1 rfl dX7_steals_45 rfl ?_
    refine st_iload_n G 47 rfl 0 rfl dX7_steals_46 rfl ?_
    refine st_cVio G lk_X7_57 (c_X7_has g.l g.D g.X q_t q_t_s q_t_k q_t_laid q_t_errors q_t_step q_t_named q_t_pile q_t_sums1 q_t_parts1 q_t_trace q_t_bits q_t_sizes q_t_number q_t_aside c_images c_at c_open c_steps c_use c_traced c_speaks c_isParted c_s_36 x2_34 x3_41 _ h) ⟨rfl, rfl, ⟨Nat.le_of_ble_eq_true rfl, Nat.le_of_ble_eq_true rfl⟩, Nat.zero_le _, Nat.zero_le _⟩ 50 rfl [0, 1] rfl (by decide) 0 7 rfl rfl rfl (Nat.le_of_ble_eq_true rfl) rfl dX7_steals_47 (fun r_47 h => ?_)
    refine st_isub G 51 rfl dX7_steals_50 ?_
    refine st_topi (fun x4_51 ex4_51 => ?_)
    have h := h x4_51 ex4_51
    refine st_istore G 53 rfl [(4, .int x4_51), (3, .int x3_41), (2, .int x2_34), (1, .int x1_22), (0, .ref q_t)] dX7_steals_51 (by decide) rfl ?_
    refine st_aload_n G 54 rfl 4 rfl dX7_steals_53 rfl ?_
    refine st_iload_n G 55 rfl 3 rfl dX7_steals_54 rfl ?_
    refine st_iload_n G 56 rfl 1 rfl dX7_steals_55 rfl ?_
    refine st_cVio G lk_X7_57 (c_X7_has g.l g.D g.X q_t q_t_s q_t_k q_t_laid q_t_errors q_t_step q_t_named q_t_pile q_t_sums1 q_t_parts1 q_t_trace q_t_bits q_t_sizes q_t_number q_t_aside c_images c_at c_open c_steps c_use c_traced c_speaks c_isParted c_s_36 x1_22 x3_41 _ h) ⟨rfl, rfl, ⟨Nat.le_of_ble_eq_true rfl, Nat.le_of_ble_eq_true rfl⟩, Nat.zero_le _, Nat.zero_le _⟩ 59 rfl [0, 1] rfl (by decide) 0 7 rfl rfl rfl (Nat.le_of_ble_eq_true rfl) rfl dX7_steals_56 (fun r_56 h => ?_)
    refine st_iload G 61 rfl 0 rfl dX7_steals_59 ?_
    refine st_icmp_ge G 73 64 rfl dX7_steals_61 rfl (fun c => ?_) (fun c => ?_)
    · have h := h.1 c
      refine st_iload G 75 rfl 0 rfl dX7_steals_73 ?_
      refine st_iconst G 76 rfl (2 : Int32) (by decide) dX7_steals_75 ?_
      refine st_idiv G 77 rfl (by decide) dX7_steals_76 ?_
      refine st_topi (fun x5_77 ex5_77 => ?_)
      have h := h x5_77 ex5_77
      refine st_istore G 79 rfl [(5, .int x5_77), (4, .int x4_51), (3, .int x3_41), (2, .int x2_34), (1, .int x1_22), (0, .ref q_t)] dX7_steals_77 (by decide) rfl ?_
      refine st_iload_n G 80 rfl 4 rfl dX7_steals_79 rfl ?_
      refine st_iload_n G 81 rfl 3 rfl dX7_steals_80 rfl ?_
      refine st_icmp_ne G 86 84 rfl dX7_steals_81 rfl (fun c => ?_) (fun c => ?_)
      · have h := h.1 c
        refine st_aload_n G 87 rfl 5 rfl dX7_steals_86 rfl ?_
        refine st_iload_n G 88 rfl 4 rfl dX7_steals_87 rfl ?_
        refine st_iload_n G 89 rfl 3 rfl dX7_steals_88 rfl ?_
        refine st_iload_n G 90 rfl 2 rfl dX7_steals_89 rfl ?_
        refine st_iload G 92 rfl 0 rfl dX7_steals_90 ?_
        refine st_cVv G lk_X7_191 (c_X7_go g.l g.D g.X q_t q_t_s q_t_k q_t_laid q_t_errors q_t_step q_t_named q_t_pile q_t_sums1 q_t_parts1 q_t_trace q_t_bits q_t_sizes q_t_number q_t_aside c_images c_at c_open c_steps c_use c_traced c_speaks c_isParted c_s_36 x1_22 x2_34 x3_41 x5_77 _ h) ⟨rfl, rfl, ⟨Nat.le_of_ble_eq_true rfl, Nat.le_of_ble_eq_true rfl⟩, Nat.zero_le _, Nat.zero_le _⟩ 95 rfl [0, 1] rfl (by decide) 0 7 rfl rfl rfl (Nat.le_of_ble_eq_true rfl) rfl dX7_steals_92 (fun w hq => ?_)
        obtain ⟨c_s_92, h, rfl⟩ := hq
        refine st_wp (ws' := [(q_t, .inr (7, [.ref q_t_s, .ref q_t_k, .ref q_t_laid, .int c_images, .ref q_t_errors, .int c_at, .int c_open, .int c_steps, .int c_use, .ref q_t_step, .ref q_t_named, .ref q_t_pile, .ref q_t_sums1, .ref q_t_parts1, .int c_traced, .ref q_t_trace, .int c_speaks, .int c_isParted, .ref q_t_bits, .ref q_t_sizes, .ref q_t_number, .ref q_t_aside])), (q_t_s, .inl (g.X.cI, 476, .inl c_s_92))]) 2 [] (by decide) rfl rfl (by rfl) [] (by rfl) rfl ?_
        refine st_iload G 97 rfl 0 rfl dX7_steals_95 ?_
        exact R _ _ _ _ dX7_steals_97 (Nat.le_of_ble_eq_true rfl) ⟨_, h, rfl⟩
      have h := h.2 c
      refine st_iconst G 85 rfl (0 : Int32) (by decide) dX7_steals_84 ?_
      exact R _ _ _ _ dX7_steals_85 (Nat.le_of_ble_eq_true rfl) ⟨_, h, rfl⟩
    have h := h.2 c
    refine st_aload_n G 65 rfl 4 rfl dX7_steals_64 rfl ?_
    refine st_iload_n G 66 rfl 3 rfl dX7_steals_65 rfl ?_
    refine st_iload_n G 67 rfl 1 rfl dX7_steals_66 rfl ?_
    refine st_cVio G lk_X7_57 (c_X7_has g.l g.D g.X q_t q_t_s q_t_k q_t_laid q_t_errors q_t_step q_t_named q_t_pile q_t_sums1 q_t_parts1 q_t_trace q_t_bits q_t_sizes q_t_number q_t_aside c_images c_at c_open c_steps c_use c_traced c_speaks c_isParted c_s_36 x1_22 x3_41 _ h) ⟨rfl, rfl, ⟨Nat.le_of_ble_eq_true rfl, Nat.le_of_ble_eq_true rfl⟩, Nat.zero_le _, Nat.zero_le _⟩ 70 rfl [0, 1] rfl (by decide) 0 7 rfl rfl rfl (Nat.le_of_ble_eq_true rfl) rfl dX7_steals_67 (fun r_67 h => ?_)
    refine st_goto G 75 dX7_steals_70 rfl ?_
    refine st_iconst G 76 rfl (2 : Int32) (by decide) dX7_steals_75 ?_
    refine st_idiv G 77 rfl (by decide) dX7_steals_76 ?_
    refine st_topi (fun x5_77 ex5_77 => ?_)
    have h := h x5_77 ex5_77
    refine st_istore G 79 rfl [(5, .int x5_77), (4, .int x4_51), (3, .int x3_41), (2, .int x2_34), (1, .int x1_22), (0, .ref q_t)] dX7_steals_77 (by decide) rfl ?_
    refine st_iload_n G 80 rfl 4 rfl dX7_steals_79 rfl ?_
    refine st_iload_n G 81 rfl 3 rfl dX7_steals_80 rfl ?_
    refine st_icmp_ne G 86 84 rfl dX7_steals_81 rfl (fun c => ?_) (fun c => ?_)
    · have h := h.1 c
      refine st_aload_n G 87 rfl 5 rfl dX7_steals_86 rfl ?_
      refine st_iload_n G 88 rfl 4 rfl dX7_steals_87 rfl ?_
      refine st_iload_n G 89 rfl 3 rfl dX7_steals_88 rfl ?_
      refine st_iload_n G 90 rfl 2 rfl dX7_steals_89 rfl ?_
      refine st_iload G 92 rfl 0 rfl dX7_steals_90 ?_
      refine st_cVv G lk_X7_191 (c_X7_go g.l g.D g.X q_t q_t_s q_t_k q_t_laid q_t_errors q_t_step q_t_named q_t_pile q_t_sums1 q_t_parts1 q_t_trace q_t_bits q_t_sizes q_t_number q_t_aside c_images c_at c_open c_steps c_use c_traced c_speaks c_isParted c_s_36 x1_22 x2_34 x3_41 x5_77 _ h) ⟨rfl, rfl, ⟨Nat.le_of_ble_eq_true rfl, Nat.le_of_ble_eq_true rfl⟩, Nat.zero_le _, Nat.zero_le _⟩ 95 rfl [0, 1] rfl (by decide) 0 7 rfl rfl rfl (Nat.le_of_ble_eq_true rfl) rfl dX7_steals_92 (fun w hq => ?_)
      obtain ⟨c_s_92, h, rfl⟩ := hq
      refine st_wp (ws' := [(q_t, .inr (7, [.ref q_t_s, .ref q_t_k, .ref q_t_laid, .int c_images, .ref q_t_errors, .int c_at, .int c_open, .int c_steps, .int c_use, .ref q_t_step, .ref q_t_named, .ref q_t_pile, .ref q_t_sums1, .ref q_t_parts1, .int c_traced, .ref q_t_trace, .int c_speaks, .int c_isParted, .ref q_t_bits, .ref q_t_sizes, .ref q_t_number, .ref q_t_aside])), (q_t_s, .inl (g.X.cI, 476, .inl c_s_92))]) 2 [] (by decide) rfl rfl (by rfl) [] (by rfl) rfl ?_
      refine st_iload G 97 rfl 0 rfl dX7_steals_95 ?_
      exact R _ _ _ _ dX7_steals_97 (Nat.le_of_ble_eq_true rfl) ⟨_, h, rfl⟩
    have h := h.2 c
    refine st_iconst G 85 rfl (0 : Int32) (by decide) dX7_steals_84 ?_
    exact R _ _ _ _ dX7_steals_85 (Nat.le_of_ble_eq_true rfl) ⟨_, h, rfl⟩
  have h := h.2 c
  refine st_iconst G 10 rfl (0 : Int32) (by decide) dX7_steals_9 ?_
  exact R _ _ _ _ dX7_steals_10 (Nat.le_of_ble_eq_true rfl) ⟨_, h, rfl⟩
set_option maxRecDepth 100000 in
set_option maxHeartbeats 4000000 in
theorem c_X7_steals (l : Launch) (D : va_G) (X : XT) (q_t q_t_s q_t_k q_t_laid q_t_errors q_t_step q_t_named q_t_pile q_t_sums1 q_t_parts1 q_t_trace q_t_bits q_t_sizes q_t_number q_t_aside : Nat) (c_images : Int32) (c_at : Int32) (c_open : Int32) (c_steps : Int32) (c_use : Int32) (c_traced : Int32) (c_speaks : Int32) (c_isParted : Int32) (c_s : Nat → Int32) (Q : Int32 → (Nat → Int32) → Prop) (h : wp_X7_steals c_s Q) : CTi l D X yX7_steals cX7_steals 6 .int rm_X7_steals [.ref q_t] [(q_t, .inr (7, [.ref q_t_s, .ref q_t_k, .ref q_t_laid, .int c_images, .ref q_t_errors, .int c_at, .int c_open, .int c_steps, .int c_use, .ref q_t_step, .ref q_t_named, .ref q_t_pile, .ref q_t_sums1, .ref q_t_parts1, .int c_traced, .ref q_t_trace, .int c_speaks, .int c_isParted, .ref q_t_bits, .ref q_t_sizes, .ref q_t_number, .ref q_t_aside])), (q_t_s, .inl (X.cI, 476, .inl c_s))] (fun (r : Int32) w => ∃ (c_s' : Nat → Int32), Q r c_s' ∧ w = [(q_t, .inr (7, [.ref q_t_s, .ref q_t_k, .ref q_t_laid, .int c_images, .ref q_t_errors, .int c_at, .int c_open, .int c_steps, .int c_use, .ref q_t_step, .ref q_t_named, .ref q_t_pile, .ref q_t_sums1, .ref q_t_parts1, .int c_traced, .ref q_t_trace, .int c_speaks, .int c_isParted, .ref q_t_bits, .ref q_t_sizes, .ref q_t_number, .ref q_t_aside])), (q_t_s, .inl (X.cI, 476, .inl c_s'))]) :=
  ct_i (by decide) (Nat.le_of_ble_eq_true rfl) (fun g hl hD hX G R => by subst hl; subst hD; subst hX; exact b_X7_steals_e G R h)
set_option maxRecDepth 100000 in
set_option maxHeartbeats 4000000 in
theorem b_X7_loose_23 {g : GT} (G : GOOD g RX7 cX7_loose 5 rm_X7_loose) {q_t q_t_s q_t_k q_t_laid q_t_errors q_t_step q_t_named q_t_pile q_t_sums1 q_t_parts1 q_t_trace q_t_bits q_t_sizes q_t_number q_t_aside : Nat} {c_images : Int32} {c_at : Int32} {c_open : Int32} {c_steps : Int32} {c_use : Int32} {c_traced : Int32} {c_speaks : Int32} {c_isParted : Int32} {Q : Int32 → (Nat → Int32) → (Nat → Int32) → (Nat → Int32) → (Nat → Int32) → Prop} (R : RETi g cX7_loose 5 (fun (r : Int32) w => ∃ (c_s' : Nat → Int32) (c_errors' : Nat → Int32) (c_named' : Nat → Int32) (c_pile' : Nat → Int32), Q r c_s' c_errors' c_named' c_pile' ∧ w = [(q_t, .inr (7, [.ref q_t_s, .ref q_t_k, .ref q_t_laid, .int c_images, .ref q_t_errors, .int c_at, .int c_open, .int c_steps, .int c_use, .ref q_t_step, .ref q_t_named, .ref q_t_pile, .ref q_t_sums1, .ref q_t_parts1, .int c_traced, .ref q_t_trace, .int c_speaks, .int c_isParted, .ref q_t_bits, .ref q_t_sizes, .ref q_t_number, .ref q_t_aside])), (q_t_s, .inl (g.X.cI, 476, .inl c_s')), (q_t_errors, .inl (g.X.cI, 7, .inl c_errors')), (q_t_named, .inl (g.X.cI, 128, .inl c_named')), (q_t_pile, .inl (g.X.cI, 64, .inl c_pile'))])) : ∀ (n : Nat) (x1 : Int32) (x3 : Int32) (x4 : Int32) (c_s : Nat → Int32) (c_errors : Nat → Int32) (c_named : Nat → Int32) (c_pile : Nat → Int32), wp_X7_loose_b23 Q n x1 x3 x4 c_s c_errors c_named c_pile → ST g 0 0 23 [(0, .ref q_t), (1, .int x1), (3, .int x3), (4, .int x4)] [] [(q_t, .inr (7, [.ref q_t_s, .ref q_t_k, .ref q_t_laid, .int c_images, .ref q_t_errors, .int c_at, .int c_open, .int c_steps, .int c_use, .ref q_t_step, .ref q_t_named, .ref q_t_pile, .ref q_t_sums1, .ref q_t_parts1, .int c_traced, .ref q_t_trace, .int c_speaks, .int c_isParted, .ref q_t_bits, .ref q_t_sizes, .ref q_t_number, .ref q_t_aside])), (q_t_s, .inl (g.X.cI, 476, .inl c_s)), (q_t_errors, .inl (g.X.cI, 7, .inl c_errors)), (q_t_named, .inl (g.X.cI, 128, .inl c_named)), (q_t_pile, .inl (g.X.cI, 64, .inl c_pile))] := by
  intro n
  induction n with
  | zero => intro x1 x3 x4 c_s c_errors c_named c_pile h; exact False.elim h
  | succ n hK23 =>
    intro x1 x3 x4 c_s c_errors c_named c_pile h
    unfold wp_X7_loose_b23 at h
    refine st_iload G 25 rfl 3 rfl dX7_loose_23 ?_
    refine st_iload_n G 26 rfl 1 rfl dX7_loose_25 rfl ?_
    refine st_icmp_ge G 46 29 rfl dX7_loose_26 rfl (fun c => ?_) (fun c => ?_)
    · have h := h.1 c
      refine st_iload_n G 47 rfl 2 rfl dX7_loose_46 rfl ?_
      exact R _ _ _ _ dX7_loose_47 (Nat.le_of_ble_eq_true rfl) ⟨_, _, _, _, h, rfl⟩
    have h := h.2 c
    refine st_iload_n G 30 rfl 2 rfl dX7_loose_29 rfl ?_
    refine st_aload_n G 31 rfl 0 rfl dX7_loose_30 rfl ?_
    refine st_cVi G lk_X7_204 (c_X7_steals g.l g.D g.X q_t q_t_s q_t_k q_t_laid q_t_errors q_t_step q_t_named q_t_pile q_t_sums1 q_t_parts1 q_t_trace q_t_bits q_t_sizes q_t_number q_t_aside c_images c_at c_open c_steps c_use c_traced c_speaks c_isParted c_s _ h) ⟨rfl, rfl, ⟨Nat.le_of_ble_eq_true rfl, Nat.le_of_ble_eq_true rfl⟩, Nat.zero_le _, Nat.zero_le _⟩ 34 rfl [0, 1] rfl (by decide) 0 7 rfl rfl rfl (Nat.le_of_ble_eq_true rfl) rfl dX7_loose_31 (fun r_31 w hq => ?_)
    obtain ⟨c_s_31, h, rfl⟩ := hq
    refine st_wp (ws' := [(q_t, .inr (7, [.ref q_t_s, .ref q_t_k, .ref q_t_laid, .int c_images, .ref q_t_errors, .int c_at, .int c_open, .int c_steps, .int c_use, .ref q_t_step, .ref q_t_named, .ref q_t_pile, .ref q_t_sums1, .ref q_t_parts1, .int c_traced, .ref q_t_trace, .int c_speaks, .int c_isParted, .ref q_t_bits, .ref q_t_sizes, .ref q_t_number, .ref q_t_aside])), (q_t_s, .inl (g.X.cI, 476, .inl c_s_31)), (q_t_errors, .inl (g.X.cI, 7, .inl c_errors)), (q_t_named, .inl (g.X.cI, 128, .inl c_named)), (q_t_pile, .inl (g.X.cI, 64, .inl c_pile))]) 5 [2, 3, 4] (by decide) rfl rfl (by rfl) [(q_t_errors, .inl (g.X.cI, 7, .inl c_errors)), (q_t_named, .inl (g.X.cI, 128, .inl c_named)), (q_t_pile, .inl (g.X.cI, 64, .inl c_pile))] (by rfl) rfl ?_
    refine st_iadd G 35 rfl dX7_loose_34 ?_
    refine st_topi (fun x3_35 ex3_35 => ?_)
    have h := h x3_35 ex3_35
    refine st_istore_n G 36 rfl [(3, .int x3_35), (0, .ref q_t), (1, .int x1), (4, .int x4)] dX7_loose_35 rfl (by decide) rfl ?_
    refine st_aload_n G 37 rfl 1 rfl dX7_loose_36 rfl ?_
    refine st_cVv G lk_X7_198 (c_X7_aYear g.l g.D g.X q_t q_t_s q_t_k q_t_laid q_t_errors q_t_step q_t_named q_t_pile q_t_sums1 q_t_parts1 q_t_trace q_t_bits q_t_sizes q_t_number q_t_aside c_images c_at c_open c_steps c_use c_traced c_speaks c_isParted c_s_31 c_named c_pile _ h) ⟨rfl, rfl, ⟨Nat.le_of_ble_eq_true rfl, Nat.le_of_ble_eq_true rfl⟩, Nat.zero_le _, Nat.zero_le _⟩ 40 rfl [0, 1, 3, 4] rfl (by decide) 0 7 rfl rfl rfl (Nat.le_of_ble_eq_true rfl) rfl dX7_loose_37 (fun w hq => ?_)
    obtain ⟨c_s_37, c_named_37, c_pile_37, h, rfl⟩ := hq
    refine st_wp (ws' := [(q_t, .inr (7, [.ref q_t_s, .ref q_t_k, .ref q_t_laid, .int c_images, .ref q_t_errors, .int c_at, .int c_open, .int c_steps, .int c_use, .ref q_t_step, .ref q_t_named, .ref q_t_pile, .ref q_t_sums1, .ref q_t_parts1, .int c_traced, .ref q_t_trace, .int c_speaks, .int c_isParted, .ref q_t_bits, .ref q_t_sizes, .ref q_t_number, .ref q_t_aside])), (q_t_s, .inl (g.X.cI, 476, .inl c_s_37)), (q_t_errors, .inl (g.X.cI, 7, .inl c_errors)), (q_t_named, .inl (g.X.cI, 128, .inl c_named_37)), (q_t_pile, .inl (g.X.cI, 64, .inl c_pile_37))]) 5 [2] (by decide) rfl rfl (by rfl) [(q_t_errors, .inl (g.X.cI, 7, .inl c_errors))] (by rfl) rfl ?_
    obtain ⟨x4_40, ex4_40⟩ : ∃ y : Int32, y = (x4 + (1 : Int32)) := ⟨_, rfl⟩
    have h := h x4_40 ex4_40
    refine st_iinc G 43 rfl [(4, .int x4_40), (3, .int x3_35), (0, .ref q_t), (1, .int x1)] x4_40 3 rfl (by rw [ex4_40]; rfl) dX7_loose_40 (by decide) rfl ?_
    refine st_goto G 23 dX7_loose_43 rfl ?_
    refine st_L (L' := [(0, .ref q_t), (1, .int x1), (3, .int x3_35), (4, .int x4_40)]) [2, 3, 1, 0] rfl ?_
    exact hK23 _ _ _ _ _ _ _ h
set_option maxRecDepth 100000 in
set_option maxHeartbeats 4000000 in
theorem b_X7_loose_e {g : GT} (G : GOOD g RX7 cX7_loose 5 rm_X7_loose) {q_t q_t_s q_t_k q_t_laid q_t_errors q_t_step q_t_named q_t_pile q_t_sums1 q_t_parts1 q_t_trace q_t_bits q_t_sizes q_t_number q_t_aside : Nat} {c_images : Int32} {c_at : Int32} {c_open : Int32} {c_steps : Int32} {c_use : Int32} {c_traced : Int32} {c_speaks : Int32} {c_isParted : Int32} {c_s : Nat → Int32} {c_errors : Nat → Int32} {c_named : Nat → Int32} {c_pile : Nat → Int32} {x1 : Int32} {Q : Int32 → (Nat → Int32) → (Nat → Int32) → (Nat → Int32) → (Nat → Int32) → Prop} (R : RETi g cX7_loose 5 (fun (r : Int32) w => ∃ (c_s' : Nat → Int32) (c_errors' : Nat → Int32) (c_named' : Nat → Int32) (c_pile' : Nat → Int32), Q r c_s' c_errors' c_named' c_pile' ∧ w = [(q_t, .inr (7, [.ref q_t_s, .ref q_t_k, .ref q_t_laid, .int c_images, .ref q_t_errors, .int c_at, .int c_open, .int c_steps, .int c_use, .ref q_t_step, .ref q_t_named, .ref q_t_pile, .ref q_t_sums1, .ref q_t_parts1, .int c_traced, .ref q_t_trace, .int c_speaks, .int c_isParted, .ref q_t_bits, .ref q_t_sizes, .ref q_t_number, .ref q_t_aside])), (q_t_s, .inl (g.X.cI, 476, .inl c_s')), (q_t_errors, .inl (g.X.cI, 7, .inl c_errors')), (q_t_named, .inl (g.X.cI, 128, .inl c_named')), (q_t_pile, .inl (g.X.cI, 64, .inl c_pile'))])) (h : wp_X7_loose x1 c_s c_errors c_named c_pile Q) : ST g 0 0 0 [(0, .ref q_t), (1, .int x1)] [] [(q_t, .inr (7, [.ref q_t_s, .ref q_t_k, .ref q_t_laid, .int c_images, .ref q_t_errors, .int c_at, .int c_open, .int c_steps, .int c_use, .ref q_t_step, .ref q_t_named, .ref q_t_pile, .ref q_t_sums1, .ref q_t_parts1, .int c_traced, .ref q_t_trace, .int c_speaks, .int c_isParted, .ref q_t_bits, .ref q_t_sizes, .ref q_t_number, .ref q_t_aside])), (q_t_s, .inl (g.X.cI, 476, .inl c_s)), (q_t_errors, .inl (g.X.cI, 7, .inl c_errors)), (q_t_named, .inl (g.X.cI, 128, .inl c_named)), (q_t_pile, .inl (g.X.cI, 64, .inl c_pile))] := by
  unfold wp_X7_loose at h
  refine st_aload_n G 1 rfl 0 rfl dX7_loose_0 rfl ?_
  refine st_iload_n G 2 rfl 1 rfl dX7_loose_1 rfl ?_
  refine st_bipush G 4 rfl (20 : Int32) (by decide) dX7_loose_2 ?_
  refine st_cVio G lk_X7_195 (c_X7_whyNot g.l g.D g.X q_t q_t_s q_t_k q_t_laid q_t_errors q_t_step q_t_named q_t_pile q_t_sums1 q_t_parts1 q_t_trace q_t_bits q_t_sizes q_t_number q_t_aside c_images c_at c_open c_steps c_use c_traced c_speaks c_isParted c_s x1 (20 : Int32) _ h) ⟨rfl, rfl, ⟨Nat.le_of_ble_eq_true rfl, Nat.le_of_ble_eq_true rfl⟩, Nat.zero_le _, Nat.zero_le _⟩ 7 rfl [0, 1] rfl (by decide) 0 7 rfl rfl rfl (Nat.le_of_ble_eq_true rfl) rfl dX7_loose_4 (fun r_4 h => ?_)
  refine st_istore_n G 8 rfl [(2, .int r_4), (0, .ref q_t), (1, .int x1)] dX7_loose_7 rfl (by decide) rfl ?_
  refine st_iload_n G 9 rfl 0 rfl dX7_loose_8 rfl ?_
  refine st_if_eq G 18 12 rfl dX7_loose_9 rfl (fun c => ?_) (fun c => ?_)
  · have h := h.1 c
    refine st_iconst G 19 rfl (0 : Int32) (by decide) dX7_loose_18 ?_
    refine st_istore_n G 20 rfl [(3, .int (0 : Int32)), (2, .int r_4), (0, .ref q_t), (1, .int x1)] dX7_loose_19 rfl (by decide) rfl ?_
    refine st_iconst G 21 rfl (0 : Int32) (by decide) dX7_loose_20 ?_
    refine st_istore G 23 rfl [(4, .int (0 : Int32)), (3, .int (0 : Int32)), (2, .int r_4), (0, .ref q_t), (1, .int x1)] dX7_loose_21 (by decide) rfl ?_
    refine st_L (L' := [(0, .ref q_t), (1, .int x1), (3, .int (0 : Int32)), (4, .int (0 : Int32))]) [3, 4, 1, 0] rfl ?_
    obtain ⟨n, h⟩ := h
    exact b_X7_loose_23 G R n _ _ _ _ _ _ _ h
  have h := h.2 c
  refine st_aload_n G 13 rfl 1 rfl dX7_loose_12 rfl ?_
  refine st_iload_n G 14 rfl 0 rfl dX7_loose_13 rfl ?_
  refine st_cVi G lk_X7_65 (c_X7_error g.l g.D g.X q_t q_t_s q_t_k q_t_laid q_t_errors q_t_step q_t_named q_t_pile q_t_sums1 q_t_parts1 q_t_trace q_t_bits q_t_sizes q_t_number q_t_aside c_images c_at c_open c_steps c_use c_traced c_speaks c_isParted c_errors r_4 _ h) ⟨rfl, rfl, ⟨Nat.le_of_ble_eq_true rfl, Nat.le_of_ble_eq_true rfl⟩, Nat.zero_le _, Nat.zero_le _⟩ 17 rfl [0, 2] rfl (by decide) 0 7 rfl rfl rfl (Nat.le_of_ble_eq_true rfl) rfl dX7_loose_14 (fun r_14 w hq => ?_)
  obtain ⟨c_errors_14, h, rfl⟩ := hq
  refine st_wp (ws' := [(q_t, .inr (7, [.ref q_t_s, .ref q_t_k, .ref q_t_laid, .int c_images, .ref q_t_errors, .int c_at, .int c_open, .int c_steps, .int c_use, .ref q_t_step, .ref q_t_named, .ref q_t_pile, .ref q_t_sums1, .ref q_t_parts1, .int c_traced, .ref q_t_trace, .int c_speaks, .int c_isParted, .ref q_t_bits, .ref q_t_sizes, .ref q_t_number, .ref q_t_aside])), (q_t_s, .inl (g.X.cI, 476, .inl c_s)), (q_t_errors, .inl (g.X.cI, 7, .inl c_errors_14)), (q_t_named, .inl (g.X.cI, 128, .inl c_named)), (q_t_pile, .inl (g.X.cI, 64, .inl c_pile))]) 5 [1, 3, 4] (by decide) rfl rfl (by rfl) [(q_t_s, .inl (g.X.cI, 476, .inl c_s)), (q_t_named, .inl (g.X.cI, 128, .inl c_named)), (q_t_pile, .inl (g.X.cI, 64, .inl c_pile))] (by rfl) rfl ?_
  exact R _ _ _ _ dX7_loose_17 (Nat.le_of_ble_eq_true rfl) ⟨_, _, _, _, h, rfl⟩
set_option maxRecDepth 100000 in
set_option maxHeartbeats 4000000 in
theorem c_X7_loose (l : Launch) (D : va_G) (X : XT) (q_t q_t_s q_t_k q_t_laid q_t_errors q_t_step q_t_named q_t_pile q_t_sums1 q_t_parts1 q_t_trace q_t_bits q_t_sizes q_t_number q_t_aside : Nat) (c_images : Int32) (c_at : Int32) (c_open : Int32) (c_steps : Int32) (c_use : Int32) (c_traced : Int32) (c_speaks : Int32) (c_isParted : Int32) (c_s : Nat → Int32) (c_errors : Nat → Int32) (c_named : Nat → Int32) (c_pile : Nat → Int32) (x1 : Int32) (Q : Int32 → (Nat → Int32) → (Nat → Int32) → (Nat → Int32) → (Nat → Int32) → Prop) (h : wp_X7_loose x1 c_s c_errors c_named c_pile Q) : CTi l D X yX7_loose cX7_loose 5 .int rm_X7_loose [.ref q_t, .int x1] [(q_t, .inr (7, [.ref q_t_s, .ref q_t_k, .ref q_t_laid, .int c_images, .ref q_t_errors, .int c_at, .int c_open, .int c_steps, .int c_use, .ref q_t_step, .ref q_t_named, .ref q_t_pile, .ref q_t_sums1, .ref q_t_parts1, .int c_traced, .ref q_t_trace, .int c_speaks, .int c_isParted, .ref q_t_bits, .ref q_t_sizes, .ref q_t_number, .ref q_t_aside])), (q_t_s, .inl (X.cI, 476, .inl c_s)), (q_t_errors, .inl (X.cI, 7, .inl c_errors)), (q_t_named, .inl (X.cI, 128, .inl c_named)), (q_t_pile, .inl (X.cI, 64, .inl c_pile))] (fun (r : Int32) w => ∃ (c_s' : Nat → Int32) (c_errors' : Nat → Int32) (c_named' : Nat → Int32) (c_pile' : Nat → Int32), Q r c_s' c_errors' c_named' c_pile' ∧ w = [(q_t, .inr (7, [.ref q_t_s, .ref q_t_k, .ref q_t_laid, .int c_images, .ref q_t_errors, .int c_at, .int c_open, .int c_steps, .int c_use, .ref q_t_step, .ref q_t_named, .ref q_t_pile, .ref q_t_sums1, .ref q_t_parts1, .int c_traced, .ref q_t_trace, .int c_speaks, .int c_isParted, .ref q_t_bits, .ref q_t_sizes, .ref q_t_number, .ref q_t_aside])), (q_t_s, .inl (X.cI, 476, .inl c_s')), (q_t_errors, .inl (X.cI, 7, .inl c_errors')), (q_t_named, .inl (X.cI, 128, .inl c_named')), (q_t_pile, .inl (X.cI, 64, .inl c_pile'))]) :=
  ct_i (by decide) (Nat.le_of_ble_eq_true rfl) (fun g hl hD hX G R => by subst hl; subst hD; subst hX; exact b_X7_loose_e G R h)
set_option maxRecDepth 100000 in
set_option maxHeartbeats 4000000 in
theorem b_X7_year_e {g : GT} (G : GOOD g RX7 cX7_year 2 rm_X7_year) {q_t q_t_s q_t_k q_t_laid q_t_errors q_t_step q_t_named q_t_pile q_t_sums1 q_t_parts1 q_t_trace q_t_bits q_t_sizes q_t_number q_t_aside : Nat} {c_images : Int32} {c_at : Int32} {c_open : Int32} {c_steps : Int32} {c_use : Int32} {c_traced : Int32} {c_speaks : Int32} {c_isParted : Int32} {c_s : Nat → Int32} {c_errors : Nat → Int32} {x1 : Int32} {Q : Int32 → (Nat → Int32) → (Nat → Int32) → Prop} (R : RETi g cX7_year 3 (fun (r : Int32) w => ∃ (c_s' : Nat → Int32) (c_errors' : Nat → Int32), Q r c_s' c_errors' ∧ w = [(q_t, .inr (7, [.ref q_t_s, .ref q_t_k, .ref q_t_laid, .int c_images, .ref q_t_errors, .int c_at, .int c_open, .int c_steps, .int c_use, .ref q_t_step, .ref q_t_named, .ref q_t_pile, .ref q_t_sums1, .ref q_t_parts1, .int c_traced, .ref q_t_trace, .int c_speaks, .int c_isParted, .ref q_t_bits, .ref q_t_sizes, .ref q_t_number, .ref q_t_aside])), (q_t_s, .inl (g.X.cI, 476, .inl c_s')), (q_t_errors, .inl (g.X.cI, 7, .inl c_errors'))])) (h : wp_X7_year x1 c_s c_errors Q) : ST g 0 0 0 [(0, .ref q_t), (1, .int x1)] [] [(q_t, .inr (7, [.ref q_t_s, .ref q_t_k, .ref q_t_laid, .int c_images, .ref q_t_errors, .int c_at, .int c_open, .int c_steps, .int c_use, .ref q_t_step, .ref q_t_named, .ref q_t_pile, .ref q_t_sums1, .ref q_t_parts1, .int c_traced, .ref q_t_trace, .int c_speaks, .int c_isParted, .ref q_t_bits, .ref q_t_sizes, .ref q_t_number, .ref q_t_aside])), (q_t_s, .inl (g.X.cI, 476, .inl c_s)), (q_t_errors, .inl (g.X.cI, 7, .inl c_errors))] := by
  unfold wp_X7_year at h
  refine st_iload_n G 1 rfl 1 rfl dX7_year_0 rfl ?_
  refine st_iconst G 2 rfl (0 : Int32) (by decide) dX7_year_1 ?_
  refine st_sipush G 5 rfl (999 : Int32) (by decide) dX7_year_2 ?_
  refine st_cSio G lk_X7_53 (c_X7_in g.l g.D g.X x1 (0 : Int32) (999 : Int32) _ h) ⟨rfl, rfl, ⟨Nat.le_of_ble_eq_true rfl, Nat.le_of_ble_eq_true rfl⟩, Nat.zero_le _, Nat.zero_le _⟩ 8 rfl [] rfl (by decide) rfl (Nat.le_of_ble_eq_true rfl) rfl dX7_year_5 (fun r_5 h => ?_)
  refine st_if_eq G 20 11 rfl dX7_year_8 rfl (fun c => ?_) (fun c => ?_)
  · have h := h.1 c
    refine st_aload_n G 21 rfl 0 rfl dX7_year_20 rfl ?_
    refine st_iconst G 22 rfl (1 : Int32) (by decide) dX7_year_21 ?_
    refine st_cVi G lk_X7_65 (c_X7_error g.l g.D g.X q_t q_t_s q_t_k q_t_laid q_t_errors q_t_step q_t_named q_t_pile q_t_sums1 q_t_parts1 q_t_trace q_t_bits q_t_sizes q_t_number q_t_aside c_images c_at c_open c_steps c_use c_traced c_speaks c_isParted c_errors (1 : Int32) _ h) ⟨rfl, rfl, ⟨Nat.le_of_ble_eq_true rfl, Nat.le_of_ble_eq_true rfl⟩, Nat.zero_le _, Nat.zero_le _⟩ 25 rfl [0, 2] rfl (by decide) 0 7 rfl rfl rfl (Nat.le_of_ble_eq_true rfl) rfl dX7_year_22 (fun r_22 w hq => ?_)
    obtain ⟨c_errors_22, h, rfl⟩ := hq
    refine st_wp (ws' := [(q_t, .inr (7, [.ref q_t_s, .ref q_t_k, .ref q_t_laid, .int c_images, .ref q_t_errors, .int c_at, .int c_open, .int c_steps, .int c_use, .ref q_t_step, .ref q_t_named, .ref q_t_pile, .ref q_t_sums1, .ref q_t_parts1, .int c_traced, .ref q_t_trace, .int c_speaks, .int c_isParted, .ref q_t_bits, .ref q_t_sizes, .ref q_t_number, .ref q_t_aside])), (q_t_s, .inl (g.X.cI, 476, .inl c_s)), (q_t_errors, .inl (g.X.cI, 7, .inl c_errors_22))]) 3 [1] (by decide) rfl rfl (by rfl) [(q_t_s, .inl (g.X.cI, 476, .inl c_s))] (by rfl) rfl ?_
    exact R _ _ _ _ dX7_year_25 (Nat.le_of_ble_eq_true rfl) ⟨_, _, h, rfl⟩
  have h := h.2 c
  refine st_aload_n G 12 rfl 0 rfl dX7_year_11 rfl ?_
  refine st_iconst G 13 rfl (0 : Int32) (by decide) dX7_year_12 ?_
  refine st_iload_n G 14 rfl 1 rfl dX7_year_13 rfl ?_
  refine st_cVi G lk_X7_172 (c_X7_change1 g.l g.D g.X q_t q_t_s q_t_k q_t_laid q_t_errors q_t_step q_t_named q_t_pile q_t_sums1 q_t_parts1 q_t_trace q_t_bits q_t_sizes q_t_number q_t_aside c_images c_at c_open c_steps c_use c_traced c_speaks c_isParted c_s (0 : Int32) x1 _ h) ⟨rfl, rfl, ⟨Nat.le_of_ble_eq_true rfl, Nat.le_of_ble_eq_true rfl⟩, Nat.zero_le _, Nat.zero_le _⟩ 17 rfl [0, 1] rfl (by decide) 0 7 rfl rfl rfl (Nat.le_of_ble_eq_true rfl) rfl dX7_year_14 (fun r_14 w hq => ?_)
  obtain ⟨c_s_14, h, rfl⟩ := hq
  refine st_wp (ws' := [(q_t, .inr (7, [.ref q_t_s, .ref q_t_k, .ref q_t_laid, .int c_images, .ref q_t_errors, .int c_at, .int c_open, .int c_steps, .int c_use, .ref q_t_step, .ref q_t_named, .ref q_t_pile, .ref q_t_sums1, .ref q_t_parts1, .int c_traced, .ref q_t_trace, .int c_speaks, .int c_isParted, .ref q_t_bits, .ref q_t_sizes, .ref q_t_number, .ref q_t_aside])), (q_t_s, .inl (g.X.cI, 476, .inl c_s_14)), (q_t_errors, .inl (g.X.cI, 7, .inl c_errors))]) 3 [2] (by decide) rfl rfl (by rfl) [(q_t_errors, .inl (g.X.cI, 7, .inl c_errors))] (by rfl) rfl ?_
  refine st_goto G 25 dX7_year_17 rfl ?_
  exact R _ _ _ _ dX7_year_25 (Nat.le_of_ble_eq_true rfl) ⟨_, _, h, rfl⟩
set_option maxRecDepth 100000 in
set_option maxHeartbeats 4000000 in
theorem c_X7_year (l : Launch) (D : va_G) (X : XT) (q_t q_t_s q_t_k q_t_laid q_t_errors q_t_step q_t_named q_t_pile q_t_sums1 q_t_parts1 q_t_trace q_t_bits q_t_sizes q_t_number q_t_aside : Nat) (c_images : Int32) (c_at : Int32) (c_open : Int32) (c_steps : Int32) (c_use : Int32) (c_traced : Int32) (c_speaks : Int32) (c_isParted : Int32) (c_s : Nat → Int32) (c_errors : Nat → Int32) (x1 : Int32) (Q : Int32 → (Nat → Int32) → (Nat → Int32) → Prop) (h : wp_X7_year x1 c_s c_errors Q) : CTi l D X yX7_year cX7_year 2 .int rm_X7_year [.ref q_t, .int x1] [(q_t, .inr (7, [.ref q_t_s, .ref q_t_k, .ref q_t_laid, .int c_images, .ref q_t_errors, .int c_at, .int c_open, .int c_steps, .int c_use, .ref q_t_step, .ref q_t_named, .ref q_t_pile, .ref q_t_sums1, .ref q_t_parts1, .int c_traced, .ref q_t_trace, .int c_speaks, .int c_isParted, .ref q_t_bits, .ref q_t_sizes, .ref q_t_number, .ref q_t_aside])), (q_t_s, .inl (X.cI, 476, .inl c_s)), (q_t_errors, .inl (X.cI, 7, .inl c_errors))] (fun (r : Int32) w => ∃ (c_s' : Nat → Int32) (c_errors' : Nat → Int32), Q r c_s' c_errors' ∧ w = [(q_t, .inr (7, [.ref q_t_s, .ref q_t_k, .ref q_t_laid, .int c_images, .ref q_t_errors, .int c_at, .int c_open, .int c_steps, .int c_use, .ref q_t_step, .ref q_t_named, .ref q_t_pile, .ref q_t_sums1, .ref q_t_parts1, .int c_traced, .ref q_t_trace, .int c_speaks, .int c_isParted, .ref q_t_bits, .ref q_t_sizes, .ref q_t_number, .ref q_t_aside])), (q_t_s, .inl (X.cI, 476, .inl c_s')), (q_t_errors, .inl (X.cI, 7, .inl c_errors'))]) :=
  ct_i (by decide) (Nat.le_of_ble_eq_true rfl) (fun g hl hD hX G R => by subst hl; subst hD; subst hX; exact b_X7_year_e G R h)
set_option maxRecDepth 100000 in
set_option maxHeartbeats 4000000 in
theorem b_X7_seed_e {g : GT} (G : GOOD g RX7 cX7_seed 2 rm_X7_seed) {q_t q_t_s q_t_k q_t_laid q_t_errors q_t_step q_t_named q_t_pile q_t_sums1 q_t_parts1 q_t_trace q_t_bits q_t_sizes q_t_number q_t_aside : Nat} {c_images : Int32} {c_at : Int32} {c_open : Int32} {c_steps : Int32} {c_use : Int32} {c_traced : Int32} {c_speaks : Int32} {c_isParted : Int32} {c_s : Nat → Int32} {x1 : Int32} {Q : Int32 → (Nat → Int32) → Prop} (R : RETi g cX7_seed 2 (fun (r : Int32) w => ∃ (c_s' : Nat → Int32), Q r c_s' ∧ w = [(q_t, .inr (7, [.ref q_t_s, .ref q_t_k, .ref q_t_laid, .int c_images, .ref q_t_errors, .int c_at, .int c_open, .int c_steps, .int c_use, .ref q_t_step, .ref q_t_named, .ref q_t_pile, .ref q_t_sums1, .ref q_t_parts1, .int c_traced, .ref q_t_trace, .int c_speaks, .int c_isParted, .ref q_t_bits, .ref q_t_sizes, .ref q_t_number, .ref q_t_aside])), (q_t_s, .inl (g.X.cI, 476, .inl c_s'))])) (h : wp_X7_seed x1 c_s Q) : ST g 0 0 0 [(0, .ref q_t), (1, .int x1)] [] [(q_t, .inr (7, [.ref q_t_s, .ref q_t_k, .ref q_t_laid, .int c_images, .ref q_t_errors, .int c_at, .int c_open, .int c_steps, .int c_use, .ref q_t_step, .ref q_t_named, .ref q_t_pile, .ref q_t_sums1, .ref q_t_parts1, .int c_traced, .ref q_t_trace, .int c_speaks, .int c_isParted, .ref q_t_bits, .ref q_t_sizes, .ref q_t_number, .ref q_t_aside])), (q_t_s, .inl (g.X.cI, 476, .inl c_s))] := by
  unfold wp_X7_seed at h
  refine st_aload_n G 1 rfl 0 rfl dX7_seed_0 rfl ?_
  refine st_iconst G 2 rfl (1 : Int32) (by decide) dX7_seed_1 ?_
  refine st_iload_n G 3 rfl 1 rfl dX7_seed_2 rfl ?_
  refine st_cVi G lk_X7_172 (c_X7_change1 g.l g.D g.X q_t q_t_s q_t_k q_t_laid q_t_errors q_t_step q_t_named q_t_pile q_t_sums1 q_t_parts1 q_t_trace q_t_bits q_t_sizes q_t_number q_t_aside c_images c_at c_open c_steps c_use c_traced c_speaks c_isParted c_s (1 : Int32) x1 _ h) ⟨rfl, rfl, ⟨Nat.le_of_ble_eq_true rfl, Nat.le_of_ble_eq_true rfl⟩, Nat.zero_le _, Nat.zero_le _⟩ 6 rfl [0, 1] rfl (by decide) 0 7 rfl rfl rfl (Nat.le_of_ble_eq_true rfl) rfl dX7_seed_3 (fun r_3 w hq => ?_)
  obtain ⟨c_s_3, h, rfl⟩ := hq
  refine st_wp (ws' := [(q_t, .inr (7, [.ref q_t_s, .ref q_t_k, .ref q_t_laid, .int c_images, .ref q_t_errors, .int c_at, .int c_open, .int c_steps, .int c_use, .ref q_t_step, .ref q_t_named, .ref q_t_pile, .ref q_t_sums1, .ref q_t_parts1, .int c_traced, .ref q_t_trace, .int c_speaks, .int c_isParted, .ref q_t_bits, .ref q_t_sizes, .ref q_t_number, .ref q_t_aside])), (q_t_s, .inl (g.X.cI, 476, .inl c_s_3))]) 2 [] (by decide) rfl rfl (by rfl) [] (by rfl) rfl ?_
  exact R _ _ _ _ dX7_seed_6 (Nat.le_of_ble_eq_true rfl) ⟨_, h, rfl⟩
set_option maxRecDepth 100000 in
set_option maxHeartbeats 4000000 in
theorem c_X7_seed (l : Launch) (D : va_G) (X : XT) (q_t q_t_s q_t_k q_t_laid q_t_errors q_t_step q_t_named q_t_pile q_t_sums1 q_t_parts1 q_t_trace q_t_bits q_t_sizes q_t_number q_t_aside : Nat) (c_images : Int32) (c_at : Int32) (c_open : Int32) (c_steps : Int32) (c_use : Int32) (c_traced : Int32) (c_speaks : Int32) (c_isParted : Int32) (c_s : Nat → Int32) (x1 : Int32) (Q : Int32 → (Nat → Int32) → Prop) (h : wp_X7_seed x1 c_s Q) : CTi l D X yX7_seed cX7_seed 2 .int rm_X7_seed [.ref q_t, .int x1] [(q_t, .inr (7, [.ref q_t_s, .ref q_t_k, .ref q_t_laid, .int c_images, .ref q_t_errors, .int c_at, .int c_open, .int c_steps, .int c_use, .ref q_t_step, .ref q_t_named, .ref q_t_pile, .ref q_t_sums1, .ref q_t_parts1, .int c_traced, .ref q_t_trace, .int c_speaks, .int c_isParted, .ref q_t_bits, .ref q_t_sizes, .ref q_t_number, .ref q_t_aside])), (q_t_s, .inl (X.cI, 476, .inl c_s))] (fun (r : Int32) w => ∃ (c_s' : Nat → Int32), Q r c_s' ∧ w = [(q_t, .inr (7, [.ref q_t_s, .ref q_t_k, .ref q_t_laid, .int c_images, .ref q_t_errors, .int c_at, .int c_open, .int c_steps, .int c_use, .ref q_t_step, .ref q_t_named, .ref q_t_pile, .ref q_t_sums1, .ref q_t_parts1, .int c_traced, .ref q_t_trace, .int c_speaks, .int c_isParted, .ref q_t_bits, .ref q_t_sizes, .ref q_t_number, .ref q_t_aside])), (q_t_s, .inl (X.cI, 476, .inl c_s'))]) :=
  ct_i (by decide) (Nat.le_of_ble_eq_true rfl) (fun g hl hD hX G R => by subst hl; subst hD; subst hX; exact b_X7_seed_e G R h)
set_option maxRecDepth 100000 in
set_option maxHeartbeats 4000000 in
theorem b_X7_then_38 {g : GT} (G : GOOD g RX7 cX7_then 5 rm_X7_then) {q_t q_t_s q_t_k q_t_laid q_t_errors q_t_step q_t_named q_t_pile q_t_sums1 q_t_parts1 q_t_trace q_t_bits q_t_sizes q_t_number q_t_aside : Nat} {c_images : Int32} {c_at : Int32} {c_open : Int32} {c_steps : Int32} {c_use : Int32} {c_traced : Int32} {c_speaks : Int32} {c_isParted : Int32} {Q : Int32 → (Nat → Int32) → (Nat → Int32) → (Nat → Int32) → (Nat → Int32) → (Nat → Int32) → Prop} (R : RETi g cX7_then 6 (fun (r : Int32) w => ∃ (c_s' : Nat → Int32) (c_laid' : Nat → Int32) (c_errors' : Nat → Int32) (c_named' : Nat → Int32) (c_pile' : Nat → Int32), Q r c_s' c_laid' c_errors' c_named' c_pile' ∧ w = [(q_t, .inr (7, [.ref q_t_s, .ref q_t_k, .ref q_t_laid, .int c_images, .ref q_t_errors, .int c_at, .int c_open, .int c_steps, .int c_use, .ref q_t_step, .ref q_t_named, .ref q_t_pile, .ref q_t_sums1, .ref q_t_parts1, .int c_traced, .ref q_t_trace, .int c_speaks, .int c_isParted, .ref q_t_bits, .ref q_t_sizes, .ref q_t_number, .ref q_t_aside])), (q_t_s, .inl (g.X.cI, 476, .inl c_s')), (q_t_laid, .inl (g.X.cI, 142, .inl c_laid')), (q_t_errors, .inl (g.X.cI, 7, .inl c_errors')), (q_t_named, .inl (g.X.cI, 128, .inl c_named')), (q_t_pile, .inl (g.X.cI, 64, .inl c_pile'))])) : ∀ (n : Nat) (x1 : Int32) (x2 : Int32) (x3 : Int32) (x4 : Int32) (c_s : Nat → Int32) (c_laid : Nat → Int32) (c_errors : Nat → Int32) (c_named : Nat → Int32) (c_pile : Nat → Int32), wp_X7_then_b38 Q n x1 x2 x3 x4 c_s c_laid c_errors c_named c_pile → ST g 0 0 38 [(0, .ref q_t), (1, .int x1), (2, .int x2), (3, .int x3), (4, .int x4)] [] [(q_t, .inr (7, [.ref q_t_s, .ref q_t_k, .ref q_t_laid, .int c_images, .ref q_t_errors, .int c_at, .int c_open, .int c_steps, .int c_use, .ref q_t_step, .ref q_t_named, .ref q_t_pile, .ref q_t_sums1, .ref q_t_parts1, .int c_traced, .ref q_t_trace, .int c_speaks, .int c_isParted, .ref q_t_bits, .ref q_t_sizes, .ref q_t_number, .ref q_t_aside])), (q_t_s, .inl (g.X.cI, 476, .inl c_s)), (q_t_laid, .inl (g.X.cI, 142, .inl c_laid)), (q_t_errors, .inl (g.X.cI, 7, .inl c_errors)), (q_t_named, .inl (g.X.cI, 128, .inl c_named)), (q_t_pile, .inl (g.X.cI, 64, .inl c_pile))] := by
  intro n
  induction n with
  | zero => intro x1 x2 x3 x4 c_s c_laid c_errors c_named c_pile h; exact False.elim h
  | succ n hK38 =>
    intro x1 x2 x3 x4 c_s c_laid c_errors c_named c_pile h
    unfold wp_X7_then_b38 at h
    refine st_iload G 40 rfl 4 rfl dX7_then_38 ?_
    refine st_iload_n G 41 rfl 3 rfl dX7_then_40 rfl ?_
    refine st_icmp_ge G 54 44 rfl dX7_then_41 rfl (fun c => ?_) (fun c => ?_)
    · have h := h.1 c
      refine st_aload_n G 55 rfl 0 rfl dX7_then_54 rfl ?_
      refine st_iload_n G 56 rfl 1 rfl dX7_then_55 rfl ?_
      refine st_iload_n G 57 rfl 2 rfl dX7_then_56 rfl ?_
      refine st_cVio G lk_X7_57 (c_X7_has g.l g.D g.X q_t q_t_s q_t_k q_t_laid q_t_errors q_t_step q_t_named q_t_pile q_t_sums1 q_t_parts1 q_t_trace q_t_bits q_t_sizes q_t_number q_t_aside c_images c_at c_open c_steps c_use c_traced c_speaks c_isParted c_s x1 x2 _ h) ⟨rfl, rfl, ⟨Nat.le_of_ble_eq_true rfl, Nat.le_of_ble_eq_true rfl⟩, Nat.zero_le _, Nat.zero_le _⟩ 60 rfl [0, 1] rfl (by decide) 0 7 rfl rfl rfl (Nat.le_of_ble_eq_true rfl) rfl dX7_then_57 (fun r_57 h => ?_)
      refine st_istore G 62 rfl [(4, .int r_57), (0, .ref q_t), (1, .int x1), (2, .int x2), (3, .int x3)] dX7_then_60 (by decide) rfl ?_
      refine st_aload_n G 63 rfl 1 rfl dX7_then_62 rfl ?_
      refine st_cVv G lk_X7_210 (c_X7_layBack g.l g.D g.X q_t q_t_s q_t_k q_t_laid q_t_errors q_t_step q_t_named q_t_pile q_t_sums1 q_t_parts1 q_t_trace q_t_bits q_t_sizes q_t_number q_t_aside c_images c_at c_open c_steps c_use c_traced c_speaks c_isParted c_s c_laid _ h) ⟨rfl, rfl, ⟨Nat.le_of_ble_eq_true rfl, Nat.le_of_ble_eq_true rfl⟩, Nat.zero_le _, Nat.zero_le _⟩ 66 rfl [0, 1, 2] rfl (by decide) 0 7 rfl rfl rfl (Nat.le_of_ble_eq_true rfl) rfl dX7_then_63 (fun w hq => ?_)
      obtain ⟨c_s_63, h, rfl⟩ := hq
      refine st_wp (ws' := [(q_t, .inr (7, [.ref q_t_s, .ref q_t_k, .ref q_t_laid, .int c_images, .ref q_t_errors, .int c_at, .int c_open, .int c_steps, .int c_use, .ref q_t_step, .ref q_t_named, .ref q_t_pile, .ref q_t_sums1, .ref q_t_parts1, .int c_traced, .ref q_t_trace, .int c_speaks, .int c_isParted, .ref q_t_bits, .ref q_t_sizes, .ref q_t_number, .ref q_t_aside])), (q_t_s, .inl (g.X.cI, 476, .inl c_s_63)), (q_t_laid, .inl (g.X.cI, 142, .inl c_laid)), (q_t_errors, .inl (g.X.cI, 7, .inl c_errors)), (q_t_named, .inl (g.X.cI, 128, .inl c_named)), (q_t_pile, .inl (g.X.cI, 64, .inl c_pile))]) 6 [3, 4, 5] (by decide) rfl rfl (by rfl) [(q_t_errors, .inl (g.X.cI, 7, .inl c_errors)), (q_t_named, .inl (g.X.cI, 128, .inl c_named)), (q_t_pile, .inl (g.X.cI, 64, .inl c_pile))] (by rfl) rfl ?_
      refine st_iload G 68 rfl 0 rfl dX7_then_66 ?_
      exact R _ _ _ _ dX7_then_68 (Nat.le_of_ble_eq_true rfl) ⟨_, _, _, _, _, h, rfl⟩
    have h := h.2 c
    refine st_aload_n G 45 rfl 0 rfl dX7_then_44 rfl ?_
    refine st_cVv G lk_X7_198 (c_X7_aYear g.l g.D g.X q_t q_t_s q_t_k q_t_laid q_t_errors q_t_step q_t_named q_t_pile q_t_sums1 q_t_parts1 q_t_trace q_t_bits q_t_sizes q_t_number q_t_aside c_images c_at c_open c_steps c_use c_traced c_speaks c_isParted c_s c_named c_pile _ h) ⟨rfl, rfl, ⟨Nat.le_of_ble_eq_true rfl, Nat.le_of_ble_eq_true rfl⟩, Nat.zero_le _, Nat.zero_le _⟩ 48 rfl [0, 1, 4, 5] rfl (by decide) 0 7 rfl rfl rfl (Nat.le_of_ble_eq_true rfl) rfl dX7_then_45 (fun w hq => ?_)
    obtain ⟨c_s_45, c_named_45, c_pile_45, h, rfl⟩ := hq
    refine st_wp (ws' := [(q_t, .inr (7, [.ref q_t_s, .ref q_t_k, .ref q_t_laid, .int c_images, .ref q_t_errors, .int c_at, .int c_open, .int c_steps, .int c_use, .ref q_t_step, .ref q_t_named, .ref q_t_pile, .ref q_t_sums1, .ref q_t_parts1, .int c_traced, .ref q_t_trace, .int c_speaks, .int c_isParted, .ref q_t_bits, .ref q_t_sizes, .ref q_t_number, .ref q_t_aside])), (q_t_s, .inl (g.X.cI, 476, .inl c_s_45)), (q_t_laid, .inl (g.X.cI, 142, .inl c_laid)), (q_t_errors, .inl (g.X.cI, 7, .inl c_errors)), (q_t_named, .inl (g.X.cI, 128, .inl c_named_45)), (q_t_pile, .inl (g.X.cI, 64, .inl c_pile_45))]) 6 [2, 3] (by decide) rfl rfl (by rfl) [(q_t_laid, .inl (g.X.cI, 142, .inl c_laid)), (q_t_errors, .inl (g.X.cI, 7, .inl c_errors))] (by rfl) rfl ?_
    obtain ⟨x4_48, ex4_48⟩ : ∃ y : Int32, y = (x4 + (1 : Int32)) := ⟨_, rfl⟩
    have h := h x4_48 ex4_48
    refine st_iinc G 51 rfl [(4, .int x4_48), (0, .ref q_t), (1, .int x1), (2, .int x2), (3, .int x3)] x4_48 4 rfl (by rw [ex4_48]; rfl) dX7_then_48 (by decide) rfl ?_
    refine st_goto G 38 dX7_then_51 rfl ?_
    refine st_L (L' := [(0, .ref q_t), (1, .int x1), (2, .int x2), (3, .int x3), (4, .int x4_48)]) [1, 2, 3, 4, 0] rfl ?_
    exact hK38 _ _ _ _ _ _ _ _ _ h
set_option maxRecDepth 100000 in
set_option maxHeartbeats 4000000 in
theorem b_X7_then_e {g : GT} (G : GOOD g RX7 cX7_then 5 rm_X7_then) {q_t q_t_s q_t_k q_t_laid q_t_errors q_t_step q_t_named q_t_pile q_t_sums1 q_t_parts1 q_t_trace q_t_bits q_t_sizes q_t_number q_t_aside : Nat} {c_images : Int32} {c_at : Int32} {c_open : Int32} {c_steps : Int32} {c_use : Int32} {c_traced : Int32} {c_speaks : Int32} {c_isParted : Int32} {c_s : Nat → Int32} {c_laid : Nat → Int32} {c_errors : Nat → Int32} {c_named : Nat → Int32} {c_pile : Nat → Int32} {x1 : Int32} {x2 : Int32} {x3 : Int32} {Q : Int32 → (Nat → Int32) → (Nat → Int32) → (Nat → Int32) → (Nat → Int32) → (Nat → Int32) → Prop} (R : RETi g cX7_then 6 (fun (r : Int32) w => ∃ (c_s' : Nat → Int32) (c_laid' : Nat → Int32) (c_errors' : Nat → Int32) (c_named' : Nat → Int32) (c_pile' : Nat → Int32), Q r c_s' c_laid' c_errors' c_named' c_pile' ∧ w = [(q_t, .inr (7, [.ref q_t_s, .ref q_t_k, .ref q_t_laid, .int c_images, .ref q_t_errors, .int c_at, .int c_open, .int c_steps, .int c_use, .ref q_t_step, .ref q_t_named, .ref q_t_pile, .ref q_t_sums1, .ref q_t_parts1, .int c_traced, .ref q_t_trace, .int c_speaks, .int c_isParted, .ref q_t_bits, .ref q_t_sizes, .ref q_t_number, .ref q_t_aside])), (q_t_s, .inl (g.X.cI, 476, .inl c_s')), (q_t_laid, .inl (g.X.cI, 142, .inl c_laid')), (q_t_errors, .inl (g.X.cI, 7, .inl c_errors')), (q_t_named, .inl (g.X.cI, 128, .inl c_named')), (q_t_pile, .inl (g.X.cI, 64, .inl c_pile'))])) (h : wp_X7_then x1 x2 x3 c_s c_laid c_errors c_named c_pile Q) : ST g 0 0 0 [(0, .ref q_t), (1, .int x1), (2, .int x2), (3, .int x3)] [] [(q_t, .inr (7, [.ref q_t_s, .ref q_t_k, .ref q_t_laid, .int c_images, .ref q_t_errors, .int c_at, .int c_open, .int c_steps, .int c_use, .ref q_t_step, .ref q_t_named, .ref q_t_pile, .ref q_t_sums1, .ref q_t_parts1, .int c_traced, .ref q_t_trace, .int c_speaks, .int c_isParted, .ref q_t_bits, .ref q_t_sizes, .ref q_t_number, .ref q_t_aside])), (q_t_s, .inl (g.X.cI, 476, .inl c_s)), (q_t_laid, .inl (g.X.cI, 142, .inl c_laid)), (q_t_errors, .inl (g.X.cI, 7, .inl c_errors)), (q_t_named, .inl (g.X.cI, 128, .inl c_named)), (q_t_pile, .inl (g.X.cI, 64, .inl c_pile))] := by
  unfold wp_X7_then at h
  refine st_aload_n G 1 rfl 0 rfl dX7_then_0 rfl ?_
  refine st_iload_n G 2 rfl 1 rfl dX7_then_1 rfl ?_
  refine st_cVio G lk_X7_156 (c_X7_isPerson g.l g.D g.X q_t q_t_s q_t_k q_t_laid q_t_errors q_t_step q_t_named q_t_pile q_t_sums1 q_t_parts1 q_t_trace q_t_bits q_t_sizes q_t_number q_t_aside c_images c_at c_open c_steps c_use c_traced c_speaks c_isParted c_s x1 _ h) ⟨rfl, rfl, ⟨Nat.le_of_ble_eq_true rfl, Nat.le_of_ble_eq_true rfl⟩, Nat.zero_le _, Nat.zero_le _⟩ 5 rfl [0, 1] rfl (by decide) 0 7 rfl rfl rfl (Nat.le_of_ble_eq_true rfl) rfl dX7_then_2 (fun r_2 h => ?_)
  refine st_if_eq G 25 8 rfl dX7_then_5 rfl (fun c => ?_) (fun c => ?_)
  · have h := h.1 c
    refine st_aload_n G 26 rfl 0 rfl dX7_then_25 rfl ?_
    refine st_iconst G 27 rfl (1 : Int32) (by decide) dX7_then_26 ?_
    refine st_cVi G lk_X7_65 (c_X7_error g.l g.D g.X q_t q_t_s q_t_k q_t_laid q_t_errors q_t_step q_t_named q_t_pile q_t_sums1 q_t_parts1 q_t_trace q_t_bits q_t_sizes q_t_number q_t_aside c_images c_at c_open c_steps c_use c_traced c_speaks c_isParted c_errors (1 : Int32) _ h) ⟨rfl, rfl, ⟨Nat.le_of_ble_eq_true rfl, Nat.le_of_ble_eq_true rfl⟩, Nat.zero_le _, Nat.zero_le _⟩ 30 rfl [0, 3] rfl (by decide) 0 7 rfl rfl rfl (Nat.le_of_ble_eq_true rfl) rfl dX7_then_27 (fun r_27 w hq => ?_)
    obtain ⟨c_errors_27, h, rfl⟩ := hq
    refine st_wp (ws' := [(q_t, .inr (7, [.ref q_t_s, .ref q_t_k, .ref q_t_laid, .int c_images, .ref q_t_errors, .int c_at, .int c_open, .int c_steps, .int c_use, .ref q_t_step, .ref q_t_named, .ref q_t_pile, .ref q_t_sums1, .ref q_t_parts1, .int c_traced, .ref q_t_trace, .int c_speaks, .int c_isParted, .ref q_t_bits, .ref q_t_sizes, .ref q_t_number, .ref q_t_aside])), (q_t_s, .inl (g.X.cI, 476, .inl c_s)), (q_t_laid, .inl (g.X.cI, 142, .inl c_laid)), (q_t_errors, .inl (g.X.cI, 7, .inl c_errors_27)), (q_t_named, .inl (g.X.cI, 128, .inl c_named)), (q_t_pile, .inl (g.X.cI, 64, .inl c_pile))]) 6 [1, 2, 4, 5] (by decide) rfl rfl (by rfl) [(q_t_s, .inl (g.X.cI, 476, .inl c_s)), (q_t_laid, .inl (g.X.cI, 142, .inl c_laid)), (q_t_named, .inl (g.X.cI, 128, .inl c_named)), (q_t_pile, .inl (g.X.cI, 64, .inl c_pile))] (by rfl) rfl ?_
    exact R _ _ _ _ dX7_then_30 (Nat.le_of_ble_eq_true rfl) ⟨_, _, _, _, _, h, rfl⟩
  have h := h.2 c
  refine st_iload_n G 9 rfl 2 rfl dX7_then_8 rfl ?_
  refine st_cSio G lk_X7_178 (c_X7_isSort g.l g.D g.X x2 _ h) ⟨rfl, rfl, ⟨Nat.le_of_ble_eq_true rfl, Nat.le_of_ble_eq_true rfl⟩, Nat.zero_le _, Nat.zero_le _⟩ 12 rfl [] rfl (by decide) rfl (Nat.le_of_ble_eq_true rfl) rfl dX7_then_9 (fun r_9 h => ?_)
  refine st_if_eq G 25 15 rfl dX7_then_12 rfl (fun c => ?_) (fun c => ?_)
  · have h := h.1 c
    refine st_aload_n G 26 rfl 0 rfl dX7_then_25 rfl ?_
    refine st_iconst G 27 rfl (1 : Int32) (by decide) dX7_then_26 ?_
    refine st_cVi G lk_X7_65 (c_X7_error g.l g.D g.X q_t q_t_s q_t_k q_t_laid q_t_errors q_t_step q_t_named q_t_pile q_t_sums1 q_t_parts1 q_t_trace q_t_bits q_t_sizes q_t_number q_t_aside c_images c_at c_open c_steps c_use c_traced c_speaks c_isParted c_errors (1 : Int32) _ h) ⟨rfl, rfl, ⟨Nat.le_of_ble_eq_true rfl, Nat.le_of_ble_eq_true rfl⟩, Nat.zero_le _, Nat.zero_le _⟩ 30 rfl [0, 3] rfl (by decide) 0 7 rfl rfl rfl (Nat.le_of_ble_eq_true rfl) rfl dX7_then_27 (fun r_27 w hq => ?_)
    obtain ⟨c_errors_27, h, rfl⟩ := hq
    refine st_wp (ws' := [(q_t, .inr (7, [.ref q_t_s, .ref q_t_k, .ref q_t_laid, .int c_images, .ref q_t_errors, .int c_at, .int c_open, .int c_steps, .int c_use, .ref q_t_step, .ref q_t_named, .ref q_t_pile, .ref q_t_sums1, .ref q_t_parts1, .int c_traced, .ref q_t_trace, .int c_speaks, .int c_isParted, .ref q_t_bits, .ref q_t_sizes, .ref q_t_number, .ref q_t_aside])), (q_t_s, .inl (g.X.cI, 476, .inl c_s)), (q_t_laid, .inl (g.X.cI, 142, .inl c_laid)), (q_t_errors, .inl (g.X.cI, 7, .inl c_errors_27)), (q_t_named, .inl (g.X.cI, 128, .inl c_named)), (q_t_pile, .inl (g.X.cI, 64, .inl c_pile))]) 6 [1, 2, 4, 5] (by decide) rfl rfl (by rfl) [(q_t_s, .inl (g.X.cI, 476, .inl c_s)), (q_t_laid, .inl (g.X.cI, 142, .inl c_laid)), (q_t_named, .inl (g.X.cI, 128, .inl c_named)), (q_t_pile, .inl (g.X.cI, 64, .inl c_pile))] (by rfl) rfl ?_
    exact R _ _ _ _ dX7_then_30 (Nat.le_of_ble_eq_true rfl) ⟨_, _, _, _, _, h, rfl⟩
  have h := h.2 c
  refine st_iload_n G 16 rfl 3 rfl dX7_then_15 rfl ?_
  refine st_iconst G 17 rfl (0 : Int32) (by decide) dX7_then_16 ?_
  refine st_bipush G 19 rfl (60 : Int32) (by decide) dX7_then_17 ?_
  refine st_cSio G lk_X7_53 (c_X7_in g.l g.D g.X x3 (0 : Int32) (60 : Int32) _ h) ⟨rfl, rfl, ⟨Nat.le_of_ble_eq_true rfl, Nat.le_of_ble_eq_true rfl⟩, Nat.zero_le _, Nat.zero_le _⟩ 22 rfl [] rfl (by decide) rfl (Nat.le_of_ble_eq_true rfl) rfl dX7_then_19 (fun r_19 h => ?_)
  refine st_if_ne G 31 25 rfl dX7_then_22 rfl (fun c => ?_) (fun c => ?_)
  · have h := h.1 c
    refine st_aload_n G 32 rfl 0 rfl dX7_then_31 rfl ?_
    refine st_cVv G lk_X7_207 (c_X7_layDown g.l g.D g.X q_t q_t_s q_t_k q_t_laid q_t_errors q_t_step q_t_named q_t_pile q_t_sums1 q_t_parts1 q_t_trace q_t_bits q_t_sizes q_t_number q_t_aside c_images c_at c_open c_steps c_use c_traced c_speaks c_isParted c_s c_laid _ h) ⟨rfl, rfl, ⟨Nat.le_of_ble_eq_true rfl, Nat.le_of_ble_eq_true rfl⟩, Nat.zero_le _, Nat.zero_le _⟩ 35 rfl [0, 1, 2] rfl (by decide) 0 7 rfl rfl rfl (Nat.le_of_ble_eq_true rfl) rfl dX7_then_32 (fun w hq => ?_)
    obtain ⟨c_laid_32, h, rfl⟩ := hq
    refine st_wp (ws' := [(q_t, .inr (7, [.ref q_t_s, .ref q_t_k, .ref q_t_laid, .int c_images, .ref q_t_errors, .int c_at, .int c_open, .int c_steps, .int c_use, .ref q_t_step, .ref q_t_named, .ref q_t_pile, .ref q_t_sums1, .ref q_t_parts1, .int c_traced, .ref q_t_trace, .int c_speaks, .int c_isParted, .ref q_t_bits, .ref q_t_sizes, .ref q_t_number, .ref q_t_aside])), (q_t_s, .inl (g.X.cI, 476, .inl c_s)), (q_t_laid, .inl (g.X.cI, 142, .inl c_laid_32)), (q_t_errors, .inl (g.X.cI, 7, .inl c_errors)), (q_t_named, .inl (g.X.cI, 128, .inl c_named)), (q_t_pile, .inl (g.X.cI, 64, .inl c_pile))]) 6 [3, 4, 5] (by decide) rfl rfl (by rfl) [(q_t_errors, .inl (g.X.cI, 7, .inl c_errors)), (q_t_named, .inl (g.X.cI, 128, .inl c_named)), (q_t_pile, .inl (g.X.cI, 64, .inl c_pile))] (by rfl) rfl ?_
    refine st_iconst G 36 rfl (0 : Int32) (by decide) dX7_then_35 ?_
    refine st_istore G 38 rfl [(4, .int (0 : Int32)), (0, .ref q_t), (1, .int x1), (2, .int x2), (3, .int x3)] dX7_then_36 (by decide) rfl ?_
    refine st_L (L' := [(0, .ref q_t), (1, .int x1), (2, .int x2), (3, .int x3), (4, .int (0 : Int32))]) [1, 2, 3, 4, 0] rfl ?_
    obtain ⟨n, h⟩ := h
    exact b_X7_then_38 G R n _ _ _ _ _ _ _ _ _ h
  have h := h.2 c
  refine st_aload_n G 26 rfl 0 rfl dX7_then_25 rfl ?_
  refine st_iconst G 27 rfl (1 : Int32) (by decide) dX7_then_26 ?_
  refine st_cVi G lk_X7_65 (c_X7_error g.l g.D g.X q_t q_t_s q_t_k q_t_laid q_t_errors q_t_step q_t_named q_t_pile q_t_sums1 q_t_parts1 q_t_trace q_t_bits q_t_sizes q_t_number q_t_aside c_images c_at c_open c_steps c_use c_traced c_speaks c_isParted c_errors (1 : Int32) _ h) ⟨rfl, rfl, ⟨Nat.le_of_ble_eq_true rfl, Nat.le_of_ble_eq_true rfl⟩, Nat.zero_le _, Nat.zero_le _⟩ 30 rfl [0, 3] rfl (by decide) 0 7 rfl rfl rfl (Nat.le_of_ble_eq_true rfl) rfl dX7_then_27 (fun r_27 w hq => ?_)
  obtain ⟨c_errors_27, h, rfl⟩ := hq
  refine st_wp (ws' := [(q_t, .inr (7, [.ref q_t_s, .ref q_t_k, .ref q_t_laid, .int c_images, .ref q_t_errors, .int c_at, .int c_open, .int c_steps, .int c_use, .ref q_t_step, .ref q_t_named, .ref q_t_pile, .ref q_t_sums1, .ref q_t_parts1, .int c_traced, .ref q_t_trace, .int c_speaks, .int c_isParted, .ref q_t_bits, .ref q_t_sizes, .ref q_t_number, .ref q_t_aside])), (q_t_s, .inl (g.X.cI, 476, .inl c_s)), (q_t_laid, .inl (g.X.cI, 142, .inl c_laid)), (q_t_errors, .inl (g.X.cI, 7, .inl c_errors_27)), (q_t_named, .inl (g.X.cI, 128, .inl c_named)), (q_t_pile, .inl (g.X.cI, 64, .inl c_pile))]) 6 [1, 2, 4, 5] (by decide) rfl rfl (by rfl) [(q_t_s, .inl (g.X.cI, 476, .inl c_s)), (q_t_laid, .inl (g.X.cI, 142, .inl c_laid)), (q_t_named, .inl (g.X.cI, 128, .inl c_named)), (q_t_pile, .inl (g.X.cI, 64, .inl c_pile))] (by rfl) rfl ?_
  exact R _ _ _ _ dX7_then_30 (Nat.le_of_ble_eq_true rfl) ⟨_, _, _, _, _, h, rfl⟩
set_option maxRecDepth 100000 in
set_option maxHeartbeats 4000000 in
theorem c_X7_then (l : Launch) (D : va_G) (X : XT) (q_t q_t_s q_t_k q_t_laid q_t_errors q_t_step q_t_named q_t_pile q_t_sums1 q_t_parts1 q_t_trace q_t_bits q_t_sizes q_t_number q_t_aside : Nat) (c_images : Int32) (c_at : Int32) (c_open : Int32) (c_steps : Int32) (c_use : Int32) (c_traced : Int32) (c_speaks : Int32) (c_isParted : Int32) (c_s : Nat → Int32) (c_laid : Nat → Int32) (c_errors : Nat → Int32) (c_named : Nat → Int32) (c_pile : Nat → Int32) (x1 : Int32) (x2 : Int32) (x3 : Int32) (Q : Int32 → (Nat → Int32) → (Nat → Int32) → (Nat → Int32) → (Nat → Int32) → (Nat → Int32) → Prop) (h : wp_X7_then x1 x2 x3 c_s c_laid c_errors c_named c_pile Q) : CTi l D X yX7_then cX7_then 5 .int rm_X7_then [.ref q_t, .int x1, .int x2, .int x3] [(q_t, .inr (7, [.ref q_t_s, .ref q_t_k, .ref q_t_laid, .int c_images, .ref q_t_errors, .int c_at, .int c_open, .int c_steps, .int c_use, .ref q_t_step, .ref q_t_named, .ref q_t_pile, .ref q_t_sums1, .ref q_t_parts1, .int c_traced, .ref q_t_trace, .int c_speaks, .int c_isParted, .ref q_t_bits, .ref q_t_sizes, .ref q_t_number, .ref q_t_aside])), (q_t_s, .inl (X.cI, 476, .inl c_s)), (q_t_laid, .inl (X.cI, 142, .inl c_laid)), (q_t_errors, .inl (X.cI, 7, .inl c_errors)), (q_t_named, .inl (X.cI, 128, .inl c_named)), (q_t_pile, .inl (X.cI, 64, .inl c_pile))] (fun (r : Int32) w => ∃ (c_s' : Nat → Int32) (c_laid' : Nat → Int32) (c_errors' : Nat → Int32) (c_named' : Nat → Int32) (c_pile' : Nat → Int32), Q r c_s' c_laid' c_errors' c_named' c_pile' ∧ w = [(q_t, .inr (7, [.ref q_t_s, .ref q_t_k, .ref q_t_laid, .int c_images, .ref q_t_errors, .int c_at, .int c_open, .int c_steps, .int c_use, .ref q_t_step, .ref q_t_named, .ref q_t_pile, .ref q_t_sums1, .ref q_t_parts1, .int c_traced, .ref q_t_trace, .int c_speaks, .int c_isParted, .ref q_t_bits, .ref q_t_sizes, .ref q_t_number, .ref q_t_aside])), (q_t_s, .inl (X.cI, 476, .inl c_s')), (q_t_laid, .inl (X.cI, 142, .inl c_laid')), (q_t_errors, .inl (X.cI, 7, .inl c_errors')), (q_t_named, .inl (X.cI, 128, .inl c_named')), (q_t_pile, .inl (X.cI, 64, .inl c_pile'))]) :=
  ct_i (by decide) (Nat.le_of_ble_eq_true rfl) (fun g hl hD hX G R => by subst hl; subst hD; subst hX; exact b_X7_then_e G R h)
set_option maxRecDepth 100000 in
set_option maxHeartbeats 4000000 in
theorem b_X7_whoIsClean_11 {g : GT} (G : GOOD g RX7 cX7_whoIsClean 4 rm_X7_whoIsClean) {q_t q_t_s q_t_k q_t_laid q_t_errors q_t_step q_t_named q_t_pile q_t_sums1 q_t_parts1 q_t_trace q_t_bits q_t_sizes q_t_number q_t_aside : Nat} {c_images : Int32} {c_at : Int32} {c_open : Int32} {c_steps : Int32} {c_use : Int32} {c_traced : Int32} {c_speaks : Int32} {c_isParted : Int32} {c_s : Nat → Int32} {Q : Int32 → Prop} (R : RETi g cX7_whoIsClean 2 (fun (r : Int32) w => (Q r) ∧ w = [(q_t, .inr (7, [.ref q_t_s, .ref q_t_k, .ref q_t_laid, .int c_images, .ref q_t_errors, .int c_at, .int c_open, .int c_steps, .int c_use, .ref q_t_step, .ref q_t_named, .ref q_t_pile, .ref q_t_sums1, .ref q_t_parts1, .int c_traced, .ref q_t_trace, .int c_speaks, .int c_isParted, .ref q_t_bits, .ref q_t_sizes, .ref q_t_number, .ref q_t_aside])), (q_t_s, .inl (g.X.cI, 476, .inl c_s))])) : ∀ (n : Nat) (x1 : Int32) (x2 : Int32) (x3 : Int32), wp_X7_whoIsClean_b11 Q c_s n x1 x2 x3 → ST g 0 0 11 [(0, .ref q_t), (1, .int x1), (2, .int x2), (3, .int x3)] [] [(q_t, .inr (7, [.ref q_t_s, .ref q_t_k, .ref q_t_laid, .int c_images, .ref q_t_errors, .int c_at, .int c_open, .int c_steps, .int c_use, .ref q_t_step, .ref q_t_named, .ref q_t_pile, .ref q_t_sums1, .ref q_t_parts1, .int c_traced, .ref q_t_trace, .int c_speaks, .int c_isParted, .ref q_t_bits, .ref q_t_sizes, .ref q_t_number, .ref q_t_aside])), (q_t_s, .inl (g.X.cI, 476, .inl c_s))] := by
  intro n
  induction n with
  | zero => intro x1 x2 x3 h; exact False.elim h
  | succ n hK11 =>
    intro x1 x2 x3 h
    unfold wp_X7_whoIsClean_b11 at h
    refine st_iload_n G 12 rfl 3 rfl dX7_whoIsClean_11 rfl ?_
    refine st_if_lt G 36 15 rfl dX7_whoIsClean_12 rfl (fun c => ?_) (fun c => ?_)
    · have h := h.1 c
      refine st_iload_n G 37 rfl 2 rfl dX7_whoIsClean_36 rfl ?_
      exact R _ _ _ _ dX7_whoIsClean_37 (Nat.le_of_ble_eq_true rfl) ⟨h, rfl⟩
    have h := h.2 c
    refine st_aload_n G 16 rfl 0 rfl dX7_whoIsClean_15 rfl ?_
    refine st_iload_n G 17 rfl 3 rfl dX7_whoIsClean_16 rfl ?_
    refine st_cVio G lk_X7_163 (c_X7_heap g.l g.D g.X q_t q_t_s q_t_k q_t_laid q_t_errors q_t_step q_t_named q_t_pile q_t_sums1 q_t_parts1 q_t_trace q_t_bits q_t_sizes q_t_number q_t_aside c_images c_at c_open c_steps c_use c_traced c_speaks c_isParted c_s x3 _ h) ⟨rfl, rfl, ⟨Nat.le_of_ble_eq_true rfl, Nat.le_of_ble_eq_true rfl⟩, Nat.zero_le _, Nat.zero_le _⟩ 20 rfl [0, 1] rfl (by decide) 0 7 rfl rfl rfl (Nat.le_of_ble_eq_true rfl) rfl dX7_whoIsClean_17 (fun r_17 h => ?_)
    refine st_iload_n G 21 rfl 1 rfl dX7_whoIsClean_20 rfl ?_
    refine st_icmp_ge G 28 24 rfl dX7_whoIsClean_21 rfl (fun c => ?_) (fun c => ?_)
    · have h := h.1 c
      refine st_iload_n G 29 rfl 2 rfl dX7_whoIsClean_28 rfl ?_
      refine st_istore_n G 30 rfl [(2, .int x2), (0, .ref q_t), (1, .int x1), (3, .int x3)] dX7_whoIsClean_29 rfl (by decide) rfl ?_
      obtain ⟨x3_30, ex3_30⟩ : ∃ y : Int32, y = (x3 + (-1 : Int32)) := ⟨_, rfl⟩
      have h := h x3_30 ex3_30
      refine st_iinc G 33 rfl [(3, .int x3_30), (2, .int x2), (0, .ref q_t), (1, .int x1)] x3_30 3 rfl (by rw [ex3_30]; rfl) dX7_whoIsClean_30 (by decide) rfl ?_
      refine st_goto G 11 dX7_whoIsClean_33 rfl ?_
      refine st_L (L' := [(0, .ref q_t), (1, .int x1), (2, .int x2), (3, .int x3_30)]) [2, 3, 1, 0] rfl ?_
      exact hK11 _ _ _ h
    have h := h.2 c
    refine st_iload_n G 25 rfl 3 rfl dX7_whoIsClean_24 rfl ?_
    refine st_goto G 29 dX7_whoIsClean_25 rfl ?_
    refine st_istore_n G 30 rfl [(2, .int x3), (0, .ref q_t), (1, .int x1), (3, .int x3)] dX7_whoIsClean_29 rfl (by decide) rfl ?_
    obtain ⟨x3_30, ex3_30⟩ : ∃ y : Int32, y = (x3 + (-1 : Int32)) := ⟨_, rfl⟩
    have h := h x3_30 ex3_30
    refine st_iinc G 33 rfl [(3, .int x3_30), (2, .int x3), (0, .ref q_t), (1, .int x1)] x3_30 3 rfl (by rw [ex3_30]; rfl) dX7_whoIsClean_30 (by decide) rfl ?_
    refine st_goto G 11 dX7_whoIsClean_33 rfl ?_
    refine st_L (L' := [(0, .ref q_t), (1, .int x1), (2, .int x3), (3, .int x3_30)]) [2, 3, 1, 0] rfl ?_
    exact hK11 _ _ _ h
set_option maxRecDepth 100000 in
set_option maxHeartbeats 4000000 in
theorem b_X7_whoIsClean_e {g : GT} (G : GOOD g RX7 cX7_whoIsClean 4 rm_X7_whoIsClean) {q_t q_t_s q_t_k q_t_laid q_t_errors q_t_step q_t_named q_t_pile q_t_sums1 q_t_parts1 q_t_trace q_t_bits q_t_sizes q_t_number q_t_aside : Nat} {c_images : Int32} {c_at : Int32} {c_open : Int32} {c_steps : Int32} {c_use : Int32} {c_traced : Int32} {c_speaks : Int32} {c_isParted : Int32} {c_s : Nat → Int32} {x1 : Int32} {Q : Int32 → Prop} (R : RETi g cX7_whoIsClean 2 (fun (r : Int32) w => (Q r) ∧ w = [(q_t, .inr (7, [.ref q_t_s, .ref q_t_k, .ref q_t_laid, .int c_images, .ref q_t_errors, .int c_at, .int c_open, .int c_steps, .int c_use, .ref q_t_step, .ref q_t_named, .ref q_t_pile, .ref q_t_sums1, .ref q_t_parts1, .int c_traced, .ref q_t_trace, .int c_speaks, .int c_isParted, .ref q_t_bits, .ref q_t_sizes, .ref q_t_number, .ref q_t_aside])), (q_t_s, .inl (g.X.cI, 476, .inl c_s))])) (h : wp_X7_whoIsClean x1 c_s Q) : ST g 0 0 0 [(0, .ref q_t), (1, .int x1)] [] [(q_t, .inr (7, [.ref q_t_s, .ref q_t_k, .ref q_t_laid, .int c_images, .ref q_t_errors, .int c_at, .int c_open, .int c_steps, .int c_use, .ref q_t_step, .ref q_t_named, .ref q_t_pile, .ref q_t_sums1, .ref q_t_parts1, .int c_traced, .ref q_t_trace, .int c_speaks, .int c_isParted, .ref q_t_bits, .ref q_t_sizes, .ref q_t_number, .ref q_t_aside])), (q_t_s, .inl (g.X.cI, 476, .inl c_s))] := by
  unfold wp_X7_whoIsClean at h
  refine st_iconst G 1 rfl (-1 : Int32) (by decide) dX7_whoIsClean_0 ?_
  refine st_istore_n G 2 rfl [(2, .int (-1 : Int32)), (0, .ref q_t), (1, .int x1)] dX7_whoIsClean_1 rfl (by decide) rfl ?_
  refine st_aload_n G 3 rfl 1 rfl dX7_whoIsClean_2 rfl ?_
  refine st_get G inX7 rfl 0 (by decide) wd_82 6 rfl 0 rfl rfl dX7_whoIsClean_3 ?_
  refine st_iconst G 7 rfl (4 : Int32) (by decide) dX7_whoIsClean_6 ?_
  obtain ⟨hin, h⟩ := h
  refine st_iald G 8 rfl 1 rfl hin dX7_whoIsClean_7 ?_
  refine st_iconst G 9 rfl (1 : Int32) (by decide) dX7_whoIsClean_8 ?_
  refine st_isub G 10 rfl dX7_whoIsClean_9 ?_
  refine st_topi (fun x3_10 ex3_10 => ?_)
  have h := h x3_10 ex3_10
  refine st_istore_n G 11 rfl [(3, .int x3_10), (2, .int (-1 : Int32)), (0, .ref q_t), (1, .int x1)] dX7_whoIsClean_10 rfl (by decide) rfl ?_
  refine st_L (L' := [(0, .ref q_t), (1, .int x1), (2, .int (-1 : Int32)), (3, .int x3_10)]) [2, 3, 1, 0] rfl ?_
  obtain ⟨n, h⟩ := h
  exact b_X7_whoIsClean_11 G R n _ _ _ h
set_option maxRecDepth 100000 in
set_option maxHeartbeats 4000000 in
theorem c_X7_whoIsClean (l : Launch) (D : va_G) (X : XT) (q_t q_t_s q_t_k q_t_laid q_t_errors q_t_step q_t_named q_t_pile q_t_sums1 q_t_parts1 q_t_trace q_t_bits q_t_sizes q_t_number q_t_aside : Nat) (c_images : Int32) (c_at : Int32) (c_open : Int32) (c_steps : Int32) (c_use : Int32) (c_traced : Int32) (c_speaks : Int32) (c_isParted : Int32) (c_s : Nat → Int32) (x1 : Int32) (Q : Int32 → Prop) (h : wp_X7_whoIsClean x1 c_s Q) : CTi l D X yX7_whoIsClean cX7_whoIsClean 4 .int rm_X7_whoIsClean [.ref q_t, .int x1] [(q_t, .inr (7, [.ref q_t_s, .ref q_t_k, .ref q_t_laid, .int c_images, .ref q_t_errors, .int c_at, .int c_open, .int c_steps, .int c_use, .ref q_t_step, .ref q_t_named, .ref q_t_pile, .ref q_t_sums1, .ref q_t_parts1, .int c_traced, .ref q_t_trace, .int c_speaks, .int c_isParted, .ref q_t_bits, .ref q_t_sizes, .ref q_t_number, .ref q_t_aside])), (q_t_s, .inl (X.cI, 476, .inl c_s))] (fun (r : Int32) w => (Q r) ∧ w = [(q_t, .inr (7, [.ref q_t_s, .ref q_t_k, .ref q_t_laid, .int c_images, .ref q_t_errors, .int c_at, .int c_open, .int c_steps, .int c_use, .ref q_t_step, .ref q_t_named, .ref q_t_pile, .ref q_t_sums1, .ref q_t_parts1, .int c_traced, .ref q_t_trace, .int c_speaks, .int c_isParted, .ref q_t_bits, .ref q_t_sizes, .ref q_t_number, .ref q_t_aside])), (q_t_s, .inl (X.cI, 476, .inl c_s))]) :=
  ct_i (by decide) (Nat.le_of_ble_eq_true rfl) (fun g hl hD hX G R => by subst hl; subst hD; subst hX; exact b_X7_whoIsClean_e G R h)
set_option maxRecDepth 100000 in
set_option maxHeartbeats 4000000 in
theorem b_X7_clean_57 {g : GT} (G : GOOD g RX7 cX7_clean 5 rm_X7_clean) {q_t q_t_s q_t_k q_t_laid q_t_errors q_t_step q_t_named q_t_pile q_t_sums1 q_t_parts1 q_t_trace q_t_bits q_t_sizes q_t_number q_t_aside : Nat} {c_images : Int32} {c_at : Int32} {c_open : Int32} {c_steps : Int32} {c_use : Int32} {c_traced : Int32} {c_speaks : Int32} {c_isParted : Int32} {Q : Int32 → (Nat → Int32) → (Nat → Int32) → (Nat → Int32) → (Nat → Int32) → (Nat → Int32) → Prop} (R : RETi g cX7_clean 6 (fun (r : Int32) w => ∃ (c_s' : Nat → Int32) (c_laid' : Nat → Int32) (c_errors' : Nat → Int32) (c_named' : Nat → Int32) (c_pile' : Nat → Int32), Q r c_s' c_laid' c_errors' c_named' c_pile' ∧ w = [(q_t, .inr (7, [.ref q_t_s, .ref q_t_k, .ref q_t_laid, .int c_images, .ref q_t_errors, .int c_at, .int c_open, .int c_steps, .int c_use, .ref q_t_step, .ref q_t_named, .ref q_t_pile, .ref q_t_sums1, .ref q_t_parts1, .int c_traced, .ref q_t_trace, .int c_speaks, .int c_isParted, .ref q_t_bits, .ref q_t_sizes, .ref q_t_number, .ref q_t_aside])), (q_t_s, .inl (g.X.cI, 476, .inl c_s')), (q_t_laid, .inl (g.X.cI, 142, .inl c_laid')), (q_t_errors, .inl (g.X.cI, 7, .inl c_errors')), (q_t_named, .inl (g.X.cI, 128, .inl c_named')), (q_t_pile, .inl (g.X.cI, 64, .inl c_pile'))])) {x1 : Int32} {x2 : Int32} {x3 : Int32} {c_s : Nat → Int32} {c_laid : Nat → Int32} {c_errors : Nat → Int32} {c_named : Nat → Int32} {c_pile : Nat → Int32} (h : wp_X7_clean_b57 Q x1 x2 x3 c_s c_laid c_errors c_named c_pile) : ST g 0 0 57 [(0, .ref q_t), (1, .int x1), (2, .int x2), (3, .int x3)] [] [(q_t, .inr (7, [.ref q_t_s, .ref q_t_k, .ref q_t_laid, .int c_images, .ref q_t_errors, .int c_at, .int c_open, .int c_steps, .int c_use, .ref q_t_step, .ref q_t_named, .ref q_t_pile, .ref q_t_sums1, .ref q_t_parts1, .int c_traced, .ref q_t_trace, .int c_speaks, .int c_isParted, .ref q_t_bits, .ref q_t_sizes, .ref q_t_number, .ref q_t_aside])), (q_t_s, .inl (g.X.cI, 476, .inl c_s)), (q_t_laid, .inl (g.X.cI, 142, .inl c_laid)), (q_t_errors, .inl (g.X.cI, 7, .inl c_errors)), (q_t_named, .inl (g.X.cI, 128, .inl c_named)), (q_t_pile, .inl (g.X.cI, 64, .inl c_pile))] := by
  unfold wp_X7_clean_b57 at h
  refine st_aload_n G 58 rfl 0 rfl dX7_clean_57 rfl ?_
  refine st_iload_n G 59 rfl 1 rfl dX7_clean_58 rfl ?_
  refine st_cVio G lk_X7_213 (c_X7_whoIsClean g.l g.D g.X q_t q_t_s q_t_k q_t_laid q_t_errors q_t_step q_t_named q_t_pile q_t_sums1 q_t_parts1 q_t_trace q_t_bits q_t_sizes q_t_number q_t_aside c_images c_at c_open c_steps c_use c_traced c_speaks c_isParted c_s x1 _ h) ⟨rfl, rfl, ⟨Nat.le_of_ble_eq_true rfl, Nat.le_of_ble_eq_true rfl⟩, Nat.zero_le _, Nat.zero_le _⟩ 62 rfl [0, 1] rfl (by decide) 0 7 rfl rfl rfl (Nat.le_of_ble_eq_true rfl) rfl dX7_clean_59 (fun r_59 h => ?_)
  refine st_istore G 64 rfl [(4, .int r_59), (0, .ref q_t), (1, .int x1), (2, .int x2), (3, .int x3)] dX7_clean_62 (by decide) rfl ?_
  refine st_aload_n G 65 rfl 1 rfl dX7_clean_64 rfl ?_
  refine st_cVv G lk_X7_210 (c_X7_layBack g.l g.D g.X q_t q_t_s q_t_k q_t_laid q_t_errors q_t_step q_t_named q_t_pile q_t_sums1 q_t_parts1 q_t_trace q_t_bits q_t_sizes q_t_number q_t_aside c_images c_at c_open c_steps c_use c_traced c_speaks c_isParted c_s c_laid _ h) ⟨rfl, rfl, ⟨Nat.le_of_ble_eq_true rfl, Nat.le_of_ble_eq_true rfl⟩, Nat.zero_le _, Nat.zero_le _⟩ 68 rfl [0, 1, 2] rfl (by decide) 0 7 rfl rfl rfl (Nat.le_of_ble_eq_true rfl) rfl dX7_clean_65 (fun w hq => ?_)
  obtain ⟨c_s_65, h, rfl⟩ := hq
  refine st_wp (ws' := [(q_t, .inr (7, [.ref q_t_s, .ref q_t_k, .ref q_t_laid, .int c_images, .ref q_t_errors, .int c_at, .int c_open, .int c_steps, .int c_use, .ref q_t_step, .ref q_t_named, .ref q_t_pile, .ref q_t_sums1, .ref q_t_parts1, .int c_traced, .ref q_t_trace, .int c_speaks, .int c_isParted, .ref q_t_bits, .ref q_t_sizes, .ref q_t_number, .ref q_t_aside])), (q_t_s, .inl (g.X.cI, 476, .inl c_s_65)), (q_t_laid, .inl (g.X.cI, 142, .inl c_laid)), (q_t_errors, .inl (g.X.cI, 7, .inl c_errors)), (q_t_named, .inl (g.X.cI, 128, .inl c_named)), (q_t_pile, .inl (g.X.cI, 64, .inl c_pile))]) 6 [3, 4, 5] (by decide) rfl rfl (by rfl) [(q_t_errors, .inl (g.X.cI, 7, .inl c_errors)), (q_t_named, .inl (g.X.cI, 128, .inl c_named)), (q_t_pile, .inl (g.X.cI, 64, .inl c_pile))] (by rfl) rfl ?_
  refine st_iload_n G 69 rfl 4 rfl dX7_clean_68 rfl ?_
  refine st_bipush G 71 rfl (60 : Int32) (by decide) dX7_clean_69 ?_
  refine st_icmp_le G 82 74 rfl dX7_clean_71 rfl (fun c => ?_) (fun c => ?_)
  · have h := h.1 c
    refine st_iload_n G 83 rfl 3 rfl dX7_clean_82 rfl ?_
    refine st_if_ne G 91 86 rfl dX7_clean_83 rfl (fun c => ?_) (fun c => ?_)
    · have h := h.1 c
      refine st_iload_n G 92 rfl 4 rfl dX7_clean_91 rfl ?_
      exact R _ _ _ _ dX7_clean_92 (Nat.le_of_ble_eq_true rfl) ⟨_, _, _, _, _, h, rfl⟩
    have h := h.2 c
    refine st_iload G 88 rfl 0 rfl dX7_clean_86 ?_
    refine st_goto G 92 dX7_clean_88 rfl ?_
    exact R _ _ _ _ dX7_clean_92 (Nat.le_of_ble_eq_true rfl) ⟨_, _, _, _, _, h, rfl⟩
  have h := h.2 c
  refine st_aload_n G 75 rfl 1 rfl dX7_clean_74 rfl ?_
  refine st_iconst G 76 rfl (2 : Int32) (by decide) dX7_clean_75 ?_
  refine st_cVi G lk_X7_65 (c_X7_error g.l g.D g.X q_t q_t_s q_t_k q_t_laid q_t_errors q_t_step q_t_named q_t_pile q_t_sums1 q_t_parts1 q_t_trace q_t_bits q_t_sizes q_t_number q_t_aside c_images c_at c_open c_steps c_use c_traced c_speaks c_isParted c_errors (2 : Int32) _ h) ⟨rfl, rfl, ⟨Nat.le_of_ble_eq_true rfl, Nat.le_of_ble_eq_true rfl⟩, Nat.zero_le _, Nat.zero_le _⟩ 79 rfl [0, 3] rfl (by decide) 0 7 rfl rfl rfl (Nat.le_of_ble_eq_true rfl) rfl dX7_clean_76 (fun r_76 w hq => ?_)
  obtain ⟨c_errors_76, h, rfl⟩ := hq
  refine st_wp (ws' := [(q_t, .inr (7, [.ref q_t_s, .ref q_t_k, .ref q_t_laid, .int c_images, .ref q_t_errors, .int c_at, .int c_open, .int c_steps, .int c_use, .ref q_t_step, .ref q_t_named, .ref q_t_pile, .ref q_t_sums1, .ref q_t_parts1, .int c_traced, .ref q_t_trace, .int c_speaks, .int c_isParted, .ref q_t_bits, .ref q_t_sizes, .ref q_t_number, .ref q_t_aside])), (q_t_s, .inl (g.X.cI, 476, .inl c_s_65)), (q_t_laid, .inl (g.X.cI, 142, .inl c_laid)), (q_t_errors, .inl (g.X.cI, 7, .inl c_errors_76)), (q_t_named, .inl (g.X.cI, 128, .inl c_named)), (q_t_pile, .inl (g.X.cI, 64, .inl c_pile))]) 6 [1, 2, 4, 5] (by decide) rfl rfl (by rfl) [(q_t_s, .inl (g.X.cI, 476, .inl c_s_65)), (q_t_laid, .inl (g.X.cI, 142, .inl c_laid)), (q_t_named, .inl (g.X.cI, 128, .inl c_named)), (q_t_pile, .inl (g.X.cI, 64, .inl c_pile))] (by rfl) rfl ?_
  refine st_goto G 92 dX7_clean_79 rfl ?_
  exact R _ _ _ _ dX7_clean_92 (Nat.le_of_ble_eq_true rfl) ⟨_, _, _, _, _, h, rfl⟩
set_option maxRecDepth 100000 in
set_option maxHeartbeats 4000000 in
theorem b_X7_clean_32 {g : GT} (G : GOOD g RX7 cX7_clean 5 rm_X7_clean) {q_t q_t_s q_t_k q_t_laid q_t_errors q_t_step q_t_named q_t_pile q_t_sums1 q_t_parts1 q_t_trace q_t_bits q_t_sizes q_t_number q_t_aside : Nat} {c_images : Int32} {c_at : Int32} {c_open : Int32} {c_steps : Int32} {c_use : Int32} {c_traced : Int32} {c_speaks : Int32} {c_isParted : Int32} {Q : Int32 → (Nat → Int32) → (Nat → Int32) → (Nat → Int32) → (Nat → Int32) → (Nat → Int32) → Prop} (R : RETi g cX7_clean 6 (fun (r : Int32) w => ∃ (c_s' : Nat → Int32) (c_laid' : Nat → Int32) (c_errors' : Nat → Int32) (c_named' : Nat → Int32) (c_pile' : Nat → Int32), Q r c_s' c_laid' c_errors' c_named' c_pile' ∧ w = [(q_t, .inr (7, [.ref q_t_s, .ref q_t_k, .ref q_t_laid, .int c_images, .ref q_t_errors, .int c_at, .int c_open, .int c_steps, .int c_use, .ref q_t_step, .ref q_t_named, .ref q_t_pile, .ref q_t_sums1, .ref q_t_parts1, .int c_traced, .ref q_t_trace, .int c_speaks, .int c_isParted, .ref q_t_bits, .ref q_t_sizes, .ref q_t_number, .ref q_t_aside])), (q_t_s, .inl (g.X.cI, 476, .inl c_s')), (q_t_laid, .inl (g.X.cI, 142, .inl c_laid')), (q_t_errors, .inl (g.X.cI, 7, .inl c_errors')), (q_t_named, .inl (g.X.cI, 128, .inl c_named')), (q_t_pile, .inl (g.X.cI, 64, .inl c_pile'))])) : ∀ (n : Nat) (x1 : Int32) (x2 : Int32) (x3 : Int32) (c_s : Nat → Int32) (c_laid : Nat → Int32) (c_errors : Nat → Int32) (c_named : Nat → Int32) (c_pile : Nat → Int32), wp_X7_clean_b32 Q n x1 x2 x3 c_s c_laid c_errors c_named c_pile → ST g 0 0 32 [(0, .ref q_t), (1, .int x1), (2, .int x2), (3, .int x3)] [] [(q_t, .inr (7, [.ref q_t_s, .ref q_t_k, .ref q_t_laid, .int c_images, .ref q_t_errors, .int c_at, .int c_open, .int c_steps, .int c_use, .ref q_t_step, .ref q_t_named, .ref q_t_pile, .ref q_t_sums1, .ref q_t_parts1, .int c_traced, .ref q_t_trace, .int c_speaks, .int c_isParted, .ref q_t_bits, .ref q_t_sizes, .ref q_t_number, .ref q_t_aside])), (q_t_s, .inl (g.X.cI, 476, .inl c_s)), (q_t_laid, .inl (g.X.cI, 142, .inl c_laid)), (q_t_errors, .inl (g.X.cI, 7, .inl c_errors)), (q_t_named, .inl (g.X.cI, 128, .inl c_named)), (q_t_pile, .inl (g.X.cI, 64, .inl c_pile))] := by
  intro n
  induction n with
  | zero => intro x1 x2 x3 c_s c_laid c_errors c_named c_pile h; exact False.elim h
  | succ n hK32 =>
    intro x1 x2 x3 c_s c_laid c_errors c_named c_pile h
    unfold wp_X7_clean_b32 at h
    refine st_iload_n G 33 rfl 3 rfl dX7_clean_32 rfl ?_
    refine st_bipush G 35 rfl (60 : Int32) (by decide) dX7_clean_33 ?_
    refine st_icmp_gt G 57 38 rfl dX7_clean_35 rfl (fun c => ?_) (fun c => ?_)
    · have h := h.1 c
      exact b_X7_clean_57 G R h
    have h := h.2 c
    refine st_aload_n G 39 rfl 0 rfl dX7_clean_38 rfl ?_
    refine st_iload_n G 40 rfl 1 rfl dX7_clean_39 rfl ?_
    refine st_cVio G lk_X7_213 (c_X7_whoIsClean g.l g.D g.X q_t q_t_s q_t_k q_t_laid q_t_errors q_t_step q_t_named q_t_pile q_t_sums1 q_t_parts1 q_t_trace q_t_bits q_t_sizes q_t_number q_t_aside c_images c_at c_open c_steps c_use c_traced c_speaks c_isParted c_s x1 _ h) ⟨rfl, rfl, ⟨Nat.le_of_ble_eq_true rfl, Nat.le_of_ble_eq_true rfl⟩, Nat.zero_le _, Nat.zero_le _⟩ 43 rfl [0, 1] rfl (by decide) 0 7 rfl rfl rfl (Nat.le_of_ble_eq_true rfl) rfl dX7_clean_40 (fun r_40 h => ?_)
    refine st_iconst G 44 rfl (-1 : Int32) (by decide) dX7_clean_43 ?_
    refine st_icmp_ne G 57 47 rfl dX7_clean_44 rfl (fun c => ?_) (fun c => ?_)
    · have h := h.1 c
      exact b_X7_clean_57 G R h
    have h := h.2 c
    refine st_aload_n G 48 rfl 0 rfl dX7_clean_47 rfl ?_
    refine st_cVv G lk_X7_198 (c_X7_aYear g.l g.D g.X q_t q_t_s q_t_k q_t_laid q_t_errors q_t_step q_t_named q_t_pile q_t_sums1 q_t_parts1 q_t_trace q_t_bits q_t_sizes q_t_number q_t_aside c_images c_at c_open c_steps c_use c_traced c_speaks c_isParted c_s c_named c_pile _ h) ⟨rfl, rfl, ⟨Nat.le_of_ble_eq_true rfl, Nat.le_of_ble_eq_true rfl⟩, Nat.zero_le _, Nat.zero_le _⟩ 51 rfl [0, 1, 4, 5] rfl (by decide) 0 7 rfl rfl rfl (Nat.le_of_ble_eq_true rfl) rfl dX7_clean_48 (fun w hq => ?_)
    obtain ⟨c_s_48, c_named_48, c_pile_48, h, rfl⟩ := hq
    refine st_wp (ws' := [(q_t, .inr (7, [.ref q_t_s, .ref q_t_k, .ref q_t_laid, .int c_images, .ref q_t_errors, .int c_at, .int c_open, .int c_steps, .int c_use, .ref q_t_step, .ref q_t_named, .ref q_t_pile, .ref q_t_sums1, .ref q_t_parts1, .int c_traced, .ref q_t_trace, .int c_speaks, .int c_isParted, .ref q_t_bits, .ref q_t_sizes, .ref q_t_number, .ref q_t_aside])), (q_t_s, .inl (g.X.cI, 476, .inl c_s_48)), (q_t_laid, .inl (g.X.cI, 142, .inl c_laid)), (q_t_errors, .inl (g.X.cI, 7, .inl c_errors)), (q_t_named, .inl (g.X.cI, 128, .inl c_named_48)), (q_t_pile, .inl (g.X.cI, 64, .inl c_pile_48))]) 6 [2, 3] (by decide) rfl rfl (by rfl) [(q_t_laid, .inl (g.X.cI, 142, .inl c_laid)), (q_t_errors, .inl (g.X.cI, 7, .inl c_errors))] (by rfl) rfl ?_
    obtain ⟨x3_51, ex3_51⟩ : ∃ y : Int32, y = (x3 + (1 : Int32)) := ⟨_, rfl⟩
    have h := h x3_51 ex3_51
    refine st_iinc G 54 rfl [(3, .int x3_51), (0, .ref q_t), (1, .int x1), (2, .int x2)] x3_51 3 rfl (by rw [ex3_51]; rfl) dX7_clean_51 (by decide) rfl ?_
    refine st_goto G 32 dX7_clean_54 rfl ?_
    refine st_L (L' := [(0, .ref q_t), (1, .int x1), (2, .int x2), (3, .int x3_51)]) [1, 2, 3, 0] rfl ?_
    exact hK32 _ _ _ _ _ _ _ _ h
set_option maxRecDepth 100000 in
set_option maxHeartbeats 4000000 in
theorem b_X7_clean_e {g : GT} (G : GOOD g RX7 cX7_clean 5 rm_X7_clean) {q_t q_t_s q_t_k q_t_laid q_t_errors q_t_step q_t_named q_t_pile q_t_sums1 q_t_parts1 q_t_trace q_t_bits q_t_sizes q_t_number q_t_aside : Nat} {c_images : Int32} {c_at : Int32} {c_open : Int32} {c_steps : Int32} {c_use : Int32} {c_traced : Int32} {c_speaks : Int32} {c_isParted : Int32} {c_s : Nat → Int32} {c_laid : Nat → Int32} {c_errors : Nat → Int32} {c_named : Nat → Int32} {c_pile : Nat → Int32} {x1 : Int32} {x2 : Int32} {Q : Int32 → (Nat → Int32) → (Nat → Int32) → (Nat → Int32) → (Nat → Int32) → (Nat → Int32) → Prop} (R : RETi g cX7_clean 6 (fun (r : Int32) w => ∃ (c_s' : Nat → Int32) (c_laid' : Nat → Int32) (c_errors' : Nat → Int32) (c_named' : Nat → Int32) (c_pile' : Nat → Int32), Q r c_s' c_laid' c_errors' c_named' c_pile' ∧ w = [(q_t, .inr (7, [.ref q_t_s, .ref q_t_k, .ref q_t_laid, .int c_images, .ref q_t_errors, .int c_at, .int c_open, .int c_steps, .int c_use, .ref q_t_step, .ref q_t_named, .ref q_t_pile, .ref q_t_sums1, .ref q_t_parts1, .int c_traced, .ref q_t_trace, .int c_speaks, .int c_isParted, .ref q_t_bits, .ref q_t_sizes, .ref q_t_number, .ref q_t_aside])), (q_t_s, .inl (g.X.cI, 476, .inl c_s')), (q_t_laid, .inl (g.X.cI, 142, .inl c_laid')), (q_t_errors, .inl (g.X.cI, 7, .inl c_errors')), (q_t_named, .inl (g.X.cI, 128, .inl c_named')), (q_t_pile, .inl (g.X.cI, 64, .inl c_pile'))])) (h : wp_X7_clean x1 x2 c_s c_laid c_errors c_named c_pile Q) : ST g 0 0 0 [(0, .ref q_t), (1, .int x1), (2, .int x2)] [] [(q_t, .inr (7, [.ref q_t_s, .ref q_t_k, .ref q_t_laid, .int c_images, .ref q_t_errors, .int c_at, .int c_open, .int c_steps, .int c_use, .ref q_t_step, .ref q_t_named, .ref q_t_pile, .ref q_t_sums1, .ref q_t_parts1, .int c_traced, .ref q_t_trace, .int c_speaks, .int c_isParted, .ref q_t_bits, .ref q_t_sizes, .ref q_t_number, .ref q_t_aside])), (q_t_s, .inl (g.X.cI, 476, .inl c_s)), (q_t_laid, .inl (g.X.cI, 142, .inl c_laid)), (q_t_errors, .inl (g.X.cI, 7, .inl c_errors)), (q_t_named, .inl (g.X.cI, 128, .inl c_named)), (q_t_pile, .inl (g.X.cI, 64, .inl c_pile))] := by
  unfold wp_X7_clean at h
  refine st_iload_n G 1 rfl 1 rfl dX7_clean_0 rfl ?_
  refine st_iconst G 2 rfl (0 : Int32) (by decide) dX7_clean_1 ?_
  refine st_sipush G 5 rfl (500 : Int32) (by decide) dX7_clean_2 ?_
  refine st_cSio G lk_X7_53 (c_X7_in g.l g.D g.X x1 (0 : Int32) (500 : Int32) _ h) ⟨rfl, rfl, ⟨Nat.le_of_ble_eq_true rfl, Nat.le_of_ble_eq_true rfl⟩, Nat.zero_le _, Nat.zero_le _⟩ 8 rfl [] rfl (by decide) rfl (Nat.le_of_ble_eq_true rfl) rfl dX7_clean_5 (fun r_5 h => ?_)
  refine st_if_eq G 20 11 rfl dX7_clean_8 rfl (fun c => ?_) (fun c => ?_)
  · have h := h.1 c
    refine st_aload_n G 21 rfl 0 rfl dX7_clean_20 rfl ?_
    refine st_iconst G 22 rfl (1 : Int32) (by decide) dX7_clean_21 ?_
    refine st_cVi G lk_X7_65 (c_X7_error g.l g.D g.X q_t q_t_s q_t_k q_t_laid q_t_errors q_t_step q_t_named q_t_pile q_t_sums1 q_t_parts1 q_t_trace q_t_bits q_t_sizes q_t_number q_t_aside c_images c_at c_open c_steps c_use c_traced c_speaks c_isParted c_errors (1 : Int32) _ h) ⟨rfl, rfl, ⟨Nat.le_of_ble_eq_true rfl, Nat.le_of_ble_eq_true rfl⟩, Nat.zero_le _, Nat.zero_le _⟩ 25 rfl [0, 3] rfl (by decide) 0 7 rfl rfl rfl (Nat.le_of_ble_eq_true rfl) rfl dX7_clean_22 (fun r_22 w hq => ?_)
    obtain ⟨c_errors_22, h, rfl⟩ := hq
    refine st_wp (ws' := [(q_t, .inr (7, [.ref q_t_s, .ref q_t_k, .ref q_t_laid, .int c_images, .ref q_t_errors, .int c_at, .int c_open, .int c_steps, .int c_use, .ref q_t_step, .ref q_t_named, .ref q_t_pile, .ref q_t_sums1, .ref q_t_parts1, .int c_traced, .ref q_t_trace, .int c_speaks, .int c_isParted, .ref q_t_bits, .ref q_t_sizes, .ref q_t_number, .ref q_t_aside])), (q_t_s, .inl (g.X.cI, 476, .inl c_s)), (q_t_laid, .inl (g.X.cI, 142, .inl c_laid)), (q_t_errors, .inl (g.X.cI, 7, .inl c_errors_22)), (q_t_named, .inl (g.X.cI, 128, .inl c_named)), (q_t_pile, .inl (g.X.cI, 64, .inl c_pile))]) 6 [1, 2, 4, 5] (by decide) rfl rfl (by rfl) [(q_t_s, .inl (g.X.cI, 476, .inl c_s)), (q_t_laid, .inl (g.X.cI, 142, .inl c_laid)), (q_t_named, .inl (g.X.cI, 128, .inl c_named)), (q_t_pile, .inl (g.X.cI, 64, .inl c_pile))] (by rfl) rfl ?_
    exact R _ _ _ _ dX7_clean_25 (Nat.le_of_ble_eq_true rfl) ⟨_, _, _, _, _, h, rfl⟩
  have h := h.2 c
  refine st_iload_n G 12 rfl 2 rfl dX7_clean_11 rfl ?_
  refine st_iconst G 13 rfl (0 : Int32) (by decide) dX7_clean_12 ?_
  refine st_iconst G 14 rfl (1 : Int32) (by decide) dX7_clean_13 ?_
  refine st_cSio G lk_X7_53 (c_X7_in g.l g.D g.X x2 (0 : Int32) (1 : Int32) _ h) ⟨rfl, rfl, ⟨Nat.le_of_ble_eq_true rfl, Nat.le_of_ble_eq_true rfl⟩, Nat.zero_le _, Nat.zero_le _⟩ 17 rfl [] rfl (by decide) rfl (Nat.le_of_ble_eq_true rfl) rfl dX7_clean_14 (fun r_14 h => ?_)
  refine st_if_ne G 26 20 rfl dX7_clean_17 rfl (fun c => ?_) (fun c => ?_)
  · have h := h.1 c
    refine st_aload_n G 27 rfl 0 rfl dX7_clean_26 rfl ?_
    refine st_cVv G lk_X7_207 (c_X7_layDown g.l g.D g.X q_t q_t_s q_t_k q_t_laid q_t_errors q_t_step q_t_named q_t_pile q_t_sums1 q_t_parts1 q_t_trace q_t_bits q_t_sizes q_t_number q_t_aside c_images c_at c_open c_steps c_use c_traced c_speaks c_isParted c_s c_laid _ h) ⟨rfl, rfl, ⟨Nat.le_of_ble_eq_true rfl, Nat.le_of_ble_eq_true rfl⟩, Nat.zero_le _, Nat.zero_le _⟩ 30 rfl [0, 1, 2] rfl (by decide) 0 7 rfl rfl rfl (Nat.le_of_ble_eq_true rfl) rfl dX7_clean_27 (fun w hq => ?_)
    obtain ⟨c_laid_27, h, rfl⟩ := hq
    refine st_wp (ws' := [(q_t, .inr (7, [.ref q_t_s, .ref q_t_k, .ref q_t_laid, .int c_images, .ref q_t_errors, .int c_at, .int c_open, .int c_steps, .int c_use, .ref q_t_step, .ref q_t_named, .ref q_t_pile, .ref q_t_sums1, .ref q_t_parts1, .int c_traced, .ref q_t_trace, .int c_speaks, .int c_isParted, .ref q_t_bits, .ref q_t_sizes, .ref q_t_number, .ref q_t_aside])), (q_t_s, .inl (g.X.cI, 476, .inl c_s)), (q_t_laid, .inl (g.X.cI, 142, .inl c_laid_27)), (q_t_errors, .inl (g.X.cI, 7, .inl c_errors)), (q_t_named, .inl (g.X.cI, 128, .inl c_named)), (q_t_pile, .inl (g.X.cI, 64, .inl c_pile))]) 6 [3, 4, 5] (by decide) rfl rfl (by rfl) [(q_t_errors, .inl (g.X.cI, 7, .inl c_errors)), (q_t_named, .inl (g.X.cI, 128, .inl c_named)), (q_t_pile, .inl (g.X.cI, 64, .inl c_pile))] (by rfl) rfl ?_
    refine st_iconst G 31 rfl (0 : Int32) (by decide) dX7_clean_30 ?_
    refine st_istore_n G 32 rfl [(3, .int (0 : Int32)), (0, .ref q_t), (1, .int x1), (2, .int x2)] dX7_clean_31 rfl (by decide) rfl ?_
    refine st_L (L' := [(0, .ref q_t), (1, .int x1), (2, .int x2), (3, .int (0 : Int32))]) [1, 2, 3, 0] rfl ?_
    obtain ⟨n, h⟩ := h
    exact b_X7_clean_32 G R n _ _ _ _ _ _ _ _ h
  have h := h.2 c
  refine st_aload_n G 21 rfl 0 rfl dX7_clean_20 rfl ?_
  refine st_iconst G 22 rfl (1 : Int32) (by decide) dX7_clean_21 ?_
  refine st_cVi G lk_X7_65 (c_X7_error g.l g.D g.X q_t q_t_s q_t_k q_t_laid q_t_errors q_t_step q_t_named q_t_pile q_t_sums1 q_t_parts1 q_t_trace q_t_bits q_t_sizes q_t_number q_t_aside c_images c_at c_open c_steps c_use c_traced c_speaks c_isParted c_errors (1 : Int32) _ h) ⟨rfl, rfl, ⟨Nat.le_of_ble_eq_true rfl, Nat.le_of_ble_eq_true rfl⟩, Nat.zero_le _, Nat.zero_le _⟩ 25 rfl [0, 3] rfl (by decide) 0 7 rfl rfl rfl (Nat.le_of_ble_eq_true rfl) rfl dX7_clean_22 (fun r_22 w hq => ?_)
  obtain ⟨c_errors_22, h, rfl⟩ := hq
  refine st_wp (ws' := [(q_t, .inr (7, [.ref q_t_s, .ref q_t_k, .ref q_t_laid, .int c_images, .ref q_t_errors, .int c_at, .int c_open, .int c_steps, .int c_use, .ref q_t_step, .ref q_t_named, .ref q_t_pile, .ref q_t_sums1, .ref q_t_parts1, .int c_traced, .ref q_t_trace, .int c_speaks, .int c_isParted, .ref q_t_bits, .ref q_t_sizes, .ref q_t_number, .ref q_t_aside])), (q_t_s, .inl (g.X.cI, 476, .inl c_s)), (q_t_laid, .inl (g.X.cI, 142, .inl c_laid)), (q_t_errors, .inl (g.X.cI, 7, .inl c_errors_22)), (q_t_named, .inl (g.X.cI, 128, .inl c_named)), (q_t_pile, .inl (g.X.cI, 64, .inl c_pile))]) 6 [1, 2, 4, 5] (by decide) rfl rfl (by rfl) [(q_t_s, .inl (g.X.cI, 476, .inl c_s)), (q_t_laid, .inl (g.X.cI, 142, .inl c_laid)), (q_t_named, .inl (g.X.cI, 128, .inl c_named)), (q_t_pile, .inl (g.X.cI, 64, .inl c_pile))] (by rfl) rfl ?_
  exact R _ _ _ _ dX7_clean_25 (Nat.le_of_ble_eq_true rfl) ⟨_, _, _, _, _, h, rfl⟩
set_option maxRecDepth 100000 in
set_option maxHeartbeats 4000000 in
theorem c_X7_clean (l : Launch) (D : va_G) (X : XT) (q_t q_t_s q_t_k q_t_laid q_t_errors q_t_step q_t_named q_t_pile q_t_sums1 q_t_parts1 q_t_trace q_t_bits q_t_sizes q_t_number q_t_aside : Nat) (c_images : Int32) (c_at : Int32) (c_open : Int32) (c_steps : Int32) (c_use : Int32) (c_traced : Int32) (c_speaks : Int32) (c_isParted : Int32) (c_s : Nat → Int32) (c_laid : Nat → Int32) (c_errors : Nat → Int32) (c_named : Nat → Int32) (c_pile : Nat → Int32) (x1 : Int32) (x2 : Int32) (Q : Int32 → (Nat → Int32) → (Nat → Int32) → (Nat → Int32) → (Nat → Int32) → (Nat → Int32) → Prop) (h : wp_X7_clean x1 x2 c_s c_laid c_errors c_named c_pile Q) : CTi l D X yX7_clean cX7_clean 5 .int rm_X7_clean [.ref q_t, .int x1, .int x2] [(q_t, .inr (7, [.ref q_t_s, .ref q_t_k, .ref q_t_laid, .int c_images, .ref q_t_errors, .int c_at, .int c_open, .int c_steps, .int c_use, .ref q_t_step, .ref q_t_named, .ref q_t_pile, .ref q_t_sums1, .ref q_t_parts1, .int c_traced, .ref q_t_trace, .int c_speaks, .int c_isParted, .ref q_t_bits, .ref q_t_sizes, .ref q_t_number, .ref q_t_aside])), (q_t_s, .inl (X.cI, 476, .inl c_s)), (q_t_laid, .inl (X.cI, 142, .inl c_laid)), (q_t_errors, .inl (X.cI, 7, .inl c_errors)), (q_t_named, .inl (X.cI, 128, .inl c_named)), (q_t_pile, .inl (X.cI, 64, .inl c_pile))] (fun (r : Int32) w => ∃ (c_s' : Nat → Int32) (c_laid' : Nat → Int32) (c_errors' : Nat → Int32) (c_named' : Nat → Int32) (c_pile' : Nat → Int32), Q r c_s' c_laid' c_errors' c_named' c_pile' ∧ w = [(q_t, .inr (7, [.ref q_t_s, .ref q_t_k, .ref q_t_laid, .int c_images, .ref q_t_errors, .int c_at, .int c_open, .int c_steps, .int c_use, .ref q_t_step, .ref q_t_named, .ref q_t_pile, .ref q_t_sums1, .ref q_t_parts1, .int c_traced, .ref q_t_trace, .int c_speaks, .int c_isParted, .ref q_t_bits, .ref q_t_sizes, .ref q_t_number, .ref q_t_aside])), (q_t_s, .inl (X.cI, 476, .inl c_s')), (q_t_laid, .inl (X.cI, 142, .inl c_laid')), (q_t_errors, .inl (X.cI, 7, .inl c_errors')), (q_t_named, .inl (X.cI, 128, .inl c_named')), (q_t_pile, .inl (X.cI, 64, .inl c_pile'))]) :=
  ct_i (by decide) (Nat.le_of_ble_eq_true rfl) (fun g hl hD hX G R => by subst hl; subst hD; subst hX; exact b_X7_clean_e G R h)
set_option maxRecDepth 100000 in
set_option maxHeartbeats 4000000 in
theorem b_X7_arePoured_6 {g : GT} (G : GOOD g RX7 cX7_arePoured 6 rm_X7_arePoured) {q_t q_t_s q_t_k q_t_laid q_t_errors q_t_step q_t_named q_t_pile q_t_sums1 q_t_parts1 q_t_trace q_t_bits q_t_sizes q_t_number q_t_aside : Nat} {c_images : Int32} {c_at : Int32} {c_open : Int32} {c_steps : Int32} {c_use : Int32} {c_traced : Int32} {c_speaks : Int32} {c_isParted : Int32} {c_s : Nat → Int32} {Q : Int32 → Prop} (R : RETz g cX7_arePoured 2 (fun (r : Int32) w => (Q r) ∧ w = [(q_t, .inr (7, [.ref q_t_s, .ref q_t_k, .ref q_t_laid, .int c_images, .ref q_t_errors, .int c_at, .int c_open, .int c_steps, .int c_use, .ref q_t_step, .ref q_t_named, .ref q_t_pile, .ref q_t_sums1, .ref q_t_parts1, .int c_traced, .ref q_t_trace, .int c_speaks, .int c_isParted, .ref q_t_bits, .ref q_t_sizes, .ref q_t_number, .ref q_t_aside])), (q_t_s, .inl (g.X.cI, 476, .inl c_s))])) : ∀ (n : Nat) (x1 : Int32) (x2 : Int32) (x3 : Int32) (x4 : Int32) (x5 : Int32), wp_X7_arePoured_b6 Q c_s n x1 x2 x3 x4 x5 → ST g 0 0 6 [(0, .ref q_t), (1, .int x1), (2, .int x2), (3, .int x3), (4, .int x4), (5, .int x5)] [] [(q_t, .inr (7, [.ref q_t_s, .ref q_t_k, .ref q_t_laid, .int c_images, .ref q_t_errors, .int c_at, .int c_open, .int c_steps, .int c_use, .ref q_t_step, .ref q_t_named, .ref q_t_pile, .ref q_t_sums1, .ref q_t_parts1, .int c_traced, .ref q_t_trace, .int c_speaks, .int c_isParted, .ref q_t_bits, .ref q_t_sizes, .ref q_t_number, .ref q_t_aside])), (q_t_s, .inl (g.X.cI, 476, .inl c_s))] := by
  intro n
  induction n with
  | zero => intro x1 x2 x3 x4 x5 h; exact False.elim h
  | succ n hK6 =>
    intro x1 x2 x3 x4 x5 h
    unfold wp_X7_arePoured_b6 at h
    refine st_iload G 8 rfl 5 rfl dX7_arePoured_6 ?_
    refine st_iconst G 9 rfl (5 : Int32) (by decide) dX7_arePoured_8 ?_
    refine st_icmp_ge G 57 12 rfl dX7_arePoured_9 rfl (fun c => ?_) (fun c => ?_)
    · have h := h.1 c
      refine st_iload G 59 rfl 4 rfl dX7_arePoured_57 ?_
      obtain ⟨hbz, h⟩ := h
      exact R _ _ _ _ dX7_arePoured_59 (Nat.le_of_ble_eq_true rfl) hbz ⟨h, rfl⟩
    have h := h.2 c
    refine st_iload G 14 rfl 4 rfl dX7_arePoured_12 ?_
    refine st_if_eq G 48 17 rfl dX7_arePoured_14 rfl (fun c => ?_) (fun c => ?_)
    · have h := h.1 c
      refine st_iconst G 49 rfl (0 : Int32) (by decide) dX7_arePoured_48 ?_
      refine st_istore G 51 rfl [(4, .int (0 : Int32)), (0, .ref q_t), (1, .int x1), (2, .int x2), (3, .int x3), (5, .int x5)] dX7_arePoured_49 (by decide) rfl ?_
      obtain ⟨x5_51, ex5_51⟩ : ∃ y : Int32, y = (x5 + (1 : Int32)) := ⟨_, rfl⟩
      have h := h x5_51 ex5_51
      refine st_iinc G 54 rfl [(5, .int x5_51), (4, .int (0 : Int32)), (0, .ref q_t), (1, .int x1), (2, .int x2), (3, .int x3)] x5_51 5 rfl (by rw [ex5_51]; rfl) dX7_arePoured_51 (by decide) rfl ?_
      refine st_goto G 6 dX7_arePoured_54 rfl ?_
      refine st_L (L' := [(0, .ref q_t), (1, .int x1), (2, .int x2), (3, .int x3), (4, .int (0 : Int32)), (5, .int x5_51)]) [2, 3, 4, 5, 1, 0] rfl ?_
      exact hK6 _ _ _ _ _ h
    have h := h.2 c
    refine st_aload_n G 18 rfl 0 rfl dX7_arePoured_17 rfl ?_
    refine st_iload_n G 19 rfl 1 rfl dX7_arePoured_18 rfl ?_
    refine st_iload G 21 rfl 5 rfl dX7_arePoured_19 ?_
    refine st_cVio G lk_X7_57 (c_X7_has g.l g.D g.X q_t q_t_s q_t_k q_t_laid q_t_errors q_t_step q_t_named q_t_pile q_t_sums1 q_t_parts1 q_t_trace q_t_bits q_t_sizes q_t_number q_t_aside c_images c_at c_open c_steps c_use c_traced c_speaks c_isParted c_s x1 x5 _ h) ⟨rfl, rfl, ⟨Nat.le_of_ble_eq_true rfl, Nat.le_of_ble_eq_true rfl⟩, Nat.zero_le _, Nat.zero_le _⟩ 24 rfl [0, 1] rfl (by decide) 0 7 rfl rfl rfl (Nat.le_of_ble_eq_true rfl) rfl dX7_arePoured_21 (fun r_21 h => ?_)
    refine st_aload_n G 25 rfl 0 rfl dX7_arePoured_24 rfl ?_
    refine st_iload_n G 26 rfl 2 rfl dX7_arePoured_25 rfl ?_
    refine st_iload G 28 rfl 5 rfl dX7_arePoured_26 ?_
    refine st_cVio G lk_X7_57 (c_X7_has g.l g.D g.X q_t q_t_s q_t_k q_t_laid q_t_errors q_t_step q_t_named q_t_pile q_t_sums1 q_t_parts1 q_t_trace q_t_bits q_t_sizes q_t_number q_t_aside c_images c_at c_open c_steps c_use c_traced c_speaks c_isParted c_s x2 x5 _ h) ⟨rfl, rfl, ⟨Nat.le_of_ble_eq_true rfl, Nat.le_of_ble_eq_true rfl⟩, Nat.zero_le _, Nat.zero_le _⟩ 31 rfl [0, 1] rfl (by decide) 0 7 rfl rfl rfl (Nat.le_of_ble_eq_true rfl) rfl dX7_arePoured_28 (fun r_28 h => ?_)
    refine st_iadd G 32 rfl dX7_arePoured_31 ?_
    refine st_iconst G 33 rfl (2 : Int32) (by decide) dX7_arePoured_32 ?_
    refine st_idiv G 34 rfl (by decide) dX7_arePoured_33 ?_
    refine st_aload_n G 35 rfl 0 rfl dX7_arePoured_34 rfl ?_
    refine st_iload_n G 36 rfl 3 rfl dX7_arePoured_35 rfl ?_
    refine st_iload G 38 rfl 5 rfl dX7_arePoured_36 ?_
    refine st_cVio G lk_X7_57 (c_X7_has g.l g.D g.X q_t q_t_s q_t_k q_t_laid q_t_errors q_t_step q_t_named q_t_pile q_t_sums1 q_t_parts1 q_t_trace q_t_bits q_t_sizes q_t_number q_t_aside c_images c_at c_open c_steps c_use c_traced c_speaks c_isParted c_s x3 x5 _ h) ⟨rfl, rfl, ⟨Nat.le_of_ble_eq_true rfl, Nat.le_of_ble_eq_true rfl⟩, Nat.zero_le _, Nat.zero_le _⟩ 41 rfl [0, 1] rfl (by decide) 0 7 rfl rfl rfl (Nat.le_of_ble_eq_true rfl) rfl dX7_arePoured_38 (fun r_38 h => ?_)
    refine st_icmp_ne G 48 44 rfl dX7_arePoured_41 rfl (fun c => ?_) (fun c => ?_)
    · have h := h.1 c
      refine st_iconst G 49 rfl (0 : Int32) (by decide) dX7_arePoured_48 ?_
      refine st_istore G 51 rfl [(4, .int (0 : Int32)), (0, .ref q_t), (1, .int x1), (2, .int x2), (3, .int x3), (5, .int x5)] dX7_arePoured_49 (by decide) rfl ?_
      obtain ⟨x5_51, ex5_51⟩ : ∃ y : Int32, y = (x5 + (1 : Int32)) := ⟨_, rfl⟩
      have h := h x5_51 ex5_51
      refine st_iinc G 54 rfl [(5, .int x5_51), (4, .int (0 : Int32)), (0, .ref q_t), (1, .int x1), (2, .int x2), (3, .int x3)] x5_51 5 rfl (by rw [ex5_51]; rfl) dX7_arePoured_51 (by decide) rfl ?_
      refine st_goto G 6 dX7_arePoured_54 rfl ?_
      refine st_L (L' := [(0, .ref q_t), (1, .int x1), (2, .int x2), (3, .int x3), (4, .int (0 : Int32)), (5, .int x5_51)]) [2, 3, 4, 5, 1, 0] rfl ?_
      exact hK6 _ _ _ _ _ h
    have h := h.2 c
    refine st_iconst G 45 rfl (1 : Int32) (by decide) dX7_arePoured_44 ?_
    refine st_goto G 49 dX7_arePoured_45 rfl ?_
    refine st_istore G 51 rfl [(4, .int (1 : Int32)), (0, .ref q_t), (1, .int x1), (2, .int x2), (3, .int x3), (5, .int x5)] dX7_arePoured_49 (by decide) rfl ?_
    obtain ⟨x5_51, ex5_51⟩ : ∃ y : Int32, y = (x5 + (1 : Int32)) := ⟨_, rfl⟩
    have h := h x5_51 ex5_51
    refine st_iinc G 54 rfl [(5, .int x5_51), (4, .int (1 : Int32)), (0, .ref q_t), (1, .int x1), (2, .int x2), (3, .int x3)] x5_51 5 rfl (by rw [ex5_51]; rfl) dX7_arePoured_51 (by decide) rfl ?_
    refine st_goto G 6 dX7_arePoured_54 rfl ?_
    refine st_L (L' := [(0, .ref q_t), (1, .int x1), (2, .int x2), (3, .int x3), (4, .int (1 : Int32)), (5, .int x5_51)]) [2, 3, 4, 5, 1, 0] rfl ?_
    exact hK6 _ _ _ _ _ h
set_option maxRecDepth 100000 in
set_option maxHeartbeats 4000000 in
theorem b_X7_arePoured_e {g : GT} (G : GOOD g RX7 cX7_arePoured 6 rm_X7_arePoured) {q_t q_t_s q_t_k q_t_laid q_t_errors q_t_step q_t_named q_t_pile q_t_sums1 q_t_parts1 q_t_trace q_t_bits q_t_sizes q_t_number q_t_aside : Nat} {c_images : Int32} {c_at : Int32} {c_open : Int32} {c_steps : Int32} {c_use : Int32} {c_traced : Int32} {c_speaks : Int32} {c_isParted : Int32} {c_s : Nat → Int32} {x1 : Int32} {x2 : Int32} {x3 : Int32} {Q : Int32 → Prop} (R : RETz g cX7_arePoured 2 (fun (r : Int32) w => (Q r) ∧ w = [(q_t, .inr (7, [.ref q_t_s, .ref q_t_k, .ref q_t_laid, .int c_images, .ref q_t_errors, .int c_at, .int c_open, .int c_steps, .int c_use, .ref q_t_step, .ref q_t_named, .ref q_t_pile, .ref q_t_sums1, .ref q_t_parts1, .int c_traced, .ref q_t_trace, .int c_speaks, .int c_isParted, .ref q_t_bits, .ref q_t_sizes, .ref q_t_number, .ref q_t_aside])), (q_t_s, .inl (g.X.cI, 476, .inl c_s))])) (h : wp_X7_arePoured x1 x2 x3 c_s Q) : ST g 0 0 0 [(0, .ref q_t), (1, .int x1), (2, .int x2), (3, .int x3)] [] [(q_t, .inr (7, [.ref q_t_s, .ref q_t_k, .ref q_t_laid, .int c_images, .ref q_t_errors, .int c_at, .int c_open, .int c_steps, .int c_use, .ref q_t_step, .ref q_t_named, .ref q_t_pile, .ref q_t_sums1, .ref q_t_parts1, .int c_traced, .ref q_t_trace, .int c_speaks, .int c_isParted, .ref q_t_bits, .ref q_t_sizes, .ref q_t_number, .ref q_t_aside])), (q_t_s, .inl (g.X.cI, 476, .inl c_s))] := by
  unfold wp_X7_arePoured at h
  refine st_iconst G 1 rfl (1 : Int32) (by decide) dX7_arePoured_0 ?_
  refine st_istore G 3 rfl [(4, .int (1 : Int32)), (0, .ref q_t), (1, .int x1), (2, .int x2), (3, .int x3)] dX7_arePoured_1 (by decide) rfl ?_
  refine st_iconst G 4 rfl (0 : Int32) (by decide) dX7_arePoured_3 ?_
  refine st_istore G 6 rfl [(5, .int (0 : Int32)), (4, .int (1 : Int32)), (0, .ref q_t), (1, .int x1), (2, .int x2), (3, .int x3)] dX7_arePoured_4 (by decide) rfl ?_
  refine st_L (L' := [(0, .ref q_t), (1, .int x1), (2, .int x2), (3, .int x3), (4, .int (1 : Int32)), (5, .int (0 : Int32))]) [2, 3, 4, 5, 1, 0] rfl ?_
  obtain ⟨n, h⟩ := h
  exact b_X7_arePoured_6 G R n _ _ _ _ _ h
set_option maxRecDepth 100000 in
set_option maxHeartbeats 4000000 in
theorem c_X7_arePoured (l : Launch) (D : va_G) (X : XT) (q_t q_t_s q_t_k q_t_laid q_t_errors q_t_step q_t_named q_t_pile q_t_sums1 q_t_parts1 q_t_trace q_t_bits q_t_sizes q_t_number q_t_aside : Nat) (c_images : Int32) (c_at : Int32) (c_open : Int32) (c_steps : Int32) (c_use : Int32) (c_traced : Int32) (c_speaks : Int32) (c_isParted : Int32) (c_s : Nat → Int32) (x1 : Int32) (x2 : Int32) (x3 : Int32) (Q : Int32 → Prop) (h : wp_X7_arePoured x1 x2 x3 c_s Q) : CTi l D X yX7_arePoured cX7_arePoured 6 .boolean rm_X7_arePoured [.ref q_t, .int x1, .int x2, .int x3] [(q_t, .inr (7, [.ref q_t_s, .ref q_t_k, .ref q_t_laid, .int c_images, .ref q_t_errors, .int c_at, .int c_open, .int c_steps, .int c_use, .ref q_t_step, .ref q_t_named, .ref q_t_pile, .ref q_t_sums1, .ref q_t_parts1, .int c_traced, .ref q_t_trace, .int c_speaks, .int c_isParted, .ref q_t_bits, .ref q_t_sizes, .ref q_t_number, .ref q_t_aside])), (q_t_s, .inl (X.cI, 476, .inl c_s))] (fun (r : Int32) w => (Q r) ∧ w = [(q_t, .inr (7, [.ref q_t_s, .ref q_t_k, .ref q_t_laid, .int c_images, .ref q_t_errors, .int c_at, .int c_open, .int c_steps, .int c_use, .ref q_t_step, .ref q_t_named, .ref q_t_pile, .ref q_t_sums1, .ref q_t_parts1, .int c_traced, .ref q_t_trace, .int c_speaks, .int c_isParted, .ref q_t_bits, .ref q_t_sizes, .ref q_t_number, .ref q_t_aside])), (q_t_s, .inl (X.cI, 476, .inl c_s))]) :=
  ct_z (by decide) (Nat.le_of_ble_eq_true rfl) (fun g hl hD hX G R => by subst hl; subst hD; subst hX; exact b_X7_arePoured_e G R h)
set_option maxRecDepth 100000 in
set_option maxHeartbeats 4000000 in
theorem b_X7_parents_51 {g : GT} (G : GOOD g RX7 cX7_parents 8 rm_X7_parents) {q_t q_t_s q_t_k q_t_laid q_t_errors q_t_step q_t_named q_t_pile q_t_sums1 q_t_parts1 q_t_trace q_t_bits q_t_sizes q_t_number q_t_aside : Nat} {c_images : Int32} {c_at : Int32} {c_open : Int32} {c_steps : Int32} {c_use : Int32} {c_traced : Int32} {c_speaks : Int32} {c_isParted : Int32} {c_s : Nat → Int32} {Q : Int32 → (Nat → Int32) → Prop} {KK34 : (Int32) → (Int32) → (Int32) → (Int32) → (Int32) → (Int32) → (Nat → Int32) → Prop} (R : RETi g cX7_parents 3 (fun (r : Int32) w => ∃ (c_errors' : Nat → Int32), Q r c_errors' ∧ w = [(q_t, .inr (7, [.ref q_t_s, .ref q_t_k, .ref q_t_laid, .int c_images, .ref q_t_errors, .int c_at, .int c_open, .int c_steps, .int c_use, .ref q_t_step, .ref q_t_named, .ref q_t_pile, .ref q_t_sums1, .ref q_t_parts1, .int c_traced, .ref q_t_trace, .int c_speaks, .int c_isParted, .ref q_t_bits, .ref q_t_sizes, .ref q_t_number, .ref q_t_aside])), (q_t_s, .inl (g.X.cI, 476, .inl c_s)), (q_t_errors, .inl (g.X.cI, 7, .inl c_errors'))])) (hK34 : ∀ (x1 : Int32) (x2 : Int32) (x3 : Int32) (x4 : Int32) (x5 : Int32) (x6 : Int32) (c_errors : Nat → Int32), KK34 x1 x2 x3 x4 x5 x6 c_errors → ST g 0 0 34 [(0, .ref q_t), (1, .int x1), (2, .int x2), (3, .int x3), (4, .int x4), (5, .int x5), (6, .int x6)] [] [(q_t, .inr (7, [.ref q_t_s, .ref q_t_k, .ref q_t_laid, .int c_images, .ref q_t_errors, .int c_at, .int c_open, .int c_steps, .int c_use, .ref q_t_step, .ref q_t_named, .ref q_t_pile, .ref q_t_sums1, .ref q_t_parts1, .int c_traced, .ref q_t_trace, .int c_speaks, .int c_isParted, .ref q_t_bits, .ref q_t_sizes, .ref q_t_number, .ref q_t_aside])), (q_t_s, .inl (g.X.cI, 476, .inl c_s)), (q_t_errors, .inl (g.X.cI, 7, .inl c_errors))]) : ∀ (n : Nat) (x1 : Int32) (x2 : Int32) (x3 : Int32) (x4 : Int32) (x5 : Int32) (x6 : Int32) (x7 : Int32) (c_errors : Nat → Int32), wp_X7_parents_b51 Q KK34 c_s n x1 x2 x3 x4 x5 x6 x7 c_errors → ST g 0 0 51 [(0, .ref q_t), (1, .int x1), (2, .int x2), (3, .int x3), (4, .int x4), (5, .int x5), (6, .int x6), (7, .int x7)] [] [(q_t, .inr (7, [.ref q_t_s, .ref q_t_k, .ref q_t_laid, .int c_images, .ref q_t_errors, .int c_at, .int c_open, .int c_steps, .int c_use, .ref q_t_step, .ref q_t_named, .ref q_t_pile, .ref q_t_sums1, .ref q_t_parts1, .int c_traced, .ref q_t_trace, .int c_speaks, .int c_isParted, .ref q_t_bits, .ref q_t_sizes, .ref q_t_number, .ref q_t_aside])), (q_t_s, .inl (g.X.cI, 476, .inl c_s)), (q_t_errors, .inl (g.X.cI, 7, .inl c_errors))] := by
  intro n
  induction n with
  | zero => intro x1 x2 x3 x4 x5 x6 x7 c_errors h; exact False.elim h
  | succ n hK51 =>
    intro x1 x2 x3 x4 x5 x6 x7 c_errors h
    unfold wp_X7_parents_b51 at h
    refine st_iload G 53 rfl 7 rfl dX7_parents_51 ?_
    refine st_aload_n G 54 rfl 0 rfl dX7_parents_53 rfl ?_
    refine st_get G inX7 rfl 0 (by decide) wd_82 57 rfl 0 rfl rfl dX7_parents_54 ?_
    refine st_iconst G 58 rfl (4 : Int32) (by decide) dX7_parents_57 ?_
    obtain ⟨hin, h⟩ := h
    refine st_iald G 59 rfl 1 rfl hin dX7_parents_58 ?_
    refine st_icmp_ge G 121 62 rfl dX7_parents_59 rfl (fun c => ?_) (fun c => ?_)
    · have h := h.1 c
      obtain ⟨x6_121, ex6_121⟩ : ∃ y : Int32, y = (x6 + (1 : Int32)) := ⟨_, rfl⟩
      have h := h x6_121 ex6_121
      refine st_iinc G 124 rfl [(6, .int x6_121), (0, .ref q_t), (1, .int x1), (2, .int x2), (3, .int x3), (4, .int x4), (5, .int x5), (7, .int x7)] x6_121 6 rfl (by rw [ex6_121]; rfl) dX7_parents_121 (by decide) rfl ?_
      refine st_goto G 34 dX7_parents_124 rfl ?_
      refine st_L (L' := [(0, .ref q_t), (1, .int x1), (2, .int x2), (3, .int x3), (4, .int x4), (5, .int x5), (6, .int x6_121)]) [1, 2, 3, 4, 5, 6, 0] rfl ?_
      exact hK34 _ _ _ _ _ _ _ h
    have h := h.2 c
    refine st_iload G 64 rfl 6 rfl dX7_parents_62 ?_
    refine st_iload_n G 65 rfl 1 rfl dX7_parents_64 rfl ?_
    refine st_icmp_eq G 115 68 rfl dX7_parents_65 rfl (fun c => ?_) (fun c => ?_)
    · have h := h.1 c
      obtain ⟨x7_115, ex7_115⟩ : ∃ y : Int32, y = (x7 + (1 : Int32)) := ⟨_, rfl⟩
      have h := h x7_115 ex7_115
      refine st_iinc G 118 rfl [(7, .int x7_115), (0, .ref q_t), (1, .int x1), (2, .int x2), (3, .int x3), (4, .int x4), (5, .int x5), (6, .int x6)] x7_115 7 rfl (by rw [ex7_115]; rfl) dX7_parents_115 (by decide) rfl ?_
      refine st_goto G 51 dX7_parents_118 rfl ?_
      refine st_L (L' := [(0, .ref q_t), (1, .int x1), (2, .int x2), (3, .int x3), (4, .int x4), (5, .int x5), (6, .int x6), (7, .int x7_115)]) [1, 2, 3, 4, 5, 6, 7, 0] rfl ?_
      exact hK51 _ _ _ _ _ _ _ _ h
    have h := h.2 c
    refine st_iload G 70 rfl 7 rfl dX7_parents_68 ?_
    refine st_iload_n G 71 rfl 1 rfl dX7_parents_70 rfl ?_
    refine st_icmp_eq G 115 74 rfl dX7_parents_71 rfl (fun c => ?_) (fun c => ?_)
    · have h := h.1 c
      obtain ⟨x7_115, ex7_115⟩ : ∃ y : Int32, y = (x7 + (1 : Int32)) := ⟨_, rfl⟩
      have h := h x7_115 ex7_115
      refine st_iinc G 118 rfl [(7, .int x7_115), (0, .ref q_t), (1, .int x1), (2, .int x2), (3, .int x3), (4, .int x4), (5, .int x5), (6, .int x6)] x7_115 7 rfl (by rw [ex7_115]; rfl) dX7_parents_115 (by decide) rfl ?_
      refine st_goto G 51 dX7_parents_118 rfl ?_
      refine st_L (L' := [(0, .ref q_t), (1, .int x1), (2, .int x2), (3, .int x3), (4, .int x4), (5, .int x5), (6, .int x6), (7, .int x7_115)]) [1, 2, 3, 4, 5, 6, 7, 0] rfl ?_
      exact hK51 _ _ _ _ _ _ _ _ h
    have h := h.2 c
    refine st_aload_n G 75 rfl 0 rfl dX7_parents_74 rfl ?_
    refine st_iload G 77 rfl 6 rfl dX7_parents_75 ?_
    refine st_iload G 79 rfl 7 rfl dX7_parents_77 ?_
    refine st_iload_n G 80 rfl 1 rfl dX7_parents_79 rfl ?_
    refine st_cVio G lk_X7_216 (c_X7_arePoured g.l g.D g.X q_t q_t_s q_t_k q_t_laid q_t_errors q_t_step q_t_named q_t_pile q_t_sums1 q_t_parts1 q_t_trace q_t_bits q_t_sizes q_t_number q_t_aside c_images c_at c_open c_steps c_use c_traced c_speaks c_isParted c_s x6 x7 x1 _ h) ⟨rfl, rfl, ⟨Nat.le_of_ble_eq_true rfl, Nat.le_of_ble_eq_true rfl⟩, Nat.zero_le _, Nat.zero_le _⟩ 83 rfl [0, 1] rfl (by decide) 0 7 rfl rfl rfl (Nat.le_of_ble_eq_true rfl) rfl dX7_parents_80 (fun r_80 h => ?_)
    refine st_if_eq G 115 86 rfl dX7_parents_83 rfl (fun c => ?_) (fun c => ?_)
    · have h := h.1 c
      obtain ⟨x7_115, ex7_115⟩ : ∃ y : Int32, y = (x7 + (1 : Int32)) := ⟨_, rfl⟩
      have h := h x7_115 ex7_115
      refine st_iinc G 118 rfl [(7, .int x7_115), (0, .ref q_t), (1, .int x1), (2, .int x2), (3, .int x3), (4, .int x4), (5, .int x5), (6, .int x6)] x7_115 7 rfl (by rw [ex7_115]; rfl) dX7_parents_115 (by decide) rfl ?_
      refine st_goto G 51 dX7_parents_118 rfl ?_
      refine st_L (L' := [(0, .ref q_t), (1, .int x1), (2, .int x2), (3, .int x3), (4, .int x4), (5, .int x5), (6, .int x6), (7, .int x7_115)]) [1, 2, 3, 4, 5, 6, 7, 0] rfl ?_
      exact hK51 _ _ _ _ _ _ _ _ h
    have h := h.2 c
    refine st_iload_n G 87 rfl 3 rfl dX7_parents_86 rfl ?_
    refine st_if_ne G 95 90 rfl dX7_parents_87 rfl (fun c => ?_) (fun c => ?_)
    · have h := h.1 c
      refine st_iload G 97 rfl 4 rfl dX7_parents_95 ?_
      refine st_istore G 99 rfl [(4, .int x4), (0, .ref q_t), (1, .int x1), (2, .int x2), (3, .int x3), (5, .int x5), (6, .int x6), (7, .int x7)] dX7_parents_97 (by decide) rfl ?_
      refine st_iload_n G 100 rfl 4 rfl dX7_parents_99 rfl ?_
      refine st_if_ne G 108 103 rfl dX7_parents_100 rfl (fun c => ?_) (fun c => ?_)
      · have h := h.1 c
        refine st_iload G 110 rfl 5 rfl dX7_parents_108 ?_
        refine st_istore G 112 rfl [(5, .int x5), (4, .int x4), (0, .ref q_t), (1, .int x1), (2, .int x2), (3, .int x3), (6, .int x6), (7, .int x7)] dX7_parents_110 (by decide) rfl ?_
        obtain ⟨x3_112, ex3_112⟩ : ∃ y : Int32, y = (x3 + (1 : Int32)) := ⟨_, rfl⟩
        have h := h x3_112 ex3_112
        refine st_iinc G 115 rfl [(3, .int x3_112), (5, .int x5), (4, .int x4), (0, .ref q_t), (1, .int x1), (2, .int x2), (6, .int x6), (7, .int x7)] x3_112 5 rfl (by rw [ex3_112]; rfl) dX7_parents_112 (by decide) rfl ?_
        obtain ⟨x7_115, ex7_115⟩ : ∃ y : Int32, y = (x7 + (1 : Int32)) := ⟨_, rfl⟩
        have h := h x7_115 ex7_115
        refine st_iinc G 118 rfl [(7, .int x7_115), (3, .int x3_112), (5, .int x5), (4, .int x4), (0, .ref q_t), (1, .int x1), (2, .int x2), (6, .int x6)] x7_115 7 rfl (by rw [ex7_115]; rfl) dX7_parents_115 (by decide) rfl ?_
        refine st_goto G 51 dX7_parents_118 rfl ?_
        refine st_L (L' := [(0, .ref q_t), (1, .int x1), (2, .int x2), (3, .int x3_112), (4, .int x4), (5, .int x5), (6, .int x6), (7, .int x7_115)]) [4, 5, 6, 1, 3, 2, 7, 0] rfl ?_
        exact hK51 _ _ _ _ _ _ _ _ h
      have h := h.2 c
      refine st_iload G 105 rfl 7 rfl dX7_parents_103 ?_
      refine st_goto G 110 dX7_parents_105 rfl ?_
      refine st_istore G 112 rfl [(5, .int x7), (4, .int x4), (0, .ref q_t), (1, .int x1), (2, .int x2), (3, .int x3), (6, .int x6), (7, .int x7)] dX7_parents_110 (by decide) rfl ?_
      obtain ⟨x3_112, ex3_112⟩ : ∃ y : Int32, y = (x3 + (1 : Int32)) := ⟨_, rfl⟩
      have h := h x3_112 ex3_112
      refine st_iinc G 115 rfl [(3, .int x3_112), (5, .int x7), (4, .int x4), (0, .ref q_t), (1, .int x1), (2, .int x2), (6, .int x6), (7, .int x7)] x3_112 5 rfl (by rw [ex3_112]; rfl) dX7_parents_112 (by decide) rfl ?_
      obtain ⟨x7_115, ex7_115⟩ : ∃ y : Int32, y = (x7 + (1 : Int32)) := ⟨_, rfl⟩
      have h := h x7_115 ex7_115
      refine st_iinc G 118 rfl [(7, .int x7_115), (3, .int x3_112), (5, .int x7), (4, .int x4), (0, .ref q_t), (1, .int x1), (2, .int x2), (6, .int x6)] x7_115 7 rfl (by rw [ex7_115]; rfl) dX7_parents_115 (by decide) rfl ?_
      refine st_goto G 51 dX7_parents_118 rfl ?_
      refine st_L (L' := [(0, .ref q_t), (1, .int x1), (2, .int x2), (3, .int x3_112), (4, .int x4), (5, .int x7), (6, .int x6), (7, .int x7_115)]) [4, 5, 6, 1, 3, 2, 7, 0] rfl ?_
      exact hK51 _ _ _ _ _ _ _ _ h
    have h := h.2 c
    refine st_iload G 92 rfl 6 rfl dX7_parents_90 ?_
    refine st_goto G 97 dX7_parents_92 rfl ?_
    refine st_istore G 99 rfl [(4, .int x6), (0, .ref q_t), (1, .int x1), (2, .int x2), (3, .int x3), (5, .int x5), (6, .int x6), (7, .int x7)] dX7_parents_97 (by decide) rfl ?_
    refine st_iload_n G 100 rfl 4 rfl dX7_parents_99 rfl ?_
    refine st_if_ne G 108 103 rfl dX7_parents_100 rfl (fun c => ?_) (fun c => ?_)
    · have h := h.1 c
      refine st_iload G 110 rfl 5 rfl dX7_parents_108 ?_
      refine st_istore G 112 rfl [(5, .int x5), (4, .int x6), (0, .ref q_t), (1, .int x1), (2, .int x2), (3, .int x3), (6, .int x6), (7, .int x7)] dX7_parents_110 (by decide) rfl ?_
      obtain ⟨x3_112, ex3_112⟩ : ∃ y : Int32, y = (x3 + (1 : Int32)) := ⟨_, rfl⟩
      have h := h x3_112 ex3_112
      refine st_iinc G 115 rfl [(3, .int x3_112), (5, .int x5), (4, .int x6), (0, .ref q_t), (1, .int x1), (2, .int x2), (6, .int x6), (7, .int x7)] x3_112 5 rfl (by rw [ex3_112]; rfl) dX7_parents_112 (by decide) rfl ?_
      obtain ⟨x7_115, ex7_115⟩ : ∃ y : Int32, y = (x7 + (1 : Int32)) := ⟨_, rfl⟩
      have h := h x7_115 ex7_115
      refine st_iinc G 118 rfl [(7, .int x7_115), (3, .int x3_112), (5, .int x5), (4, .int x6), (0, .ref q_t), (1, .int x1), (2, .int x2), (6, .int x6)] x7_115 7 rfl (by rw [ex7_115]; rfl) dX7_parents_115 (by decide) rfl ?_
      refine st_goto G 51 dX7_parents_118 rfl ?_
      refine st_L (L' := [(0, .ref q_t), (1, .int x1), (2, .int x2), (3, .int x3_112), (4, .int x6), (5, .int x5), (6, .int x6), (7, .int x7_115)]) [4, 5, 6, 1, 3, 2, 7, 0] rfl ?_
      exact hK51 _ _ _ _ _ _ _ _ h
    have h := h.2 c
    refine st_iload G 105 rfl 7 rfl dX7_parents_103 ?_
    refine st_goto G 110 dX7_parents_105 rfl ?_
    refine st_istore G 112 rfl [(5, .int x7), (4, .int x6), (0, .ref q_t), (1, .int x1), (2, .int x2), (3, .int x3), (6, .int x6), (7, .int x7)] dX7_parents_110 (by decide) rfl ?_
    obtain ⟨x3_112, ex3_112⟩ : ∃ y : Int32, y = (x3 + (1 : Int32)) := ⟨_, rfl⟩
    have h := h x3_112 ex3_112
    refine st_iinc G 115 rfl [(3, .int x3_112), (5, .int x7), (4, .int x6), (0, .ref q_t), (1, .int x1), (2, .int x2), (6, .int x6), (7, .int x7)] x3_112 5 rfl (by rw [ex3_112]; rfl) dX7_parents_112 (by decide) rfl ?_
    obtain ⟨x7_115, ex7_115⟩ : ∃ y : Int32, y = (x7 + (1 : Int32)) := ⟨_, rfl⟩
    have h := h x7_115 ex7_115
    refine st_iinc G 118 rfl [(7, .int x7_115), (3, .int x3_112), (5, .int x7), (4, .int x6), (0, .ref q_t), (1, .int x1), (2, .int x2), (6, .int x6)] x7_115 7 rfl (by rw [ex7_115]; rfl) dX7_parents_115 (by decide) rfl ?_
    refine st_goto G 51 dX7_parents_118 rfl ?_
    refine st_L (L' := [(0, .ref q_t), (1, .int x1), (2, .int x2), (3, .int x3_112), (4, .int x6), (5, .int x7), (6, .int x6), (7, .int x7_115)]) [4, 5, 6, 1, 3, 2, 7, 0] rfl ?_
    exact hK51 _ _ _ _ _ _ _ _ h
set_option maxRecDepth 100000 in
set_option maxHeartbeats 4000000 in
theorem b_X7_parents_34 {g : GT} (G : GOOD g RX7 cX7_parents 8 rm_X7_parents) {q_t q_t_s q_t_k q_t_laid q_t_errors q_t_step q_t_named q_t_pile q_t_sums1 q_t_parts1 q_t_trace q_t_bits q_t_sizes q_t_number q_t_aside : Nat} {c_images : Int32} {c_at : Int32} {c_open : Int32} {c_steps : Int32} {c_use : Int32} {c_traced : Int32} {c_speaks : Int32} {c_isParted : Int32} {c_s : Nat → Int32} {Q : Int32 → (Nat → Int32) → Prop} (R : RETi g cX7_parents 3 (fun (r : Int32) w => ∃ (c_errors' : Nat → Int32), Q r c_errors' ∧ w = [(q_t, .inr (7, [.ref q_t_s, .ref q_t_k, .ref q_t_laid, .int c_images, .ref q_t_errors, .int c_at, .int c_open, .int c_steps, .int c_use, .ref q_t_step, .ref q_t_named, .ref q_t_pile, .ref q_t_sums1, .ref q_t_parts1, .int c_traced, .ref q_t_trace, .int c_speaks, .int c_isParted, .ref q_t_bits, .ref q_t_sizes, .ref q_t_number, .ref q_t_aside])), (q_t_s, .inl (g.X.cI, 476, .inl c_s)), (q_t_errors, .inl (g.X.cI, 7, .inl c_errors'))])) : ∀ (n : Nat) (x1 : Int32) (x2 : Int32) (x3 : Int32) (x4 : Int32) (x5 : Int32) (x6 : Int32) (c_errors : Nat → Int32), wp_X7_parents_b34 Q c_s n x1 x2 x3 x4 x5 x6 c_errors → ST g 0 0 34 [(0, .ref q_t), (1, .int x1), (2, .int x2), (3, .int x3), (4, .int x4), (5, .int x5), (6, .int x6)] [] [(q_t, .inr (7, [.ref q_t_s, .ref q_t_k, .ref q_t_laid, .int c_images, .ref q_t_errors, .int c_at, .int c_open, .int c_steps, .int c_use, .ref q_t_step, .ref q_t_named, .ref q_t_pile, .ref q_t_sums1, .ref q_t_parts1, .int c_traced, .ref q_t_trace, .int c_speaks, .int c_isParted, .ref q_t_bits, .ref q_t_sizes, .ref q_t_number, .ref q_t_aside])), (q_t_s, .inl (g.X.cI, 476, .inl c_s)), (q_t_errors, .inl (g.X.cI, 7, .inl c_errors))] := by
  intro n
  induction n with
  | zero => intro x1 x2 x3 x4 x5 x6 c_errors h; exact False.elim h
  | succ n hK34 =>
    intro x1 x2 x3 x4 x5 x6 c_errors h
    unfold wp_X7_parents_b34 at h
    refine st_iload G 36 rfl 6 rfl dX7_parents_34 ?_
    refine st_aload_n G 37 rfl 0 rfl dX7_parents_36 rfl ?_
    refine st_get G inX7 rfl 0 (by decide) wd_82 40 rfl 0 rfl rfl dX7_parents_37 ?_
    refine st_iconst G 41 rfl (4 : Int32) (by decide) dX7_parents_40 ?_
    obtain ⟨hin, h⟩ := h
    refine st_iald G 42 rfl 1 rfl hin dX7_parents_41 ?_
    refine st_icmp_ge G 127 45 rfl dX7_parents_42 rfl (fun c => ?_) (fun c => ?_)
    · have h := h.1 c
      refine st_iload_n G 128 rfl 2 rfl dX7_parents_127 rfl ?_
      refine st_if_le G 141 131 rfl dX7_parents_128 rfl (fun c => ?_) (fun c => ?_)
      · have h := h.1 c
        refine st_iload_n G 142 rfl 2 rfl dX7_parents_141 rfl ?_
        refine st_if_ne G 149 145 rfl dX7_parents_142 rfl (fun c => ?_) (fun c => ?_)
        · have h := h.1 c
          refine st_iload_n G 150 rfl 2 rfl dX7_parents_149 rfl ?_
          refine st_iconst G 151 rfl (1 : Int32) (by decide) dX7_parents_150 ?_
          refine st_icmp_ne G 159 154 rfl dX7_parents_151 rfl (fun c => ?_) (fun c => ?_)
          · have h := h.1 c
            refine st_iload G 161 rfl 5 rfl dX7_parents_159 ?_
            exact R _ _ _ _ dX7_parents_161 (Nat.le_of_ble_eq_true rfl) ⟨_, h, rfl⟩
          have h := h.2 c
          refine st_iload G 156 rfl 4 rfl dX7_parents_154 ?_
          refine st_goto G 161 dX7_parents_156 rfl ?_
          exact R _ _ _ _ dX7_parents_161 (Nat.le_of_ble_eq_true rfl) ⟨_, h, rfl⟩
        have h := h.2 c
        refine st_iload_n G 146 rfl 3 rfl dX7_parents_145 rfl ?_
        refine st_goto G 161 dX7_parents_146 rfl ?_
        exact R _ _ _ _ dX7_parents_161 (Nat.le_of_ble_eq_true rfl) ⟨_, h, rfl⟩
      have h := h.2 c
      refine st_iload_n G 132 rfl 3 rfl dX7_parents_131 rfl ?_
      refine st_if_ne G 141 135 rfl dX7_parents_132 rfl (fun c => ?_) (fun c => ?_)
      · have h := h.1 c
        refine st_iload_n G 142 rfl 2 rfl dX7_parents_141 rfl ?_
        refine st_if_ne G 149 145 rfl dX7_parents_142 rfl (fun c => ?_) (fun c => ?_)
        · have h := h.1 c
          refine st_iload_n G 150 rfl 2 rfl dX7_parents_149 rfl ?_
          refine st_iconst G 151 rfl (1 : Int32) (by decide) dX7_parents_150 ?_
          refine st_icmp_ne G 159 154 rfl dX7_parents_151 rfl (fun c => ?_) (fun c => ?_)
          · have h := h.1 c
            refine st_iload G 161 rfl 5 rfl dX7_parents_159 ?_
            exact R _ _ _ _ dX7_parents_161 (Nat.le_of_ble_eq_true rfl) ⟨_, h, rfl⟩
          have h := h.2 c
          refine st_iload G 156 rfl 4 rfl dX7_parents_154 ?_
          refine st_goto G 161 dX7_parents_156 rfl ?_
          exact R _ _ _ _ dX7_parents_161 (Nat.le_of_ble_eq_true rfl) ⟨_, h, rfl⟩
        have h := h.2 c
        refine st_iload_n G 146 rfl 3 rfl dX7_parents_145 rfl ?_
        refine st_goto G 161 dX7_parents_146 rfl ?_
        exact R _ _ _ _ dX7_parents_161 (Nat.le_of_ble_eq_true rfl) ⟨_, h, rfl⟩
      have h := h.2 c
      refine st_aload_n G 136 rfl 0 rfl dX7_parents_135 rfl ?_
      refine st_iconst G 137 rfl (2 : Int32) (by decide) dX7_parents_136 ?_
      refine st_cVi G lk_X7_65 (c_X7_error g.l g.D g.X q_t q_t_s q_t_k q_t_laid q_t_errors q_t_step q_t_named q_t_pile q_t_sums1 q_t_parts1 q_t_trace q_t_bits q_t_sizes q_t_number q_t_aside c_images c_at c_open c_steps c_use c_traced c_speaks c_isParted c_errors (2 : Int32) _ h) ⟨rfl, rfl, ⟨Nat.le_of_ble_eq_true rfl, Nat.le_of_ble_eq_true rfl⟩, Nat.zero_le _, Nat.zero_le _⟩ 140 rfl [0, 2] rfl (by decide) 0 7 rfl rfl rfl (Nat.le_of_ble_eq_true rfl) rfl dX7_parents_137 (fun r_137 w hq => ?_)
      obtain ⟨c_errors_137, h, rfl⟩ := hq
      refine st_wp (ws' := [(q_t, .inr (7, [.ref q_t_s, .ref q_t_k, .ref q_t_laid, .int c_images, .ref q_t_errors, .int c_at, .int c_open, .int c_steps, .int c_use, .ref q_t_step, .ref q_t_named, .ref q_t_pile, .ref q_t_sums1, .ref q_t_parts1, .int c_traced, .ref q_t_trace, .int c_speaks, .int c_isParted, .ref q_t_bits, .ref q_t_sizes, .ref q_t_number, .ref q_t_aside])), (q_t_s, .inl (g.X.cI, 476, .inl c_s)), (q_t_errors, .inl (g.X.cI, 7, .inl c_errors_137))]) 3 [1] (by decide) rfl rfl (by rfl) [(q_t_s, .inl (g.X.cI, 476, .inl c_s))] (by rfl) rfl ?_
      exact R _ _ _ _ dX7_parents_140 (Nat.le_of_ble_eq_true rfl) ⟨_, h, rfl⟩
    have h := h.2 c
    refine st_iload G 47 rfl 6 rfl dX7_parents_45 ?_
    refine st_iconst G 48 rfl (1 : Int32) (by decide) dX7_parents_47 ?_
    refine st_iadd G 49 rfl dX7_parents_48 ?_
    refine st_topi (fun x7_49 ex7_49 => ?_)
    have h := h x7_49 ex7_49
    refine st_istore G 51 rfl [(7, .int x7_49), (0, .ref q_t), (1, .int x1), (2, .int x2), (3, .int x3), (4, .int x4), (5, .int x5), (6, .int x6)] dX7_parents_49 (by decide) rfl ?_
    refine st_L (L' := [(0, .ref q_t), (1, .int x1), (2, .int x2), (3, .int x3), (4, .int x4), (5, .int x5), (6, .int x6), (7, .int x7_49)]) [1, 2, 3, 4, 5, 6, 7, 0] rfl ?_
    obtain ⟨n, h⟩ := h
    exact b_X7_parents_51 G R hK34 n _ _ _ _ _ _ _ _ h
set_option maxRecDepth 100000 in
set_option maxHeartbeats 4000000 in
theorem b_X7_parents_e {g : GT} (G : GOOD g RX7 cX7_parents 8 rm_X7_parents) {q_t q_t_s q_t_k q_t_laid q_t_errors q_t_step q_t_named q_t_pile q_t_sums1 q_t_parts1 q_t_trace q_t_bits q_t_sizes q_t_number q_t_aside : Nat} {c_images : Int32} {c_at : Int32} {c_open : Int32} {c_steps : Int32} {c_use : Int32} {c_traced : Int32} {c_speaks : Int32} {c_isParted : Int32} {c_s : Nat → Int32} {c_errors : Nat → Int32} {x1 : Int32} {x2 : Int32} {Q : Int32 → (Nat → Int32) → Prop} (R : RETi g cX7_parents 3 (fun (r : Int32) w => ∃ (c_errors' : Nat → Int32), Q r c_errors' ∧ w = [(q_t, .inr (7, [.ref q_t_s, .ref q_t_k, .ref q_t_laid, .int c_images, .ref q_t_errors, .int c_at, .int c_open, .int c_steps, .int c_use, .ref q_t_step, .ref q_t_named, .ref q_t_pile, .ref q_t_sums1, .ref q_t_parts1, .int c_traced, .ref q_t_trace, .int c_speaks, .int c_isParted, .ref q_t_bits, .ref q_t_sizes, .ref q_t_number, .ref q_t_aside])), (q_t_s, .inl (g.X.cI, 476, .inl c_s)), (q_t_errors, .inl (g.X.cI, 7, .inl c_errors'))])) (h : wp_X7_parents x1 x2 c_s c_errors Q) : ST g 0 0 0 [(0, .ref q_t), (1, .int x1), (2, .int x2)] [] [(q_t, .inr (7, [.ref q_t_s, .ref q_t_k, .ref q_t_laid, .int c_images, .ref q_t_errors, .int c_at, .int c_open, .int c_steps, .int c_use, .ref q_t_step, .ref q_t_named, .ref q_t_pile, .ref q_t_sums1, .ref q_t_parts1, .int c_traced, .ref q_t_trace, .int c_speaks, .int c_isParted, .ref q_t_bits, .ref q_t_sizes, .ref q_t_number, .ref q_t_aside])), (q_t_s, .inl (g.X.cI, 476, .inl c_s)), (q_t_errors, .inl (g.X.cI, 7, .inl c_errors))] := by
  unfold wp_X7_parents at h
  refine st_aload_n G 1 rfl 0 rfl dX7_parents_0 rfl ?_
  refine st_iload_n G 2 rfl 1 rfl dX7_parents_1 rfl ?_
  refine st_cVio G lk_X7_156 (c_X7_isPerson g.l g.D g.X q_t q_t_s q_t_k q_t_laid q_t_errors q_t_step q_t_named q_t_pile q_t_sums1 q_t_parts1 q_t_trace q_t_bits q_t_sizes q_t_number q_t_aside c_images c_at c_open c_steps c_use c_traced c_speaks c_isParted c_s x1 _ h) ⟨rfl, rfl, ⟨Nat.le_of_ble_eq_true rfl, Nat.le_of_ble_eq_true rfl⟩, Nat.zero_le _, Nat.zero_le _⟩ 5 rfl [0, 1] rfl (by decide) 0 7 rfl rfl rfl (Nat.le_of_ble_eq_true rfl) rfl dX7_parents_2 (fun r_2 h => ?_)
  refine st_if_eq G 17 8 rfl dX7_parents_5 rfl (fun c => ?_) (fun c => ?_)
  · have h := h.1 c
    refine st_aload_n G 18 rfl 0 rfl dX7_parents_17 rfl ?_
    refine st_iconst G 19 rfl (1 : Int32) (by decide) dX7_parents_18 ?_
    refine st_cVi G lk_X7_65 (c_X7_error g.l g.D g.X q_t q_t_s q_t_k q_t_laid q_t_errors q_t_step q_t_named q_t_pile q_t_sums1 q_t_parts1 q_t_trace q_t_bits q_t_sizes q_t_number q_t_aside c_images c_at c_open c_steps c_use c_traced c_speaks c_isParted c_errors (1 : Int32) _ h) ⟨rfl, rfl, ⟨Nat.le_of_ble_eq_true rfl, Nat.le_of_ble_eq_true rfl⟩, Nat.zero_le _, Nat.zero_le _⟩ 22 rfl [0, 2] rfl (by decide) 0 7 rfl rfl rfl (Nat.le_of_ble_eq_true rfl) rfl dX7_parents_19 (fun r_19 w hq => ?_)
    obtain ⟨c_errors_19, h, rfl⟩ := hq
    refine st_wp (ws' := [(q_t, .inr (7, [.ref q_t_s, .ref q_t_k, .ref q_t_laid, .int c_images, .ref q_t_errors, .int c_at, .int c_open, .int c_steps, .int c_use, .ref q_t_step, .ref q_t_named, .ref q_t_pile, .ref q_t_sums1, .ref q_t_parts1, .int c_traced, .ref q_t_trace, .int c_speaks, .int c_isParted, .ref q_t_bits, .ref q_t_sizes, .ref q_t_number, .ref q_t_aside])), (q_t_s, .inl (g.X.cI, 476, .inl c_s)), (q_t_errors, .inl (g.X.cI, 7, .inl c_errors_19))]) 3 [1] (by decide) rfl rfl (by rfl) [(q_t_s, .inl (g.X.cI, 476, .inl c_s))] (by rfl) rfl ?_
    exact R _ _ _ _ dX7_parents_22 (Nat.le_of_ble_eq_true rfl) ⟨_, h, rfl⟩
  have h := h.2 c
  refine st_iload_n G 9 rfl 2 rfl dX7_parents_8 rfl ?_
  refine st_iconst G 10 rfl (0 : Int32) (by decide) dX7_parents_9 ?_
  refine st_iconst G 11 rfl (2 : Int32) (by decide) dX7_parents_10 ?_
  refine st_cSio G lk_X7_53 (c_X7_in g.l g.D g.X x2 (0 : Int32) (2 : Int32) _ h) ⟨rfl, rfl, ⟨Nat.le_of_ble_eq_true rfl, Nat.le_of_ble_eq_true rfl⟩, Nat.zero_le _, Nat.zero_le _⟩ 14 rfl [] rfl (by decide) rfl (Nat.le_of_ble_eq_true rfl) rfl dX7_parents_11 (fun r_11 h => ?_)
  refine st_if_ne G 23 17 rfl dX7_parents_14 rfl (fun c => ?_) (fun c => ?_)
  · have h := h.1 c
    refine st_iconst G 24 rfl (0 : Int32) (by decide) dX7_parents_23 ?_
    refine st_istore_n G 25 rfl [(3, .int (0 : Int32)), (0, .ref q_t), (1, .int x1), (2, .int x2)] dX7_parents_24 rfl (by decide) rfl ?_
    refine st_iconst G 26 rfl (-1 : Int32) (by decide) dX7_parents_25 ?_
    refine st_istore G 28 rfl [(4, .int (-1 : Int32)), (3, .int (0 : Int32)), (0, .ref q_t), (1, .int x1), (2, .int x2)] dX7_parents_26 (by decide) rfl ?_
    refine st_iconst G 29 rfl (-1 : Int32) (by decide) dX7_parents_28 ?_
    refine st_istore G 31 rfl [(5, .int (-1 : Int32)), (4, .int (-1 : Int32)), (3, .int (0 : Int32)), (0, .ref q_t), (1, .int x1), (2, .int x2)] dX7_parents_29 (by decide) rfl ?_
    refine st_iconst G 32 rfl (0 : Int32) (by decide) dX7_parents_31 ?_
    refine st_istore G 34 rfl [(6, .int (0 : Int32)), (5, .int (-1 : Int32)), (4, .int (-1 : Int32)), (3, .int (0 : Int32)), (0, .ref q_t), (1, .int x1), (2, .int x2)] dX7_parents_32 (by decide) rfl ?_
    refine st_L (L' := [(0, .ref q_t), (1, .int x1), (2, .int x2), (3, .int (0 : Int32)), (4, .int (-1 : Int32)), (5, .int (-1 : Int32)), (6, .int (0 : Int32))]) [4, 5, 6, 3, 2, 1, 0] rfl ?_
    obtain ⟨n, h⟩ := h
    exact b_X7_parents_34 G R n _ _ _ _ _ _ _ h
  have h := h.2 c
  refine st_aload_n G 18 rfl 0 rfl dX7_parents_17 rfl ?_
  refine st_iconst G 19 rfl (1 : Int32) (by decide) dX7_parents_18 ?_
  refine st_cVi G lk_X7_65 (c_X7_error g.l g.D g.X q_t q_t_s q_t_k q_t_laid q_t_errors q_t_step q_t_named q_t_pile q_t_sums1 q_t_parts1 q_t_trace q_t_bits q_t_sizes q_t_number q_t_aside c_images c_at c_open c_steps c_use c_traced c_speaks c_isParted c_errors (1 : Int32) _ h) ⟨rfl, rfl, ⟨Nat.le_of_ble_eq_true rfl, Nat.le_of_ble_eq_true rfl⟩, Nat.zero_le _, Nat.zero_le _⟩ 22 rfl [0, 2] rfl (by decide) 0 7 rfl rfl rfl (Nat.le_of_ble_eq_true rfl) rfl dX7_parents_19 (fun r_19 w hq => ?_)
  obtain ⟨c_errors_19, h, rfl⟩ := hq
  refine st_wp (ws' := [(q_t, .inr (7, [.ref q_t_s, .ref q_t_k, .ref q_t_laid, .int c_images, .ref q_t_errors, .int c_at, .int c_open, .int c_steps, .int c_use, .ref q_t_step, .ref q_t_named, .ref q_t_pile, .ref q_t_sums1, .ref q_t_parts1, .int c_traced, .ref q_t_trace, .int c_speaks, .int c_isParted, .ref q_t_bits, .ref q_t_sizes, .ref q_t_number, .ref q_t_aside])), (q_t_s, .inl (g.X.cI, 476, .inl c_s)), (q_t_errors, .inl (g.X.cI, 7, .inl c_errors_19))]) 3 [1] (by decide) rfl rfl (by rfl) [(q_t_s, .inl (g.X.cI, 476, .inl c_s))] (by rfl) rfl ?_
  exact R _ _ _ _ dX7_parents_22 (Nat.le_of_ble_eq_true rfl) ⟨_, h, rfl⟩
set_option maxRecDepth 100000 in
set_option maxHeartbeats 4000000 in
theorem c_X7_parents (l : Launch) (D : va_G) (X : XT) (q_t q_t_s q_t_k q_t_laid q_t_errors q_t_step q_t_named q_t_pile q_t_sums1 q_t_parts1 q_t_trace q_t_bits q_t_sizes q_t_number q_t_aside : Nat) (c_images : Int32) (c_at : Int32) (c_open : Int32) (c_steps : Int32) (c_use : Int32) (c_traced : Int32) (c_speaks : Int32) (c_isParted : Int32) (c_s : Nat → Int32) (c_errors : Nat → Int32) (x1 : Int32) (x2 : Int32) (Q : Int32 → (Nat → Int32) → Prop) (h : wp_X7_parents x1 x2 c_s c_errors Q) : CTi l D X yX7_parents cX7_parents 8 .int rm_X7_parents [.ref q_t, .int x1, .int x2] [(q_t, .inr (7, [.ref q_t_s, .ref q_t_k, .ref q_t_laid, .int c_images, .ref q_t_errors, .int c_at, .int c_open, .int c_steps, .int c_use, .ref q_t_step, .ref q_t_named, .ref q_t_pile, .ref q_t_sums1, .ref q_t_parts1, .int c_traced, .ref q_t_trace, .int c_speaks, .int c_isParted, .ref q_t_bits, .ref q_t_sizes, .ref q_t_number, .ref q_t_aside])), (q_t_s, .inl (X.cI, 476, .inl c_s)), (q_t_errors, .inl (X.cI, 7, .inl c_errors))] (fun (r : Int32) w => ∃ (c_errors' : Nat → Int32), Q r c_errors' ∧ w = [(q_t, .inr (7, [.ref q_t_s, .ref q_t_k, .ref q_t_laid, .int c_images, .ref q_t_errors, .int c_at, .int c_open, .int c_steps, .int c_use, .ref q_t_step, .ref q_t_named, .ref q_t_pile, .ref q_t_sums1, .ref q_t_parts1, .int c_traced, .ref q_t_trace, .int c_speaks, .int c_isParted, .ref q_t_bits, .ref q_t_sizes, .ref q_t_number, .ref q_t_aside])), (q_t_s, .inl (X.cI, 476, .inl c_s)), (q_t_errors, .inl (X.cI, 7, .inl c_errors'))]) :=
  ct_i (by decide) (Nat.le_of_ble_eq_true rfl) (fun g hl hD hX G R => by subst hl; subst hD; subst hX; exact b_X7_parents_e G R h)
set_option maxRecDepth 100000 in
set_option maxHeartbeats 4000000 in
theorem b_X7_falseSorts_45 {g : GT} (G : GOOD g RX7 cX7_falseSorts 6 rm_X7_falseSorts) {q_t q_t_s q_t_k q_t_laid q_t_errors q_t_step q_t_named q_t_pile q_t_sums1 q_t_parts1 q_t_trace q_t_bits q_t_sizes q_t_number q_t_aside : Nat} {c_images : Int32} {c_at : Int32} {c_open : Int32} {c_steps : Int32} {c_use : Int32} {c_traced : Int32} {c_speaks : Int32} {c_isParted : Int32} {c_s : Nat → Int32} {Q : Int32 → (Nat → Int32) → Prop} (R : RETi g cX7_falseSorts 3 (fun (r : Int32) w => ∃ (c_errors' : Nat → Int32), Q r c_errors' ∧ w = [(q_t, .inr (7, [.ref q_t_s, .ref q_t_k, .ref q_t_laid, .int c_images, .ref q_t_errors, .int c_at, .int c_open, .int c_steps, .int c_use, .ref q_t_step, .ref q_t_named, .ref q_t_pile, .ref q_t_sums1, .ref q_t_parts1, .int c_traced, .ref q_t_trace, .int c_speaks, .int c_isParted, .ref q_t_bits, .ref q_t_sizes, .ref q_t_number, .ref q_t_aside])), (q_t_s, .inl (g.X.cI, 476, .inl c_s)), (q_t_errors, .inl (g.X.cI, 7, .inl c_errors'))])) : ∀ (n : Nat) (x1 : Int32) (x2 : Int32) (x3 : Int32) (x4 : Int32) (x5 : Int32) (c_errors : Nat → Int32), wp_X7_falseSorts_b45 Q c_s n x1 x2 x3 x4 x5 c_errors → ST g 0 0 45 [(0, .ref q_t), (1, .int x1), (2, .int x2), (3, .int x3), (4, .int x4), (5, .int x5)] [] [(q_t, .inr (7, [.ref q_t_s, .ref q_t_k, .ref q_t_laid, .int c_images, .ref q_t_errors, .int c_at, .int c_open, .int c_steps, .int c_use, .ref q_t_step, .ref q_t_named, .ref q_t_pile, .ref q_t_sums1, .ref q_t_parts1, .int c_traced, .ref q_t_trace, .int c_speaks, .int c_isParted, .ref q_t_bits, .ref q_t_sizes, .ref q_t_number, .ref q_t_aside])), (q_t_s, .inl (g.X.cI, 476, .inl c_s)), (q_t_errors, .inl (g.X.cI, 7, .inl c_errors))] := by
  intro n
  induction n with
  | zero => intro x1 x2 x3 x4 x5 c_errors h; exact False.elim h
  | succ n hK45 =>
    intro x1 x2 x3 x4 x5 c_errors h
    unfold wp_X7_falseSorts_b45 at h
    refine st_iload G 47 rfl 5 rfl dX7_falseSorts_45 ?_
    refine st_iconst G 48 rfl (5 : Int32) (by decide) dX7_falseSorts_47 ?_
    refine st_icmp_ge G 100 51 rfl dX7_falseSorts_48 rfl (fun c => ?_) (fun c => ?_)
    · have h := h.1 c
      refine st_iload G 102 rfl 4 rfl dX7_falseSorts_100 ?_
      exact R _ _ _ _ dX7_falseSorts_102 (Nat.le_of_ble_eq_true rfl) ⟨_, h, rfl⟩
    have h := h.2 c
    refine st_iload G 53 rfl 4 rfl dX7_falseSorts_51 ?_
    refine st_aload_n G 54 rfl 0 rfl dX7_falseSorts_53 rfl ?_
    refine st_iload_n G 55 rfl 1 rfl dX7_falseSorts_54 rfl ?_
    refine st_iload G 57 rfl 5 rfl dX7_falseSorts_55 ?_
    refine st_cVio G lk_X7_57 (c_X7_has g.l g.D g.X q_t q_t_s q_t_k q_t_laid q_t_errors q_t_step q_t_named q_t_pile q_t_sums1 q_t_parts1 q_t_trace q_t_bits q_t_sizes q_t_number q_t_aside c_images c_at c_open c_steps c_use c_traced c_speaks c_isParted c_s x1 x5 _ h) ⟨rfl, rfl, ⟨Nat.le_of_ble_eq_true rfl, Nat.le_of_ble_eq_true rfl⟩, Nat.zero_le _, Nat.zero_le _⟩ 60 rfl [0, 1] rfl (by decide) 0 7 rfl rfl rfl (Nat.le_of_ble_eq_true rfl) rfl dX7_falseSorts_57 (fun r_57 h => ?_)
    refine st_if_le G 90 63 rfl dX7_falseSorts_60 rfl (fun c => ?_) (fun c => ?_)
    · have h := h.1 c
      refine st_iconst G 91 rfl (0 : Int32) (by decide) dX7_falseSorts_90 ?_
      refine st_ior G 92 rfl dX7_falseSorts_91 ?_
      refine st_topi (fun x4_92 ex4_92 => ?_)
      have h := h x4_92 ex4_92
      refine st_istore G 94 rfl [(4, .int x4_92), (0, .ref q_t), (1, .int x1), (2, .int x2), (3, .int x3), (5, .int x5)] dX7_falseSorts_92 (by decide) rfl ?_
      obtain ⟨x5_94, ex5_94⟩ : ∃ y : Int32, y = (x5 + (1 : Int32)) := ⟨_, rfl⟩
      have h := h x5_94 ex5_94
      refine st_iinc G 97 rfl [(5, .int x5_94), (4, .int x4_92), (0, .ref q_t), (1, .int x1), (2, .int x2), (3, .int x3)] x5_94 5 rfl (by rw [ex5_94]; rfl) dX7_falseSorts_94 (by decide) rfl ?_
      refine st_goto G 45 dX7_falseSorts_97 rfl ?_
      refine st_L (L' := [(0, .ref q_t), (1, .int x1), (2, .int x2), (3, .int x3), (4, .int x4_92), (5, .int x5_94)]) [2, 3, 4, 5, 1, 0] rfl ?_
      exact hK45 _ _ _ _ _ _ h
    have h := h.2 c
    refine st_aload_n G 64 rfl 0 rfl dX7_falseSorts_63 rfl ?_
    refine st_iload_n G 65 rfl 2 rfl dX7_falseSorts_64 rfl ?_
    refine st_iload G 67 rfl 5 rfl dX7_falseSorts_65 ?_
    refine st_cVio G lk_X7_57 (c_X7_has g.l g.D g.X q_t q_t_s q_t_k q_t_laid q_t_errors q_t_step q_t_named q_t_pile q_t_sums1 q_t_parts1 q_t_trace q_t_bits q_t_sizes q_t_number q_t_aside c_images c_at c_open c_steps c_use c_traced c_speaks c_isParted c_s x2 x5 _ h) ⟨rfl, rfl, ⟨Nat.le_of_ble_eq_true rfl, Nat.le_of_ble_eq_true rfl⟩, Nat.zero_le _, Nat.zero_le _⟩ 70 rfl [0, 1] rfl (by decide) 0 7 rfl rfl rfl (Nat.le_of_ble_eq_true rfl) rfl dX7_falseSorts_67 (fun r_67 h => ?_)
    refine st_if_ne G 90 73 rfl dX7_falseSorts_70 rfl (fun c => ?_) (fun c => ?_)
    · have h := h.1 c
      refine st_iconst G 91 rfl (0 : Int32) (by decide) dX7_falseSorts_90 ?_
      refine st_ior G 92 rfl dX7_falseSorts_91 ?_
      refine st_topi (fun x4_92 ex4_92 => ?_)
      have h := h x4_92 ex4_92
      refine st_istore G 94 rfl [(4, .int x4_92), (0, .ref q_t), (1, .int x1), (2, .int x2), (3, .int x3), (5, .int x5)] dX7_falseSorts_92 (by decide) rfl ?_
      obtain ⟨x5_94, ex5_94⟩ : ∃ y : Int32, y = (x5 + (1 : Int32)) := ⟨_, rfl⟩
      have h := h x5_94 ex5_94
      refine st_iinc G 97 rfl [(5, .int x5_94), (4, .int x4_92), (0, .ref q_t), (1, .int x1), (2, .int x2), (3, .int x3)] x5_94 5 rfl (by rw [ex5_94]; rfl) dX7_falseSorts_94 (by decide) rfl ?_
      refine st_goto G 45 dX7_falseSorts_97 rfl ?_
      refine st_L (L' := [(0, .ref q_t), (1, .int x1), (2, .int x2), (3, .int x3), (4, .int x4_92), (5, .int x5_94)]) [2, 3, 4, 5, 1, 0] rfl ?_
      exact hK45 _ _ _ _ _ _ h
    have h := h.2 c
    refine st_aload_n G 74 rfl 0 rfl dX7_falseSorts_73 rfl ?_
    refine st_iload_n G 75 rfl 3 rfl dX7_falseSorts_74 rfl ?_
    refine st_iload G 77 rfl 5 rfl dX7_falseSorts_75 ?_
    refine st_cVio G lk_X7_57 (c_X7_has g.l g.D g.X q_t q_t_s q_t_k q_t_laid q_t_errors q_t_step q_t_named q_t_pile q_t_sums1 q_t_parts1 q_t_trace q_t_bits q_t_sizes q_t_number q_t_aside c_images c_at c_open c_steps c_use c_traced c_speaks c_isParted c_s x3 x5 _ h) ⟨rfl, rfl, ⟨Nat.le_of_ble_eq_true rfl, Nat.le_of_ble_eq_true rfl⟩, Nat.zero_le _, Nat.zero_le _⟩ 80 rfl [0, 1] rfl (by decide) 0 7 rfl rfl rfl (Nat.le_of_ble_eq_true rfl) rfl dX7_falseSorts_77 (fun r_77 h => ?_)
    refine st_if_ne G 90 83 rfl dX7_falseSorts_80 rfl (fun c => ?_) (fun c => ?_)
    · have h := h.1 c
      refine st_iconst G 91 rfl (0 : Int32) (by decide) dX7_falseSorts_90 ?_
      refine st_ior G 92 rfl dX7_falseSorts_91 ?_
      refine st_topi (fun x4_92 ex4_92 => ?_)
      have h := h x4_92 ex4_92
      refine st_istore G 94 rfl [(4, .int x4_92), (0, .ref q_t), (1, .int x1), (2, .int x2), (3, .int x3), (5, .int x5)] dX7_falseSorts_92 (by decide) rfl ?_
      obtain ⟨x5_94, ex5_94⟩ : ∃ y : Int32, y = (x5 + (1 : Int32)) := ⟨_, rfl⟩
      have h := h x5_94 ex5_94
      refine st_iinc G 97 rfl [(5, .int x5_94), (4, .int x4_92), (0, .ref q_t), (1, .int x1), (2, .int x2), (3, .int x3)] x5_94 5 rfl (by rw [ex5_94]; rfl) dX7_falseSorts_94 (by decide) rfl ?_
      refine st_goto G 45 dX7_falseSorts_97 rfl ?_
      refine st_L (L' := [(0, .ref q_t), (1, .int x1), (2, .int x2), (3, .int x3), (4, .int x4_92), (5, .int x5_94)]) [2, 3, 4, 5, 1, 0] rfl ?_
      exact hK45 _ _ _ _ _ _ h
    have h := h.2 c
    refine st_iconst G 84 rfl (1 : Int32) (by decide) dX7_falseSorts_83 ?_
    refine st_iload G 86 rfl 5 rfl dX7_falseSorts_84 ?_
    refine st_ishl G 87 rfl dX7_falseSorts_86 ?_
    refine st_goto G 91 dX7_falseSorts_87 rfl ?_
    refine st_ior G 92 rfl dX7_falseSorts_91 ?_
    refine st_topi (fun x4_92 ex4_92 => ?_)
    have h := h x4_92 ex4_92
    refine st_istore G 94 rfl [(4, .int x4_92), (0, .ref q_t), (1, .int x1), (2, .int x2), (3, .int x3), (5, .int x5)] dX7_falseSorts_92 (by decide) rfl ?_
    obtain ⟨x5_94, ex5_94⟩ : ∃ y : Int32, y = (x5 + (1 : Int32)) := ⟨_, rfl⟩
    have h := h x5_94 ex5_94
    refine st_iinc G 97 rfl [(5, .int x5_94), (4, .int x4_92), (0, .ref q_t), (1, .int x1), (2, .int x2), (3, .int x3)] x5_94 5 rfl (by rw [ex5_94]; rfl) dX7_falseSorts_94 (by decide) rfl ?_
    refine st_goto G 45 dX7_falseSorts_97 rfl ?_
    refine st_L (L' := [(0, .ref q_t), (1, .int x1), (2, .int x2), (3, .int x3), (4, .int x4_92), (5, .int x5_94)]) [2, 3, 4, 5, 1, 0] rfl ?_
    exact hK45 _ _ _ _ _ _ h
set_option maxRecDepth 100000 in
set_option maxHeartbeats 4000000 in
theorem b_X7_falseSorts_e {g : GT} (G : GOOD g RX7 cX7_falseSorts 6 rm_X7_falseSorts) {q_t q_t_s q_t_k q_t_laid q_t_errors q_t_step q_t_named q_t_pile q_t_sums1 q_t_parts1 q_t_trace q_t_bits q_t_sizes q_t_number q_t_aside : Nat} {c_images : Int32} {c_at : Int32} {c_open : Int32} {c_steps : Int32} {c_use : Int32} {c_traced : Int32} {c_speaks : Int32} {c_isParted : Int32} {c_s : Nat → Int32} {c_errors : Nat → Int32} {x1 : Int32} {Q : Int32 → (Nat → Int32) → Prop} (R : RETi g cX7_falseSorts 3 (fun (r : Int32) w => ∃ (c_errors' : Nat → Int32), Q r c_errors' ∧ w = [(q_t, .inr (7, [.ref q_t_s, .ref q_t_k, .ref q_t_laid, .int c_images, .ref q_t_errors, .int c_at, .int c_open, .int c_steps, .int c_use, .ref q_t_step, .ref q_t_named, .ref q_t_pile, .ref q_t_sums1, .ref q_t_parts1, .int c_traced, .ref q_t_trace, .int c_speaks, .int c_isParted, .ref q_t_bits, .ref q_t_sizes, .ref q_t_number, .ref q_t_aside])), (q_t_s, .inl (g.X.cI, 476, .inl c_s)), (q_t_errors, .inl (g.X.cI, 7, .inl c_errors'))])) (h : wp_X7_falseSorts x1 c_s c_errors Q) : ST g 0 0 0 [(0, .ref q_t), (1, .int x1)] [] [(q_t, .inr (7, [.ref q_t_s, .ref q_t_k, .ref q_t_laid, .int c_images, .ref q_t_errors, .int c_at, .int c_open, .int c_steps, .int c_use, .ref q_t_step, .ref q_t_named, .ref q_t_pile, .ref q_t_sums1, .ref q_t_parts1, .int c_traced, .ref q_t_trace, .int c_speaks, .int c_isParted, .ref q_t_bits, .ref q_t_sizes, .ref q_t_number, .ref q_t_aside])), (q_t_s, .inl (g.X.cI, 476, .inl c_s)), (q_t_errors, .inl (g.X.cI, 7, .inl c_errors))] := by
  unfold wp_X7_falseSorts at h
  refine st_aload_n G 1 rfl 0 rfl dX7_falseSorts_0 rfl ?_
  refine st_iload_n G 2 rfl 1 rfl dX7_falseSorts_1 rfl ?_
  refine st_cVio G lk_X7_156 (c_X7_isPerson g.l g.D g.X q_t q_t_s q_t_k q_t_laid q_t_errors q_t_step q_t_named q_t_pile q_t_sums1 q_t_parts1 q_t_trace q_t_bits q_t_sizes q_t_number q_t_aside c_images c_at c_open c_steps c_use c_traced c_speaks c_isParted c_s x1 _ h) ⟨rfl, rfl, ⟨Nat.le_of_ble_eq_true rfl, Nat.le_of_ble_eq_true rfl⟩, Nat.zero_le _, Nat.zero_le _⟩ 5 rfl [0, 1] rfl (by decide) 0 7 rfl rfl rfl (Nat.le_of_ble_eq_true rfl) rfl dX7_falseSorts_2 (fun r_2 h => ?_)
  refine st_if_ne G 14 8 rfl dX7_falseSorts_5 rfl (fun c => ?_) (fun c => ?_)
  · have h := h.1 c
    refine st_aload_n G 15 rfl 0 rfl dX7_falseSorts_14 rfl ?_
    refine st_iload_n G 16 rfl 1 rfl dX7_falseSorts_15 rfl ?_
    refine st_iconst G 17 rfl (2 : Int32) (by decide) dX7_falseSorts_16 ?_
    refine st_cVio G lk_X7_124 (c_X7_its g.l g.D g.X q_t q_t_s q_t_k q_t_laid q_t_errors q_t_step q_t_named q_t_pile q_t_sums1 q_t_parts1 q_t_trace q_t_bits q_t_sizes q_t_number q_t_aside c_images c_at c_open c_steps c_use c_traced c_speaks c_isParted c_s x1 (2 : Int32) _ h) ⟨rfl, rfl, ⟨Nat.le_of_ble_eq_true rfl, Nat.le_of_ble_eq_true rfl⟩, Nat.zero_le _, Nat.zero_le _⟩ 20 rfl [0, 1] rfl (by decide) 0 7 rfl rfl rfl (Nat.le_of_ble_eq_true rfl) rfl dX7_falseSorts_17 (fun r_17 h => ?_)
    refine st_istore_n G 21 rfl [(2, .int r_17), (0, .ref q_t), (1, .int x1)] dX7_falseSorts_20 rfl (by decide) rfl ?_
    refine st_aload_n G 22 rfl 1 rfl dX7_falseSorts_21 rfl ?_
    refine st_iload_n G 23 rfl 2 rfl dX7_falseSorts_22 rfl ?_
    refine st_iconst G 24 rfl (3 : Int32) (by decide) dX7_falseSorts_23 ?_
    refine st_cVio G lk_X7_124 (c_X7_its g.l g.D g.X q_t q_t_s q_t_k q_t_laid q_t_errors q_t_step q_t_named q_t_pile q_t_sums1 q_t_parts1 q_t_trace q_t_bits q_t_sizes q_t_number q_t_aside c_images c_at c_open c_steps c_use c_traced c_speaks c_isParted c_s x1 (3 : Int32) _ h) ⟨rfl, rfl, ⟨Nat.le_of_ble_eq_true rfl, Nat.le_of_ble_eq_true rfl⟩, Nat.zero_le _, Nat.zero_le _⟩ 27 rfl [0, 1] rfl (by decide) 0 7 rfl rfl rfl (Nat.le_of_ble_eq_true rfl) rfl dX7_falseSorts_24 (fun r_24 h => ?_)
    refine st_istore_n G 28 rfl [(3, .int r_24), (2, .int r_17), (0, .ref q_t), (1, .int x1)] dX7_falseSorts_27 rfl (by decide) rfl ?_
    refine st_iload_n G 29 rfl 1 rfl dX7_falseSorts_28 rfl ?_
    refine st_iconst G 30 rfl (-1 : Int32) (by decide) dX7_falseSorts_29 ?_
    refine st_icmp_ne G 39 33 rfl dX7_falseSorts_30 rfl (fun c => ?_) (fun c => ?_)
    · have h := h.1 c
      refine st_iconst G 40 rfl (0 : Int32) (by decide) dX7_falseSorts_39 ?_
      refine st_istore G 42 rfl [(4, .int (0 : Int32)), (3, .int r_24), (2, .int r_17), (0, .ref q_t), (1, .int x1)] dX7_falseSorts_40 (by decide) rfl ?_
      refine st_iconst G 43 rfl (0 : Int32) (by decide) dX7_falseSorts_42 ?_
      refine st_istore G 45 rfl [(5, .int (0 : Int32)), (4, .int (0 : Int32)), (3, .int r_24), (2, .int r_17), (0, .ref q_t), (1, .int x1)] dX7_falseSorts_43 (by decide) rfl ?_
      refine st_L (L' := [(0, .ref q_t), (1, .int x1), (2, .int r_17), (3, .int r_24), (4, .int (0 : Int32)), (5, .int (0 : Int32))]) [4, 5, 3, 2, 1, 0] rfl ?_
      obtain ⟨n, h⟩ := h
      exact b_X7_falseSorts_45 G R n _ _ _ _ _ _ h
    have h := h.2 c
    refine st_aload_n G 34 rfl 2 rfl dX7_falseSorts_33 rfl ?_
    refine st_iconst G 35 rfl (3 : Int32) (by decide) dX7_falseSorts_34 ?_
    refine st_cVi G lk_X7_65 (c_X7_error g.l g.D g.X q_t q_t_s q_t_k q_t_laid q_t_errors q_t_step q_t_named q_t_pile q_t_sums1 q_t_parts1 q_t_trace q_t_bits q_t_sizes q_t_number q_t_aside c_images c_at c_open c_steps c_use c_traced c_speaks c_isParted c_errors (3 : Int32) _ h) ⟨rfl, rfl, ⟨Nat.le_of_ble_eq_true rfl, Nat.le_of_ble_eq_true rfl⟩, Nat.zero_le _, Nat.zero_le _⟩ 38 rfl [0, 2] rfl (by decide) 0 7 rfl rfl rfl (Nat.le_of_ble_eq_true rfl) rfl dX7_falseSorts_35 (fun r_35 w hq => ?_)
    obtain ⟨c_errors_35, h, rfl⟩ := hq
    refine st_wp (ws' := [(q_t, .inr (7, [.ref q_t_s, .ref q_t_k, .ref q_t_laid, .int c_images, .ref q_t_errors, .int c_at, .int c_open, .int c_steps, .int c_use, .ref q_t_step, .ref q_t_named, .ref q_t_pile, .ref q_t_sums1, .ref q_t_parts1, .int c_traced, .ref q_t_trace, .int c_speaks, .int c_isParted, .ref q_t_bits, .ref q_t_sizes, .ref q_t_number, .ref q_t_aside])), (q_t_s, .inl (g.X.cI, 476, .inl c_s)), (q_t_errors, .inl (g.X.cI, 7, .inl c_errors_35))]) 3 [1] (by decide) rfl rfl (by rfl) [(q_t_s, .inl (g.X.cI, 476, .inl c_s))] (by rfl) rfl ?_
    exact R _ _ _ _ dX7_falseSorts_38 (Nat.le_of_ble_eq_true rfl) ⟨_, h, rfl⟩
  have h := h.2 c
  refine st_aload_n G 9 rfl 0 rfl dX7_falseSorts_8 rfl ?_
  refine st_iconst G 10 rfl (1 : Int32) (by decide) dX7_falseSorts_9 ?_
  refine st_cVi G lk_X7_65 (c_X7_error g.l g.D g.X q_t q_t_s q_t_k q_t_laid q_t_errors q_t_step q_t_named q_t_pile q_t_sums1 q_t_parts1 q_t_trace q_t_bits q_t_sizes q_t_number q_t_aside c_images c_at c_open c_steps c_use c_traced c_speaks c_isParted c_errors (1 : Int32) _ h) ⟨rfl, rfl, ⟨Nat.le_of_ble_eq_true rfl, Nat.le_of_ble_eq_true rfl⟩, Nat.zero_le _, Nat.zero_le _⟩ 13 rfl [0, 2] rfl (by decide) 0 7 rfl rfl rfl (Nat.le_of_ble_eq_true rfl) rfl dX7_falseSorts_10 (fun r_10 w hq => ?_)
  obtain ⟨c_errors_10, h, rfl⟩ := hq
  refine st_wp (ws' := [(q_t, .inr (7, [.ref q_t_s, .ref q_t_k, .ref q_t_laid, .int c_images, .ref q_t_errors, .int c_at, .int c_open, .int c_steps, .int c_use, .ref q_t_step, .ref q_t_named, .ref q_t_pile, .ref q_t_sums1, .ref q_t_parts1, .int c_traced, .ref q_t_trace, .int c_speaks, .int c_isParted, .ref q_t_bits, .ref q_t_sizes, .ref q_t_number, .ref q_t_aside])), (q_t_s, .inl (g.X.cI, 476, .inl c_s)), (q_t_errors, .inl (g.X.cI, 7, .inl c_errors_10))]) 3 [1] (by decide) rfl rfl (by rfl) [(q_t_s, .inl (g.X.cI, 476, .inl c_s))] (by rfl) rfl ?_
  exact R _ _ _ _ dX7_falseSorts_13 (Nat.le_of_ble_eq_true rfl) ⟨_, h, rfl⟩
set_option maxRecDepth 100000 in
set_option maxHeartbeats 4000000 in
theorem c_X7_falseSorts (l : Launch) (D : va_G) (X : XT) (q_t q_t_s q_t_k q_t_laid q_t_errors q_t_step q_t_named q_t_pile q_t_sums1 q_t_parts1 q_t_trace q_t_bits q_t_sizes q_t_number q_t_aside : Nat) (c_images : Int32) (c_at : Int32) (c_open : Int32) (c_steps : Int32) (c_use : Int32) (c_traced : Int32) (c_speaks : Int32) (c_isParted : Int32) (c_s : Nat → Int32) (c_errors : Nat → Int32) (x1 : Int32) (Q : Int32 → (Nat → Int32) → Prop) (h : wp_X7_falseSorts x1 c_s c_errors Q) : CTi l D X yX7_falseSorts cX7_falseSorts 6 .int rm_X7_falseSorts [.ref q_t, .int x1] [(q_t, .inr (7, [.ref q_t_s, .ref q_t_k, .ref q_t_laid, .int c_images, .ref q_t_errors, .int c_at, .int c_open, .int c_steps, .int c_use, .ref q_t_step, .ref q_t_named, .ref q_t_pile, .ref q_t_sums1, .ref q_t_parts1, .int c_traced, .ref q_t_trace, .int c_speaks, .int c_isParted, .ref q_t_bits, .ref q_t_sizes, .ref q_t_number, .ref q_t_aside])), (q_t_s, .inl (X.cI, 476, .inl c_s)), (q_t_errors, .inl (X.cI, 7, .inl c_errors))] (fun (r : Int32) w => ∃ (c_errors' : Nat → Int32), Q r c_errors' ∧ w = [(q_t, .inr (7, [.ref q_t_s, .ref q_t_k, .ref q_t_laid, .int c_images, .ref q_t_errors, .int c_at, .int c_open, .int c_steps, .int c_use, .ref q_t_step, .ref q_t_named, .ref q_t_pile, .ref q_t_sums1, .ref q_t_parts1, .int c_traced, .ref q_t_trace, .int c_speaks, .int c_isParted, .ref q_t_bits, .ref q_t_sizes, .ref q_t_number, .ref q_t_aside])), (q_t_s, .inl (X.cI, 476, .inl c_s)), (q_t_errors, .inl (X.cI, 7, .inl c_errors'))]) :=
  ct_i (by decide) (Nat.le_of_ble_eq_true rfl) (fun g hl hD hX G R => by subst hl; subst hD; subst hX; exact b_X7_falseSorts_e G R h)
set_option maxRecDepth 100000 in
set_option maxHeartbeats 4000000 in
theorem b_X7_kin_e {g : GT} (G : GOOD g RX7 cX7_kin 3 rm_X7_kin) {q_t q_t_s q_t_k q_t_laid q_t_errors q_t_step q_t_named q_t_pile q_t_sums1 q_t_parts1 q_t_trace q_t_bits q_t_sizes q_t_number q_t_aside : Nat} {c_images : Int32} {c_at : Int32} {c_open : Int32} {c_steps : Int32} {c_use : Int32} {c_traced : Int32} {c_speaks : Int32} {c_isParted : Int32} {c_s : Nat → Int32} {c_errors : Nat → Int32} {x1 : Int32} {x2 : Int32} {Q : Int32 → (Nat → Int32) → Prop} (R : RETi g cX7_kin 3 (fun (r : Int32) w => ∃ (c_errors' : Nat → Int32), Q r c_errors' ∧ w = [(q_t, .inr (7, [.ref q_t_s, .ref q_t_k, .ref q_t_laid, .int c_images, .ref q_t_errors, .int c_at, .int c_open, .int c_steps, .int c_use, .ref q_t_step, .ref q_t_named, .ref q_t_pile, .ref q_t_sums1, .ref q_t_parts1, .int c_traced, .ref q_t_trace, .int c_speaks, .int c_isParted, .ref q_t_bits, .ref q_t_sizes, .ref q_t_number, .ref q_t_aside])), (q_t_s, .inl (g.X.cI, 476, .inl c_s)), (q_t_errors, .inl (g.X.cI, 7, .inl c_errors'))])) (h : wp_X7_kin x1 x2 c_s c_errors Q) : ST g 0 0 0 [(0, .ref q_t), (1, .int x1), (2, .int x2)] [] [(q_t, .inr (7, [.ref q_t_s, .ref q_t_k, .ref q_t_laid, .int c_images, .ref q_t_errors, .int c_at, .int c_open, .int c_steps, .int c_use, .ref q_t_step, .ref q_t_named, .ref q_t_pile, .ref q_t_sums1, .ref q_t_parts1, .int c_traced, .ref q_t_trace, .int c_speaks, .int c_isParted, .ref q_t_bits, .ref q_t_sizes, .ref q_t_number, .ref q_t_aside])), (q_t_s, .inl (g.X.cI, 476, .inl c_s)), (q_t_errors, .inl (g.X.cI, 7, .inl c_errors))] := by
  unfold wp_X7_kin at h
  refine st_aload_n G 1 rfl 0 rfl dX7_kin_0 rfl ?_
  refine st_iload_n G 2 rfl 1 rfl dX7_kin_1 rfl ?_
  refine st_iload_n G 3 rfl 2 rfl dX7_kin_2 rfl ?_
  refine st_cVio G lk_X7_159 (c_X7_areTwo g.l g.D g.X q_t q_t_s q_t_k q_t_laid q_t_errors q_t_step q_t_named q_t_pile q_t_sums1 q_t_parts1 q_t_trace q_t_bits q_t_sizes q_t_number q_t_aside c_images c_at c_open c_steps c_use c_traced c_speaks c_isParted c_s x1 x2 _ h) ⟨rfl, rfl, ⟨Nat.le_of_ble_eq_true rfl, Nat.le_of_ble_eq_true rfl⟩, Nat.zero_le _, Nat.zero_le _⟩ 6 rfl [0, 1] rfl (by decide) 0 7 rfl rfl rfl (Nat.le_of_ble_eq_true rfl) rfl dX7_kin_3 (fun r_3 h => ?_)
  refine st_if_eq G 31 9 rfl dX7_kin_6 rfl (fun c => ?_) (fun c => ?_)
  · have h := h.1 c
    refine st_aload_n G 32 rfl 0 rfl dX7_kin_31 rfl ?_
    refine st_iconst G 33 rfl (1 : Int32) (by decide) dX7_kin_32 ?_
    refine st_cVi G lk_X7_65 (c_X7_error g.l g.D g.X q_t q_t_s q_t_k q_t_laid q_t_errors q_t_step q_t_named q_t_pile q_t_sums1 q_t_parts1 q_t_trace q_t_bits q_t_sizes q_t_number q_t_aside c_images c_at c_open c_steps c_use c_traced c_speaks c_isParted c_errors (1 : Int32) _ h) ⟨rfl, rfl, ⟨Nat.le_of_ble_eq_true rfl, Nat.le_of_ble_eq_true rfl⟩, Nat.zero_le _, Nat.zero_le _⟩ 36 rfl [0, 2] rfl (by decide) 0 7 rfl rfl rfl (Nat.le_of_ble_eq_true rfl) rfl dX7_kin_33 (fun r_33 w hq => ?_)
    obtain ⟨c_errors_33, h, rfl⟩ := hq
    refine st_wp (ws' := [(q_t, .inr (7, [.ref q_t_s, .ref q_t_k, .ref q_t_laid, .int c_images, .ref q_t_errors, .int c_at, .int c_open, .int c_steps, .int c_use, .ref q_t_step, .ref q_t_named, .ref q_t_pile, .ref q_t_sums1, .ref q_t_parts1, .int c_traced, .ref q_t_trace, .int c_speaks, .int c_isParted, .ref q_t_bits, .ref q_t_sizes, .ref q_t_number, .ref q_t_aside])), (q_t_s, .inl (g.X.cI, 476, .inl c_s)), (q_t_errors, .inl (g.X.cI, 7, .inl c_errors_33))]) 3 [1] (by decide) rfl rfl (by rfl) [(q_t_s, .inl (g.X.cI, 476, .inl c_s))] (by rfl) rfl ?_
    exact R _ _ _ _ dX7_kin_36 (Nat.le_of_ble_eq_true rfl) ⟨_, h, rfl⟩
  have h := h.2 c
  refine st_aload_n G 10 rfl 0 rfl dX7_kin_9 rfl ?_
  refine st_iload_n G 11 rfl 1 rfl dX7_kin_10 rfl ?_
  refine st_cVio G lk_X7_169 (c_X7_fromOf g.l g.D g.X q_t q_t_s q_t_k q_t_laid q_t_errors q_t_step q_t_named q_t_pile q_t_sums1 q_t_parts1 q_t_trace q_t_bits q_t_sizes q_t_number q_t_aside c_images c_at c_open c_steps c_use c_traced c_speaks c_isParted c_s x1 _ h) ⟨rfl, rfl, ⟨Nat.le_of_ble_eq_true rfl, Nat.le_of_ble_eq_true rfl⟩, Nat.zero_le _, Nat.zero_le _⟩ 14 rfl [0, 1] rfl (by decide) 0 7 rfl rfl rfl (Nat.le_of_ble_eq_true rfl) rfl dX7_kin_11 (fun r_11 h => ?_)
  refine st_iconst G 15 rfl (1 : Int32) (by decide) dX7_kin_14 ?_
  refine st_iload_n G 16 rfl 1 rfl dX7_kin_15 rfl ?_
  refine st_ishl G 17 rfl dX7_kin_16 ?_
  refine st_ior G 18 rfl dX7_kin_17 ?_
  refine st_aload_n G 19 rfl 0 rfl dX7_kin_18 rfl ?_
  refine st_iload_n G 20 rfl 2 rfl dX7_kin_19 rfl ?_
  refine st_cVio G lk_X7_169 (c_X7_fromOf g.l g.D g.X q_t q_t_s q_t_k q_t_laid q_t_errors q_t_step q_t_named q_t_pile q_t_sums1 q_t_parts1 q_t_trace q_t_bits q_t_sizes q_t_number q_t_aside c_images c_at c_open c_steps c_use c_traced c_speaks c_isParted c_s x2 _ h) ⟨rfl, rfl, ⟨Nat.le_of_ble_eq_true rfl, Nat.le_of_ble_eq_true rfl⟩, Nat.zero_le _, Nat.zero_le _⟩ 23 rfl [0, 1] rfl (by decide) 0 7 rfl rfl rfl (Nat.le_of_ble_eq_true rfl) rfl dX7_kin_20 (fun r_20 h => ?_)
  refine st_iconst G 24 rfl (1 : Int32) (by decide) dX7_kin_23 ?_
  refine st_iload_n G 25 rfl 2 rfl dX7_kin_24 rfl ?_
  refine st_ishl G 26 rfl dX7_kin_25 ?_
  refine st_ior G 27 rfl dX7_kin_26 ?_
  refine st_iand G 28 rfl dX7_kin_27 ?_
  refine st_goto G 36 dX7_kin_28 rfl ?_
  exact R _ _ _ _ dX7_kin_36 (Nat.le_of_ble_eq_true rfl) ⟨_, h, rfl⟩
set_option maxRecDepth 100000 in
set_option maxHeartbeats 4000000 in
theorem c_X7_kin (l : Launch) (D : va_G) (X : XT) (q_t q_t_s q_t_k q_t_laid q_t_errors q_t_step q_t_named q_t_pile q_t_sums1 q_t_parts1 q_t_trace q_t_bits q_t_sizes q_t_number q_t_aside : Nat) (c_images : Int32) (c_at : Int32) (c_open : Int32) (c_steps : Int32) (c_use : Int32) (c_traced : Int32) (c_speaks : Int32) (c_isParted : Int32) (c_s : Nat → Int32) (c_errors : Nat → Int32) (x1 : Int32) (x2 : Int32) (Q : Int32 → (Nat → Int32) → Prop) (h : wp_X7_kin x1 x2 c_s c_errors Q) : CTi l D X yX7_kin cX7_kin 3 .int rm_X7_kin [.ref q_t, .int x1, .int x2] [(q_t, .inr (7, [.ref q_t_s, .ref q_t_k, .ref q_t_laid, .int c_images, .ref q_t_errors, .int c_at, .int c_open, .int c_steps, .int c_use, .ref q_t_step, .ref q_t_named, .ref q_t_pile, .ref q_t_sums1, .ref q_t_parts1, .int c_traced, .ref q_t_trace, .int c_speaks, .int c_isParted, .ref q_t_bits, .ref q_t_sizes, .ref q_t_number, .ref q_t_aside])), (q_t_s, .inl (X.cI, 476, .inl c_s)), (q_t_errors, .inl (X.cI, 7, .inl c_errors))] (fun (r : Int32) w => ∃ (c_errors' : Nat → Int32), Q r c_errors' ∧ w = [(q_t, .inr (7, [.ref q_t_s, .ref q_t_k, .ref q_t_laid, .int c_images, .ref q_t_errors, .int c_at, .int c_open, .int c_steps, .int c_use, .ref q_t_step, .ref q_t_named, .ref q_t_pile, .ref q_t_sums1, .ref q_t_parts1, .int c_traced, .ref q_t_trace, .int c_speaks, .int c_isParted, .ref q_t_bits, .ref q_t_sizes, .ref q_t_number, .ref q_t_aside])), (q_t_s, .inl (X.cI, 476, .inl c_s)), (q_t_errors, .inl (X.cI, 7, .inl c_errors'))]) :=
  ct_i (by decide) (Nat.le_of_ble_eq_true rfl) (fun g hl hD hX G R => by subst hl; subst hD; subst hX; exact b_X7_kin_e G R h)
set_option maxRecDepth 100000 in
set_option maxHeartbeats 4000000 in
theorem b_X7_balance_4 {g : GT} (G : GOOD g RX7 cX7_balance 4 rm_X7_balance) {q_t q_t_s q_t_k q_t_laid q_t_errors q_t_step q_t_named q_t_pile q_t_sums1 q_t_parts1 q_t_trace q_t_bits q_t_sizes q_t_number q_t_aside : Nat} {c_images : Int32} {c_at : Int32} {c_open : Int32} {c_steps : Int32} {c_use : Int32} {c_traced : Int32} {c_speaks : Int32} {c_isParted : Int32} {c_s : Nat → Int32} {Q : Int32 → Prop} (R : RETi g cX7_balance 2 (fun (r : Int32) w => (Q r) ∧ w = [(q_t, .inr (7, [.ref q_t_s, .ref q_t_k, .ref q_t_laid, .int c_images, .ref q_t_errors, .int c_at, .int c_open, .int c_steps, .int c_use, .ref q_t_step, .ref q_t_named, .ref q_t_pile, .ref q_t_sums1, .ref q_t_parts1, .int c_traced, .ref q_t_trace, .int c_speaks, .int c_isParted, .ref q_t_bits, .ref q_t_sizes, .ref q_t_number, .ref q_t_aside])), (q_t_s, .inl (g.X.cI, 476, .inl c_s))])) : ∀ (n : Nat) (x1 : Int32) (x2 : Int32) (x3 : Int32), wp_X7_balance_b4 Q c_s n x1 x2 x3 → ST g 0 0 4 [(0, .ref q_t), (1, .int x1), (2, .int x2), (3, .int x3)] [] [(q_t, .inr (7, [.ref q_t_s, .ref q_t_k, .ref q_t_laid, .int c_images, .ref q_t_errors, .int c_at, .int c_open, .int c_steps, .int c_use, .ref q_t_step, .ref q_t_named, .ref q_t_pile, .ref q_t_sums1, .ref q_t_parts1, .int c_traced, .ref q_t_trace, .int c_speaks, .int c_isParted, .ref q_t_bits, .ref q_t_sizes, .ref q_t_number, .ref q_t_aside])), (q_t_s, .inl (g.X.cI, 476, .inl c_s))] := by
  intro n
  induction n with
  | zero => intro x1 x2 x3 h; exact False.elim h
  | succ n hK4 =>
    intro x1 x2 x3 h
    unfold wp_X7_balance_b4 at h
    refine st_iload_n G 5 rfl 3 rfl dX7_balance_4 rfl ?_
    refine st_aload_n G 6 rfl 0 rfl dX7_balance_5 rfl ?_
    refine st_get G inX7 rfl 0 (by decide) wd_82 9 rfl 0 rfl rfl dX7_balance_6 ?_
    refine st_iconst G 10 rfl (4 : Int32) (by decide) dX7_balance_9 ?_
    obtain ⟨hin, h⟩ := h
    refine st_iald G 11 rfl 1 rfl hin dX7_balance_10 ?_
    refine st_icmp_ge G 36 14 rfl dX7_balance_11 rfl (fun c => ?_) (fun c => ?_)
    · have h := h.1 c
      refine st_iload_n G 37 rfl 2 rfl dX7_balance_36 rfl ?_
      exact R _ _ _ _ dX7_balance_37 (Nat.le_of_ble_eq_true rfl) ⟨h, rfl⟩
    have h := h.2 c
    refine st_iload_n G 15 rfl 2 rfl dX7_balance_14 rfl ?_
    refine st_aload_n G 16 rfl 0 rfl dX7_balance_15 rfl ?_
    refine st_iload_n G 17 rfl 3 rfl dX7_balance_16 rfl ?_
    refine st_iload_n G 18 rfl 1 rfl dX7_balance_17 rfl ?_
    refine st_cVio G lk_X7_188 (c_X7_owed g.l g.D g.X q_t q_t_s q_t_k q_t_laid q_t_errors q_t_step q_t_named q_t_pile q_t_sums1 q_t_parts1 q_t_trace q_t_bits q_t_sizes q_t_number q_t_aside c_images c_at c_open c_steps c_use c_traced c_speaks c_isParted c_s x3 x1 _ h) ⟨rfl, rfl, ⟨Nat.le_of_ble_eq_true rfl, Nat.le_of_ble_eq_true rfl⟩, Nat.zero_le _, Nat.zero_le _⟩ 21 rfl [0, 1] rfl (by decide) 0 7 rfl rfl rfl (Nat.le_of_ble_eq_true rfl) rfl dX7_balance_18 (fun r_18 h => ?_)
    refine st_aload_n G 22 rfl 0 rfl dX7_balance_21 rfl ?_
    refine st_iload_n G 23 rfl 1 rfl dX7_balance_22 rfl ?_
    refine st_iload_n G 24 rfl 3 rfl dX7_balance_23 rfl ?_
    refine st_cVio G lk_X7_188 (c_X7_owed g.l g.D g.X q_t q_t_s q_t_k q_t_laid q_t_errors q_t_step q_t_named q_t_pile q_t_sums1 q_t_parts1 q_t_trace q_t_bits q_t_sizes q_t_number q_t_aside c_images c_at c_open c_steps c_use c_traced c_speaks c_isParted c_s x1 x3 _ h) ⟨rfl, rfl, ⟨Nat.le_of_ble_eq_true rfl, Nat.le_of_ble_eq_true rfl⟩, Nat.zero_le _, Nat.zero_le _⟩ 27 rfl [0, 1] rfl (by decide) 0 7 rfl rfl rfl (Nat.le_of_ble_eq_true rfl) rfl dX7_balance_24 (fun r_24 h => ?_)
    refine st_isub G 28 rfl dX7_balance_27 ?_
    refine st_iadd G 29 rfl dX7_balance_28 ?_
    refine st_topi (fun x2_29 ex2_29 => ?_)
    have h := h x2_29 ex2_29
    refine st_istore_n G 30 rfl [(2, .int x2_29), (0, .ref q_t), (1, .int x1), (3, .int x3)] dX7_balance_29 rfl (by decide) rfl ?_
    obtain ⟨x3_30, ex3_30⟩ : ∃ y : Int32, y = (x3 + (1 : Int32)) := ⟨_, rfl⟩
    have h := h x3_30 ex3_30
    refine st_iinc G 33 rfl [(3, .int x3_30), (2, .int x2_29), (0, .ref q_t), (1, .int x1)] x3_30 3 rfl (by rw [ex3_30]; rfl) dX7_balance_30 (by decide) rfl ?_
    refine st_goto G 4 dX7_balance_33 rfl ?_
    refine st_L (L' := [(0, .ref q_t), (1, .int x1), (2, .int x2_29), (3, .int x3_30)]) [2, 3, 1, 0] rfl ?_
    exact hK4 _ _ _ h
set_option maxRecDepth 100000 in
set_option maxHeartbeats 4000000 in
theorem b_X7_balance_e {g : GT} (G : GOOD g RX7 cX7_balance 4 rm_X7_balance) {q_t q_t_s q_t_k q_t_laid q_t_errors q_t_step q_t_named q_t_pile q_t_sums1 q_t_parts1 q_t_trace q_t_bits q_t_sizes q_t_number q_t_aside : Nat} {c_images : Int32} {c_at : Int32} {c_open : Int32} {c_steps : Int32} {c_use : Int32} {c_traced : Int32} {c_speaks : Int32} {c_isParted : Int32} {c_s : Nat → Int32} {x1 : Int32} {Q : Int32 → Prop} (R : RETi g cX7_balance 2 (fun (r : Int32) w => (Q r) ∧ w = [(q_t, .inr (7, [.ref q_t_s, .ref q_t_k, .ref q_t_laid, .int c_images, .ref q_t_errors, .int c_at, .int c_open, .int c_steps, .int c_use, .ref q_t_step, .ref q_t_named, .ref q_t_pile, .ref q_t_sums1, .ref q_t_parts1, .int c_traced, .ref q_t_trace, .int c_speaks, .int c_isParted, .ref q_t_bits, .ref q_t_sizes, .ref q_t_number, .ref q_t_aside])), (q_t_s, .inl (g.X.cI, 476, .inl c_s))])) (h : wp_X7_balance x1 c_s Q) : ST g 0 0 0 [(0, .ref q_t), (1, .int x1)] [] [(q_t, .inr (7, [.ref q_t_s, .ref q_t_k, .ref q_t_laid, .int c_images, .ref q_t_errors, .int c_at, .int c_open, .int c_steps, .int c_use, .ref q_t_step, .ref q_t_named, .ref q_t_pile, .ref q_t_sums1, .ref q_t_parts1, .int c_traced, .ref q_t_trace, .int c_speaks, .int c_isParted, .ref q_t_bits, .ref q_t_sizes, .ref q_t_number, .ref q_t_aside])), (q_t_s, .inl (g.X.cI, 476, .inl c_s))] := by
  unfold wp_X7_balance at h
  refine st_iconst G 1 rfl (0 : Int32) (by decide) dX7_balance_0 ?_
  refine st_istore_n G 2 rfl [(2, .int (0 : Int32)), (0, .ref q_t), (1, .int x1)] dX7_balance_1 rfl (by decide) rfl ?_
  refine st_iconst G 3 rfl (0 : Int32) (by decide) dX7_balance_2 ?_
  refine st_istore_n G 4 rfl [(3, .int (0 : Int32)), (2, .int (0 : Int32)), (0, .ref q_t), (1, .int x1)] dX7_balance_3 rfl (by decide) rfl ?_
  refine st_L (L' := [(0, .ref q_t), (1, .int x1), (2, .int (0 : Int32)), (3, .int (0 : Int32))]) [2, 3, 1, 0] rfl ?_
  obtain ⟨n, h⟩ := h
  exact b_X7_balance_4 G R n _ _ _ h
set_option maxRecDepth 100000 in
set_option maxHeartbeats 4000000 in
theorem c_X7_balance (l : Launch) (D : va_G) (X : XT) (q_t q_t_s q_t_k q_t_laid q_t_errors q_t_step q_t_named q_t_pile q_t_sums1 q_t_parts1 q_t_trace q_t_bits q_t_sizes q_t_number q_t_aside : Nat) (c_images : Int32) (c_at : Int32) (c_open : Int32) (c_steps : Int32) (c_use : Int32) (c_traced : Int32) (c_speaks : Int32) (c_isParted : Int32) (c_s : Nat → Int32) (x1 : Int32) (Q : Int32 → Prop) (h : wp_X7_balance x1 c_s Q) : CTi l D X yX7_balance cX7_balance 4 .int rm_X7_balance [.ref q_t, .int x1] [(q_t, .inr (7, [.ref q_t_s, .ref q_t_k, .ref q_t_laid, .int c_images, .ref q_t_errors, .int c_at, .int c_open, .int c_steps, .int c_use, .ref q_t_step, .ref q_t_named, .ref q_t_pile, .ref q_t_sums1, .ref q_t_parts1, .int c_traced, .ref q_t_trace, .int c_speaks, .int c_isParted, .ref q_t_bits, .ref q_t_sizes, .ref q_t_number, .ref q_t_aside])), (q_t_s, .inl (X.cI, 476, .inl c_s))] (fun (r : Int32) w => (Q r) ∧ w = [(q_t, .inr (7, [.ref q_t_s, .ref q_t_k, .ref q_t_laid, .int c_images, .ref q_t_errors, .int c_at, .int c_open, .int c_steps, .int c_use, .ref q_t_step, .ref q_t_named, .ref q_t_pile, .ref q_t_sums1, .ref q_t_parts1, .int c_traced, .ref q_t_trace, .int c_speaks, .int c_isParted, .ref q_t_bits, .ref q_t_sizes, .ref q_t_number, .ref q_t_aside])), (q_t_s, .inl (X.cI, 476, .inl c_s))]) :=
  ct_i (by decide) (Nat.le_of_ble_eq_true rfl) (fun g hl hD hX G R => by subst hl; subst hD; subst hX; exact b_X7_balance_e G R h)
set_option maxRecDepth 100000 in
set_option maxHeartbeats 4000000 in
theorem b_X7_fewestPayments_94 {g : GT} (G : GOOD g RX7 cX7_fewestPayments 8 rm_X7_fewestPayments) {q_t q_t_s q_t_k q_t_laid q_t_errors q_t_step q_t_named q_t_pile q_t_sums1 q_t_parts1 q_t_trace q_t_bits q_t_sizes q_t_number q_t_aside : Nat} {c_images : Int32} {c_at : Int32} {c_open : Int32} {c_steps : Int32} {c_use : Int32} {c_traced : Int32} {c_speaks : Int32} {c_isParted : Int32} {c_s : Nat → Int32} {Q : Int32 → (Nat → Int32) → (Nat → Int32) → Prop} {KK72 : (Int32) → (Int32) → (Int32) → (Nat → Int32) → (Nat → Int32) → Prop} (R : RETi g cX7_fewestPayments 4 (fun (r : Int32) w => ∃ (c_sums1' : Nat → Int32) (c_parts1' : Nat → Int32), Q r c_sums1' c_parts1' ∧ w = [(q_t, .inr (7, [.ref q_t_s, .ref q_t_k, .ref q_t_laid, .int c_images, .ref q_t_errors, .int c_at, .int c_open, .int c_steps, .int c_use, .ref q_t_step, .ref q_t_named, .ref q_t_pile, .ref q_t_sums1, .ref q_t_parts1, .int c_traced, .ref q_t_trace, .int c_speaks, .int c_isParted, .ref q_t_bits, .ref q_t_sizes, .ref q_t_number, .ref q_t_aside])), (q_t_s, .inl (g.X.cI, 476, .inl c_s)), (q_t_sums1, .inl (g.X.cI, 256, .inl c_sums1')), (q_t_parts1, .inl (g.X.cI, 256, .inl c_parts1'))])) (hK72 : ∀ (x1 : Int32) (x2 : Int32) (x3 : Int32) (c_sums1 : Nat → Int32) (c_parts1 : Nat → Int32), KK72 x1 x2 x3 c_sums1 c_parts1 → ST g 0 0 72 [(0, .ref q_t), (1, .int x1), (2, .int x2), (3, .int x3)] [] [(q_t, .inr (7, [.ref q_t_s, .ref q_t_k, .ref q_t_laid, .int c_images, .ref q_t_errors, .int c_at, .int c_open, .int c_steps, .int c_use, .ref q_t_step, .ref q_t_named, .ref q_t_pile, .ref q_t_sums1, .ref q_t_parts1, .int c_traced, .ref q_t_trace, .int c_speaks, .int c_isParted, .ref q_t_bits, .ref q_t_sizes, .ref q_t_number, .ref q_t_aside])), (q_t_s, .inl (g.X.cI, 476, .inl c_s)), (q_t_sums1, .inl (g.X.cI, 256, .inl c_sums1)), (q_t_parts1, .inl (g.X.cI, 256, .inl c_parts1))]) : ∀ (n : Nat) (x1 : Int32) (x2 : Int32) (x3 : Int32) (x4 : Int32) (x5 : Int32) (x6 : Int32) (c_sums1 : Nat → Int32) (c_parts1 : Nat → Int32), wp_X7_fewestPayments_b94 Q KK72 c_s n x1 x2 x3 x4 x5 x6 c_sums1 c_parts1 → ST g 0 0 94 [(0, .ref q_t), (1, .int x1), (2, .int x2), (3, .int x3), (4, .int x4), (5, .int x5), (6, .int x6)] [] [(q_t, .inr (7, [.ref q_t_s, .ref q_t_k, .ref q_t_laid, .int c_images, .ref q_t_errors, .int c_at, .int c_open, .int c_steps, .int c_use, .ref q_t_step, .ref q_t_named, .ref q_t_pile, .ref q_t_sums1, .ref q_t_parts1, .int c_traced, .ref q_t_trace, .int c_speaks, .int c_isParted, .ref q_t_bits, .ref q_t_sizes, .ref q_t_number, .ref q_t_aside])), (q_t_s, .inl (g.X.cI, 476, .inl c_s)), (q_t_sums1, .inl (g.X.cI, 256, .inl c_sums1)), (q_t_parts1, .inl (g.X.cI, 256, .inl c_parts1))] := by
  intro n
  induction n with
  | zero => intro x1 x2 x3 x4 x5 x6 c_sums1 c_parts1 h; exact False.elim h
  | succ n hK94 =>
    intro x1 x2 x3 x4 x5 x6 c_sums1 c_parts1 h
    unfold wp_X7_fewestPayments_b94 at h
    refine st_iload G 96 rfl 6 rfl dX7_fewestPayments_94 ?_
    refine st_aload_n G 97 rfl 0 rfl dX7_fewestPayments_96 rfl ?_
    refine st_get G inX7 rfl 0 (by decide) wd_82 100 rfl 0 rfl rfl dX7_fewestPayments_97 ?_
    refine st_iconst G 101 rfl (4 : Int32) (by decide) dX7_fewestPayments_100 ?_
    obtain ⟨hin, h⟩ := h
    refine st_iald G 102 rfl 1 rfl hin dX7_fewestPayments_101 ?_
    refine st_icmp_ge G 163 105 rfl dX7_fewestPayments_102 rfl (fun c => ?_) (fun c => ?_)
    · have h := h.1 c
      refine st_aload_n G 164 rfl 0 rfl dX7_fewestPayments_163 rfl ?_
      refine st_get G inX7 rfl 12 (by decide) wd_89 167 rfl 0 rfl rfl dX7_fewestPayments_164 ?_
      refine st_iload_n G 168 rfl 3 rfl dX7_fewestPayments_167 rfl ?_
      refine st_iload G 170 rfl 4 rfl dX7_fewestPayments_168 ?_
      obtain ⟨hin, h⟩ := h
      obtain ⟨c_sums1_170, ec_sums1_170⟩ : ∃ y : Nat → Int32, y = upd c_sums1 x3.toNatClampNeg x4 := ⟨_, rfl⟩
      have h := h c_sums1_170 ec_sums1_170
      refine st_iast G [(q_t, .inr (7, [.ref q_t_s, .ref q_t_k, .ref q_t_laid, .int c_images, .ref q_t_errors, .int c_at, .int c_open, .int c_steps, .int c_use, .ref q_t_step, .ref q_t_named, .ref q_t_pile, .ref q_t_sums1, .ref q_t_parts1, .int c_traced, .ref q_t_trace, .int c_speaks, .int c_isParted, .ref q_t_bits, .ref q_t_sizes, .ref q_t_number, .ref q_t_aside])), (q_t_s, .inl (g.X.cI, 476, .inl c_s)), (q_t_sums1, .inl (g.X.cI, 256, .inl c_sums1_170)), (q_t_parts1, .inl (g.X.cI, 256, .inl c_parts1))] 171 rfl 2 rfl hin (by subst ec_sums1_170; rfl) dX7_fewestPayments_170 ?_
      refine st_aload_n G 172 rfl 0 rfl dX7_fewestPayments_171 rfl ?_
      refine st_get G inX7 rfl 13 (by decide) wd_90 175 rfl 0 rfl rfl dX7_fewestPayments_172 ?_
      refine st_iload_n G 176 rfl 3 rfl dX7_fewestPayments_175 rfl ?_
      refine st_iload G 178 rfl 4 rfl dX7_fewestPayments_176 ?_
      refine st_if_ne G 188 181 rfl dX7_fewestPayments_178 rfl (fun c => ?_) (fun c => ?_)
      · have h := h.1 c
        refine st_iload G 190 rfl 5 rfl dX7_fewestPayments_188 ?_
        obtain ⟨hin, h⟩ := h
        obtain ⟨c_parts1_190, ec_parts1_190⟩ : ∃ y : Nat → Int32, y = upd c_parts1 x3.toNatClampNeg x5 := ⟨_, rfl⟩
        have h := h c_parts1_190 ec_parts1_190
        refine st_iast G [(q_t, .inr (7, [.ref q_t_s, .ref q_t_k, .ref q_t_laid, .int c_images, .ref q_t_errors, .int c_at, .int c_open, .int c_steps, .int c_use, .ref q_t_step, .ref q_t_named, .ref q_t_pile, .ref q_t_sums1, .ref q_t_parts1, .int c_traced, .ref q_t_trace, .int c_speaks, .int c_isParted, .ref q_t_bits, .ref q_t_sizes, .ref q_t_number, .ref q_t_aside])), (q_t_s, .inl (g.X.cI, 476, .inl c_s)), (q_t_sums1, .inl (g.X.cI, 256, .inl c_sums1_170)), (q_t_parts1, .inl (g.X.cI, 256, .inl c_parts1_190))] 191 rfl 3 rfl hin (by subst ec_parts1_190; rfl) dX7_fewestPayments_190 ?_
        obtain ⟨x3_191, ex3_191⟩ : ∃ y : Int32, y = (x3 + (1 : Int32)) := ⟨_, rfl⟩
        have h := h x3_191 ex3_191
        refine st_iinc G 194 rfl [(3, .int x3_191), (0, .ref q_t), (1, .int x1), (2, .int x2), (4, .int x4), (5, .int x5), (6, .int x6)] x3_191 3 rfl (by rw [ex3_191]; rfl) dX7_fewestPayments_191 (by decide) rfl ?_
        refine st_goto G 72 dX7_fewestPayments_194 rfl ?_
        refine st_L (L' := [(0, .ref q_t), (1, .int x1), (2, .int x2), (3, .int x3_191)]) [1, 2, 3, 0] rfl ?_
        exact hK72 _ _ _ _ _ h
      have h := h.2 c
      refine st_iload G 183 rfl 5 rfl dX7_fewestPayments_181 ?_
      refine st_iconst G 184 rfl (1 : Int32) (by decide) dX7_fewestPayments_183 ?_
      refine st_iadd G 185 rfl dX7_fewestPayments_184 ?_
      refine st_goto G 190 dX7_fewestPayments_185 rfl ?_
      obtain ⟨hin, h⟩ := h
      obtain ⟨c_parts1_190, ec_parts1_190⟩ : ∃ y : Nat → Int32, y = upd c_parts1 x3.toNatClampNeg (x5 + (1 : Int32)) := ⟨_, rfl⟩
      have h := h c_parts1_190 ec_parts1_190
      refine st_iast G [(q_t, .inr (7, [.ref q_t_s, .ref q_t_k, .ref q_t_laid, .int c_images, .ref q_t_errors, .int c_at, .int c_open, .int c_steps, .int c_use, .ref q_t_step, .ref q_t_named, .ref q_t_pile, .ref q_t_sums1, .ref q_t_parts1, .int c_traced, .ref q_t_trace, .int c_speaks, .int c_isParted, .ref q_t_bits, .ref q_t_sizes, .ref q_t_number, .ref q_t_aside])), (q_t_s, .inl (g.X.cI, 476, .inl c_s)), (q_t_sums1, .inl (g.X.cI, 256, .inl c_sums1_170)), (q_t_parts1, .inl (g.X.cI, 256, .inl c_parts1_190))] 191 rfl 3 rfl hin (by subst ec_parts1_190; rfl) dX7_fewestPayments_190 ?_
      obtain ⟨x3_191, ex3_191⟩ : ∃ y : Int32, y = (x3 + (1 : Int32)) := ⟨_, rfl⟩
      have h := h x3_191 ex3_191
      refine st_iinc G 194 rfl [(3, .int x3_191), (0, .ref q_t), (1, .int x1), (2, .int x2), (4, .int x4), (5, .int x5), (6, .int x6)] x3_191 3 rfl (by rw [ex3_191]; rfl) dX7_fewestPayments_191 (by decide) rfl ?_
      refine st_goto G 72 dX7_fewestPayments_194 rfl ?_
      refine st_L (L' := [(0, .ref q_t), (1, .int x1), (2, .int x2), (3, .int x3_191)]) [1, 2, 3, 0] rfl ?_
      exact hK72 _ _ _ _ _ h
    have h := h.2 c
    refine st_iload_n G 106 rfl 3 rfl dX7_fewestPayments_105 rfl ?_
    refine st_iload G 108 rfl 6 rfl dX7_fewestPayments_106 ?_
    refine st_ishr G 109 rfl dX7_fewestPayments_108 ?_
    refine st_iconst G 110 rfl (1 : Int32) (by decide) dX7_fewestPayments_109 ?_
    refine st_iand G 111 rfl dX7_fewestPayments_110 ?_
    refine st_iconst G 112 rfl (1 : Int32) (by decide) dX7_fewestPayments_111 ?_
    refine st_icmp_ne G 157 115 rfl dX7_fewestPayments_112 rfl (fun c => ?_) (fun c => ?_)
    · have h := h.1 c
      obtain ⟨x6_157, ex6_157⟩ : ∃ y : Int32, y = (x6 + (1 : Int32)) := ⟨_, rfl⟩
      have h := h x6_157 ex6_157
      refine st_iinc G 160 rfl [(6, .int x6_157), (0, .ref q_t), (1, .int x1), (2, .int x2), (3, .int x3), (4, .int x4), (5, .int x5)] x6_157 6 rfl (by rw [ex6_157]; rfl) dX7_fewestPayments_157 (by decide) rfl ?_
      refine st_goto G 94 dX7_fewestPayments_160 rfl ?_
      refine st_L (L' := [(0, .ref q_t), (1, .int x1), (2, .int x2), (3, .int x3), (4, .int x4), (5, .int x5), (6, .int x6_157)]) [1, 2, 3, 4, 5, 6, 0] rfl ?_
      exact hK94 _ _ _ _ _ _ _ _ h
    have h := h.2 c
    refine st_iload G 117 rfl 4 rfl dX7_fewestPayments_115 ?_
    refine st_aload_n G 118 rfl 0 rfl dX7_fewestPayments_117 rfl ?_
    refine st_iload G 120 rfl 6 rfl dX7_fewestPayments_118 ?_
    refine st_cVio G lk_X7_219 (c_X7_balance g.l g.D g.X q_t q_t_s q_t_k q_t_laid q_t_errors q_t_step q_t_named q_t_pile q_t_sums1 q_t_parts1 q_t_trace q_t_bits q_t_sizes q_t_number q_t_aside c_images c_at c_open c_steps c_use c_traced c_speaks c_isParted c_s x6 _ h) ⟨rfl, rfl, ⟨Nat.le_of_ble_eq_true rfl, Nat.le_of_ble_eq_true rfl⟩, Nat.zero_le _, Nat.zero_le _⟩ 123 rfl [0, 1] rfl (by decide) 0 7 rfl rfl rfl (Nat.le_of_ble_eq_true rfl) rfl dX7_fewestPayments_120 (fun r_120 h => ?_)
    refine st_iadd G 124 rfl dX7_fewestPayments_123 ?_
    refine st_topi (fun x4_124 ex4_124 => ?_)
    have h := h x4_124 ex4_124
    refine st_istore G 126 rfl [(4, .int x4_124), (0, .ref q_t), (1, .int x1), (2, .int x2), (3, .int x3), (5, .int x5), (6, .int x6)] dX7_fewestPayments_124 (by decide) rfl ?_
    refine st_aload_n G 127 rfl 1 rfl dX7_fewestPayments_126 rfl ?_
    refine st_get G inX7 rfl 13 (by decide) wd_90 130 rfl 0 rfl rfl dX7_fewestPayments_127 ?_
    refine st_iload_n G 131 rfl 4 rfl dX7_fewestPayments_130 rfl ?_
    refine st_iconst G 132 rfl (1 : Int32) (by decide) dX7_fewestPayments_131 ?_
    refine st_iload G 134 rfl 6 rfl dX7_fewestPayments_132 ?_
    refine st_ishl G 135 rfl dX7_fewestPayments_134 ?_
    refine st_iconst G 136 rfl (-1 : Int32) (by decide) dX7_fewestPayments_135 ?_
    refine st_ixor G 137 rfl dX7_fewestPayments_136 ?_
    refine st_iand G 138 rfl dX7_fewestPayments_137 ?_
    obtain ⟨hin, h⟩ := h
    refine st_iald G 139 rfl 3 rfl hin dX7_fewestPayments_138 ?_
    refine st_topi (fun x7_139 ex7_139 => ?_)
    have h := h x7_139 ex7_139
    refine st_istore G 141 rfl [(7, .int x7_139), (4, .int x4_124), (0, .ref q_t), (1, .int x1), (2, .int x2), (3, .int x3), (5, .int x5), (6, .int x6)] dX7_fewestPayments_139 (by decide) rfl ?_
    refine st_iload G 143 rfl 0 rfl dX7_fewestPayments_141 ?_
    refine st_iload G 145 rfl 6 rfl dX7_fewestPayments_143 ?_
    refine st_icmp_le G 153 148 rfl dX7_fewestPayments_145 rfl (fun c => ?_) (fun c => ?_)
    · have h := h.1 c
      refine st_iload G 155 rfl 6 rfl dX7_fewestPayments_153 ?_
      refine st_istore G 157 rfl [(5, .int x5), (7, .int x7_139), (4, .int x4_124), (0, .ref q_t), (1, .int x1), (2, .int x2), (3, .int x3), (6, .int x6)] dX7_fewestPayments_155 (by decide) rfl ?_
      obtain ⟨x6_157, ex6_157⟩ : ∃ y : Int32, y = (x6 + (1 : Int32)) := ⟨_, rfl⟩
      have h := h x6_157 ex6_157
      refine st_iinc G 160 rfl [(6, .int x6_157), (5, .int x5), (7, .int x7_139), (4, .int x4_124), (0, .ref q_t), (1, .int x1), (2, .int x2), (3, .int x3)] x6_157 7 rfl (by rw [ex6_157]; rfl) dX7_fewestPayments_157 (by decide) rfl ?_
      refine st_goto G 94 dX7_fewestPayments_160 rfl ?_
      refine st_L (L' := [(0, .ref q_t), (1, .int x1), (2, .int x2), (3, .int x3), (4, .int x4_124), (5, .int x5), (6, .int x6_157)]) [4, 5, 6, 7, 3, 1, 0] rfl ?_
      exact hK94 _ _ _ _ _ _ _ _ h
    have h := h.2 c
    refine st_iload G 150 rfl 0 rfl dX7_fewestPayments_148 ?_
    refine st_goto G 155 dX7_fewestPayments_150 rfl ?_
    refine st_istore G 157 rfl [(5, .int x7_139), (7, .int x7_139), (4, .int x4_124), (0, .ref q_t), (1, .int x1), (2, .int x2), (3, .int x3), (6, .int x6)] dX7_fewestPayments_155 (by decide) rfl ?_
    obtain ⟨x6_157, ex6_157⟩ : ∃ y : Int32, y = (x6 + (1 : Int32)) := ⟨_, rfl⟩
    have h := h x6_157 ex6_157
    refine st_iinc G 160 rfl [(6, .int x6_157), (5, .int x7_139), (7, .int x7_139), (4, .int x4_124), (0, .ref q_t), (1, .int x1), (2, .int x2), (3, .int x3)] x6_157 7 rfl (by rw [ex6_157]; rfl) dX7_fewestPayments_157 (by decide) rfl ?_
    refine st_goto G 94 dX7_fewestPayments_160 rfl ?_
    refine st_L (L' := [(0, .ref q_t), (1, .int x1), (2, .int x2), (3, .int x3), (4, .int x4_124), (5, .int x7_139), (6, .int x6_157)]) [4, 5, 6, 7, 3, 1, 0] rfl ?_
    exact hK94 _ _ _ _ _ _ _ _ h
set_option maxRecDepth 100000 in
set_option maxHeartbeats 4000000 in
theorem b_X7_fewestPayments_72 {g : GT} (G : GOOD g RX7 cX7_fewestPayments 8 rm_X7_fewestPayments) {q_t q_t_s q_t_k q_t_laid q_t_errors q_t_step q_t_named q_t_pile q_t_sums1 q_t_parts1 q_t_trace q_t_bits q_t_sizes q_t_number q_t_aside : Nat} {c_images : Int32} {c_at : Int32} {c_open : Int32} {c_steps : Int32} {c_use : Int32} {c_traced : Int32} {c_speaks : Int32} {c_isParted : Int32} {c_s : Nat → Int32} {Q : Int32 → (Nat → Int32) → (Nat → Int32) → Prop} (R : RETi g cX7_fewestPayments 4 (fun (r : Int32) w => ∃ (c_sums1' : Nat → Int32) (c_parts1' : Nat → Int32), Q r c_sums1' c_parts1' ∧ w = [(q_t, .inr (7, [.ref q_t_s, .ref q_t_k, .ref q_t_laid, .int c_images, .ref q_t_errors, .int c_at, .int c_open, .int c_steps, .int c_use, .ref q_t_step, .ref q_t_named, .ref q_t_pile, .ref q_t_sums1, .ref q_t_parts1, .int c_traced, .ref q_t_trace, .int c_speaks, .int c_isParted, .ref q_t_bits, .ref q_t_sizes, .ref q_t_number, .ref q_t_aside])), (q_t_s, .inl (g.X.cI, 476, .inl c_s)), (q_t_sums1, .inl (g.X.cI, 256, .inl c_sums1')), (q_t_parts1, .inl (g.X.cI, 256, .inl c_parts1'))])) : ∀ (n : Nat) (x1 : Int32) (x2 : Int32) (x3 : Int32) (c_sums1 : Nat → Int32) (c_parts1 : Nat → Int32), wp_X7_fewestPayments_b72 Q c_s n x1 x2 x3 c_sums1 c_parts1 → ST g 0 0 72 [(0, .ref q_t), (1, .int x1), (2, .int x2), (3, .int x3)] [] [(q_t, .inr (7, [.ref q_t_s, .ref q_t_k, .ref q_t_laid, .int c_images, .ref q_t_errors, .int c_at, .int c_open, .int c_steps, .int c_use, .ref q_t_step, .ref q_t_named, .ref q_t_pile, .ref q_t_sums1, .ref q_t_parts1, .int c_traced, .ref q_t_trace, .int c_speaks, .int c_isParted, .ref q_t_bits, .ref q_t_sizes, .ref q_t_number, .ref q_t_aside])), (q_t_s, .inl (g.X.cI, 476, .inl c_s)), (q_t_sums1, .inl (g.X.cI, 256, .inl c_sums1)), (q_t_parts1, .inl (g.X.cI, 256, .inl c_parts1))] := by
  intro n
  induction n with
  | zero => intro x1 x2 x3 c_sums1 c_parts1 h; exact False.elim h
  | succ n hK72 =>
    intro x1 x2 x3 c_sums1 c_parts1 h
    unfold wp_X7_fewestPayments_b72 at h
    refine st_iload_n G 73 rfl 3 rfl dX7_fewestPayments_72 rfl ?_
    refine st_iload_n G 74 rfl 1 rfl dX7_fewestPayments_73 rfl ?_
    refine st_icmp_gt G 197 77 rfl dX7_fewestPayments_74 rfl (fun c => ?_) (fun c => ?_)
    · have h := h.1 c
      refine st_iload_n G 198 rfl 2 rfl dX7_fewestPayments_197 rfl ?_
      refine st_aload_n G 199 rfl 0 rfl dX7_fewestPayments_198 rfl ?_
      refine st_get G inX7 rfl 13 (by decide) wd_90 202 rfl 0 rfl rfl dX7_fewestPayments_199 ?_
      refine st_iload_n G 203 rfl 1 rfl dX7_fewestPayments_202 rfl ?_
      obtain ⟨hin, h⟩ := h
      refine st_iald G 204 rfl 3 rfl hin dX7_fewestPayments_203 ?_
      refine st_isub G 205 rfl dX7_fewestPayments_204 ?_
      exact R _ _ _ _ dX7_fewestPayments_205 (Nat.le_of_ble_eq_true rfl) ⟨_, _, h, rfl⟩
    have h := h.2 c
    refine st_iload_n G 78 rfl 3 rfl dX7_fewestPayments_77 rfl ?_
    refine st_iload_n G 79 rfl 1 rfl dX7_fewestPayments_78 rfl ?_
    refine st_iconst G 80 rfl (-1 : Int32) (by decide) dX7_fewestPayments_79 ?_
    refine st_ixor G 81 rfl dX7_fewestPayments_80 ?_
    refine st_iand G 82 rfl dX7_fewestPayments_81 ?_
    refine st_if_ne G 191 85 rfl dX7_fewestPayments_82 rfl (fun c => ?_) (fun c => ?_)
    · have h := h.1 c
      obtain ⟨x3_191, ex3_191⟩ : ∃ y : Int32, y = (x3 + (1 : Int32)) := ⟨_, rfl⟩
      have h := h x3_191 ex3_191
      refine st_iinc G 194 rfl [(3, .int x3_191), (0, .ref q_t), (1, .int x1), (2, .int x2)] x3_191 3 rfl (by rw [ex3_191]; rfl) dX7_fewestPayments_191 (by decide) rfl ?_
      refine st_goto G 72 dX7_fewestPayments_194 rfl ?_
      refine st_L (L' := [(0, .ref q_t), (1, .int x1), (2, .int x2), (3, .int x3_191)]) [1, 2, 3, 0] rfl ?_
      exact hK72 _ _ _ _ _ h
    have h := h.2 c
    refine st_iconst G 86 rfl (0 : Int32) (by decide) dX7_fewestPayments_85 ?_
    refine st_istore G 88 rfl [(4, .int (0 : Int32)), (0, .ref q_t), (1, .int x1), (2, .int x2), (3, .int x3)] dX7_fewestPayments_86 (by decide) rfl ?_
    refine st_iconst G 89 rfl (0 : Int32) (by decide) dX7_fewestPayments_88 ?_
    refine st_istore G 91 rfl [(5, .int (0 : Int32)), (4, .int (0 : Int32)), (0, .ref q_t), (1, .int x1), (2, .int x2), (3, .int x3)] dX7_fewestPayments_89 (by decide) rfl ?_
    refine st_iconst G 92 rfl (0 : Int32) (by decide) dX7_fewestPayments_91 ?_
    refine st_istore G 94 rfl [(6, .int (0 : Int32)), (5, .int (0 : Int32)), (4, .int (0 : Int32)), (0, .ref q_t), (1, .int x1), (2, .int x2), (3, .int x3)] dX7_fewestPayments_92 (by decide) rfl ?_
    refine st_L (L' := [(0, .ref q_t), (1, .int x1), (2, .int x2), (3, .int x3), (4, .int (0 : Int32)), (5, .int (0 : Int32)), (6, .int (0 : Int32))]) [3, 4, 5, 6, 2, 1, 0] rfl ?_
    obtain ⟨n, h⟩ := h
    exact b_X7_fewestPayments_94 G R hK72 n _ _ _ _ _ _ _ _ h
set_option maxRecDepth 100000 in
set_option maxHeartbeats 4000000 in
theorem b_X7_fewestPayments_6 {g : GT} (G : GOOD g RX7 cX7_fewestPayments 8 rm_X7_fewestPayments) {q_t q_t_s q_t_k q_t_laid q_t_errors q_t_step q_t_named q_t_pile q_t_sums1 q_t_parts1 q_t_trace q_t_bits q_t_sizes q_t_number q_t_aside : Nat} {c_images : Int32} {c_at : Int32} {c_open : Int32} {c_steps : Int32} {c_use : Int32} {c_traced : Int32} {c_speaks : Int32} {c_isParted : Int32} {c_s : Nat → Int32} {Q : Int32 → (Nat → Int32) → (Nat → Int32) → Prop} (R : RETi g cX7_fewestPayments 4 (fun (r : Int32) w => ∃ (c_sums1' : Nat → Int32) (c_parts1' : Nat → Int32), Q r c_sums1' c_parts1' ∧ w = [(q_t, .inr (7, [.ref q_t_s, .ref q_t_k, .ref q_t_laid, .int c_images, .ref q_t_errors, .int c_at, .int c_open, .int c_steps, .int c_use, .ref q_t_step, .ref q_t_named, .ref q_t_pile, .ref q_t_sums1, .ref q_t_parts1, .int c_traced, .ref q_t_trace, .int c_speaks, .int c_isParted, .ref q_t_bits, .ref q_t_sizes, .ref q_t_number, .ref q_t_aside])), (q_t_s, .inl (g.X.cI, 476, .inl c_s)), (q_t_sums1, .inl (g.X.cI, 256, .inl c_sums1')), (q_t_parts1, .inl (g.X.cI, 256, .inl c_parts1'))])) : ∀ (n : Nat) (x1 : Int32) (x2 : Int32) (x3 : Int32) (c_sums1 : Nat → Int32) (c_parts1 : Nat → Int32), wp_X7_fewestPayments_b6 Q c_s n x1 x2 x3 c_sums1 c_parts1 → ST g 0 0 6 [(0, .ref q_t), (1, .int x1), (2, .int x2), (3, .int x3)] [] [(q_t, .inr (7, [.ref q_t_s, .ref q_t_k, .ref q_t_laid, .int c_images, .ref q_t_errors, .int c_at, .int c_open, .int c_steps, .int c_use, .ref q_t_step, .ref q_t_named, .ref q_t_pile, .ref q_t_sums1, .ref q_t_parts1, .int c_traced, .ref q_t_trace, .int c_speaks, .int c_isParted, .ref q_t_bits, .ref q_t_sizes, .ref q_t_number, .ref q_t_aside])), (q_t_s, .inl (g.X.cI, 476, .inl c_s)), (q_t_sums1, .inl (g.X.cI, 256, .inl c_sums1)), (q_t_parts1, .inl (g.X.cI, 256, .inl c_parts1))] := by
  intro n
  induction n with
  | zero => intro x1 x2 x3 c_sums1 c_parts1 h; exact False.elim h
  | succ n hK6 =>
    intro x1 x2 x3 c_sums1 c_parts1 h
    unfold wp_X7_fewestPayments_b6 at h
    refine st_iload_n G 7 rfl 3 rfl dX7_fewestPayments_6 rfl ?_
    refine st_aload_n G 8 rfl 0 rfl dX7_fewestPayments_7 rfl ?_
    refine st_get G inX7 rfl 0 (by decide) wd_82 11 rfl 0 rfl rfl dX7_fewestPayments_8 ?_
    refine st_iconst G 12 rfl (4 : Int32) (by decide) dX7_fewestPayments_11 ?_
    obtain ⟨hin, h⟩ := h
    refine st_iald G 13 rfl 1 rfl hin dX7_fewestPayments_12 ?_
    refine st_icmp_ge G 56 16 rfl dX7_fewestPayments_13 rfl (fun c => ?_) (fun c => ?_)
    · have h := h.1 c
      refine st_aload_n G 57 rfl 0 rfl dX7_fewestPayments_56 rfl ?_
      refine st_get G inX7 rfl 12 (by decide) wd_89 60 rfl 0 rfl rfl dX7_fewestPayments_57 ?_
      refine st_iconst G 61 rfl (0 : Int32) (by decide) dX7_fewestPayments_60 ?_
      refine st_iconst G 62 rfl (0 : Int32) (by decide) dX7_fewestPayments_61 ?_
      obtain ⟨hin, h⟩ := h
      obtain ⟨c_sums1_62, ec_sums1_62⟩ : ∃ y : Nat → Int32, y = upd c_sums1 (0 : Int32).toNatClampNeg (0 : Int32) := ⟨_, rfl⟩
      have h := h c_sums1_62 ec_sums1_62
      refine st_iast G [(q_t, .inr (7, [.ref q_t_s, .ref q_t_k, .ref q_t_laid, .int c_images, .ref q_t_errors, .int c_at, .int c_open, .int c_steps, .int c_use, .ref q_t_step, .ref q_t_named, .ref q_t_pile, .ref q_t_sums1, .ref q_t_parts1, .int c_traced, .ref q_t_trace, .int c_speaks, .int c_isParted, .ref q_t_bits, .ref q_t_sizes, .ref q_t_number, .ref q_t_aside])), (q_t_s, .inl (g.X.cI, 476, .inl c_s)), (q_t_sums1, .inl (g.X.cI, 256, .inl c_sums1_62)), (q_t_parts1, .inl (g.X.cI, 256, .inl c_parts1))] 63 rfl 2 rfl hin (by subst ec_sums1_62; rfl) dX7_fewestPayments_62 ?_
      refine st_aload_n G 64 rfl 0 rfl dX7_fewestPayments_63 rfl ?_
      refine st_get G inX7 rfl 13 (by decide) wd_90 67 rfl 0 rfl rfl dX7_fewestPayments_64 ?_
      refine st_iconst G 68 rfl (0 : Int32) (by decide) dX7_fewestPayments_67 ?_
      refine st_iconst G 69 rfl (0 : Int32) (by decide) dX7_fewestPayments_68 ?_
      obtain ⟨hin, h⟩ := h
      obtain ⟨c_parts1_69, ec_parts1_69⟩ : ∃ y : Nat → Int32, y = upd c_parts1 (0 : Int32).toNatClampNeg (0 : Int32) := ⟨_, rfl⟩
      have h := h c_parts1_69 ec_parts1_69
      refine st_iast G [(q_t, .inr (7, [.ref q_t_s, .ref q_t_k, .ref q_t_laid, .int c_images, .ref q_t_errors, .int c_at, .int c_open, .int c_steps, .int c_use, .ref q_t_step, .ref q_t_named, .ref q_t_pile, .ref q_t_sums1, .ref q_t_parts1, .int c_traced, .ref q_t_trace, .int c_speaks, .int c_isParted, .ref q_t_bits, .ref q_t_sizes, .ref q_t_number, .ref q_t_aside])), (q_t_s, .inl (g.X.cI, 476, .inl c_s)), (q_t_sums1, .inl (g.X.cI, 256, .inl c_sums1_62)), (q_t_parts1, .inl (g.X.cI, 256, .inl c_parts1_69))] 70 rfl 3 rfl hin (by subst ec_parts1_69; rfl) dX7_fewestPayments_69 ?_
      refine st_iconst G 71 rfl (1 : Int32) (by decide) dX7_fewestPayments_70 ?_
      refine st_istore_n G 72 rfl [(3, .int (1 : Int32)), (0, .ref q_t), (1, .int x1), (2, .int x2)] dX7_fewestPayments_71 rfl (by decide) rfl ?_
      refine st_L (L' := [(0, .ref q_t), (1, .int x1), (2, .int x2), (3, .int (1 : Int32))]) [1, 2, 3, 0] rfl ?_
      obtain ⟨n, h⟩ := h
      exact b_X7_fewestPayments_72 G R n _ _ _ _ _ h
    have h := h.2 c
    refine st_iload_n G 17 rfl 1 rfl dX7_fewestPayments_16 rfl ?_
    refine st_aload_n G 18 rfl 0 rfl dX7_fewestPayments_17 rfl ?_
    refine st_iload_n G 19 rfl 3 rfl dX7_fewestPayments_18 rfl ?_
    refine st_cVio G lk_X7_219 (c_X7_balance g.l g.D g.X q_t q_t_s q_t_k q_t_laid q_t_errors q_t_step q_t_named q_t_pile q_t_sums1 q_t_parts1 q_t_trace q_t_bits q_t_sizes q_t_number q_t_aside c_images c_at c_open c_steps c_use c_traced c_speaks c_isParted c_s x3 _ h) ⟨rfl, rfl, ⟨Nat.le_of_ble_eq_true rfl, Nat.le_of_ble_eq_true rfl⟩, Nat.zero_le _, Nat.zero_le _⟩ 22 rfl [0, 1] rfl (by decide) 0 7 rfl rfl rfl (Nat.le_of_ble_eq_true rfl) rfl dX7_fewestPayments_19 (fun r_19 h => ?_)
    refine st_if_eq G 31 25 rfl dX7_fewestPayments_22 rfl (fun c => ?_) (fun c => ?_)
    · have h := h.1 c
      refine st_iconst G 32 rfl (0 : Int32) (by decide) dX7_fewestPayments_31 ?_
      refine st_ior G 33 rfl dX7_fewestPayments_32 ?_
      refine st_topi (fun x1_33 ex1_33 => ?_)
      have h := h x1_33 ex1_33
      refine st_istore_n G 34 rfl [(1, .int x1_33), (0, .ref q_t), (2, .int x2), (3, .int x3)] dX7_fewestPayments_33 rfl (by decide) rfl ?_
      refine st_iload_n G 35 rfl 2 rfl dX7_fewestPayments_34 rfl ?_
      refine st_aload_n G 36 rfl 1 rfl dX7_fewestPayments_35 rfl ?_
      refine st_iload_n G 37 rfl 3 rfl dX7_fewestPayments_36 rfl ?_
      refine st_cVio G lk_X7_219 (c_X7_balance g.l g.D g.X q_t q_t_s q_t_k q_t_laid q_t_errors q_t_step q_t_named q_t_pile q_t_sums1 q_t_parts1 q_t_trace q_t_bits q_t_sizes q_t_number q_t_aside c_images c_at c_open c_steps c_use c_traced c_speaks c_isParted c_s x3 _ h) ⟨rfl, rfl, ⟨Nat.le_of_ble_eq_true rfl, Nat.le_of_ble_eq_true rfl⟩, Nat.zero_le _, Nat.zero_le _⟩ 40 rfl [0, 1] rfl (by decide) 0 7 rfl rfl rfl (Nat.le_of_ble_eq_true rfl) rfl dX7_fewestPayments_37 (fun r_37 h => ?_)
      refine st_if_eq G 47 43 rfl dX7_fewestPayments_40 rfl (fun c => ?_) (fun c => ?_)
      · have h := h.1 c
        refine st_iconst G 48 rfl (0 : Int32) (by decide) dX7_fewestPayments_47 ?_
        refine st_iadd G 49 rfl dX7_fewestPayments_48 ?_
        refine st_topi (fun x2_49 ex2_49 => ?_)
        have h := h x2_49 ex2_49
        refine st_istore_n G 50 rfl [(2, .int x2_49), (1, .int x1_33), (0, .ref q_t), (3, .int x3)] dX7_fewestPayments_49 rfl (by decide) rfl ?_
        obtain ⟨x3_50, ex3_50⟩ : ∃ y : Int32, y = (x3 + (1 : Int32)) := ⟨_, rfl⟩
        have h := h x3_50 ex3_50
        refine st_iinc G 53 rfl [(3, .int x3_50), (2, .int x2_49), (1, .int x1_33), (0, .ref q_t)] x3_50 3 rfl (by rw [ex3_50]; rfl) dX7_fewestPayments_50 (by decide) rfl ?_
        refine st_goto G 6 dX7_fewestPayments_53 rfl ?_
        refine st_L (L' := [(0, .ref q_t), (1, .int x1_33), (2, .int x2_49), (3, .int x3_50)]) [3, 2, 1, 0] rfl ?_
        exact hK6 _ _ _ _ _ h
      have h := h.2 c
      refine st_iconst G 44 rfl (1 : Int32) (by decide) dX7_fewestPayments_43 ?_
      refine st_goto G 48 dX7_fewestPayments_44 rfl ?_
      refine st_iadd G 49 rfl dX7_fewestPayments_48 ?_
      refine st_topi (fun x2_49 ex2_49 => ?_)
      have h := h x2_49 ex2_49
      refine st_istore_n G 50 rfl [(2, .int x2_49), (1, .int x1_33), (0, .ref q_t), (3, .int x3)] dX7_fewestPayments_49 rfl (by decide) rfl ?_
      obtain ⟨x3_50, ex3_50⟩ : ∃ y : Int32, y = (x3 + (1 : Int32)) := ⟨_, rfl⟩
      have h := h x3_50 ex3_50
      refine st_iinc G 53 rfl [(3, .int x3_50), (2, .int x2_49), (1, .int x1_33), (0, .ref q_t)] x3_50 3 rfl (by rw [ex3_50]; rfl) dX7_fewestPayments_50 (by decide) rfl ?_
      refine st_goto G 6 dX7_fewestPayments_53 rfl ?_
      refine st_L (L' := [(0, .ref q_t), (1, .int x1_33), (2, .int x2_49), (3, .int x3_50)]) [3, 2, 1, 0] rfl ?_
      exact hK6 _ _ _ _ _ h
    have h := h.2 c
    refine st_iconst G 26 rfl (1 : Int32) (by decide) dX7_fewestPayments_25 ?_
    refine st_iload_n G 27 rfl 3 rfl dX7_fewestPayments_26 rfl ?_
    refine st_ishl G 28 rfl dX7_fewestPayments_27 ?_
    refine st_goto G 32 dX7_fewestPayments_28 rfl ?_
    refine st_ior G 33 rfl dX7_fewestPayments_32 ?_
    refine st_topi (fun x1_33 ex1_33 => ?_)
    have h := h x1_33 ex1_33
    refine st_istore_n G 34 rfl [(1, .int x1_33), (0, .ref q_t), (2, .int x2), (3, .int x3)] dX7_fewestPayments_33 rfl (by decide) rfl ?_
    refine st_iload_n G 35 rfl 2 rfl dX7_fewestPayments_34 rfl ?_
    refine st_aload_n G 36 rfl 1 rfl dX7_fewestPayments_35 rfl ?_
    refine st_iload_n G 37 rfl 3 rfl dX7_fewestPayments_36 rfl ?_
    refine st_cVio G lk_X7_219 (c_X7_balance g.l g.D g.X q_t q_t_s q_t_k q_t_laid q_t_errors q_t_step q_t_named q_t_pile q_t_sums1 q_t_parts1 q_t_trace q_t_bits q_t_sizes q_t_number q_t_aside c_images c_at c_open c_steps c_use c_traced c_speaks c_isParted c_s x3 _ h) ⟨rfl, rfl, ⟨Nat.le_of_ble_eq_true rfl, Nat.le_of_ble_eq_true rfl⟩, Nat.zero_le _, Nat.zero_le _⟩ 40 rfl [0, 1] rfl (by decide) 0 7 rfl rfl rfl (Nat.le_of_ble_eq_true rfl) rfl dX7_fewestPayments_37 (fun r_37 h => ?_)
    refine st_if_eq G 47 43 rfl dX7_fewestPayments_40 rfl (fun c => ?_) (fun c => ?_)
    · have h := h.1 c
      refine st_iconst G 48 rfl (0 : Int32) (by decide) dX7_fewestPayments_47 ?_
      refine st_iadd G 49 rfl dX7_fewestPayments_48 ?_
      refine st_topi (fun x2_49 ex2_49 => ?_)
      have h := h x2_49 ex2_49
      refine st_istore_n G 50 rfl [(2, .int x2_49), (1, .int x1_33), (0, .ref q_t), (3, .int x3)] dX7_fewestPayments_49 rfl (by decide) rfl ?_
      obtain ⟨x3_50, ex3_50⟩ : ∃ y : Int32, y = (x3 + (1 : Int32)) := ⟨_, rfl⟩
      have h := h x3_50 ex3_50
      refine st_iinc G 53 rfl [(3, .int x3_50), (2, .int x2_49), (1, .int x1_33), (0, .ref q_t)] x3_50 3 rfl (by rw [ex3_50]; rfl) dX7_fewestPayments_50 (by decide) rfl ?_
      refine st_goto G 6 dX7_fewestPayments_53 rfl ?_
      refine st_L (L' := [(0, .ref q_t), (1, .int x1_33), (2, .int x2_49), (3, .int x3_50)]) [3, 2, 1, 0] rfl ?_
      exact hK6 _ _ _ _ _ h
    have h := h.2 c
    refine st_iconst G 44 rfl (1 : Int32) (by decide) dX7_fewestPayments_43 ?_
    refine st_goto G 48 dX7_fewestPayments_44 rfl ?_
    refine st_iadd G 49 rfl dX7_fewestPayments_48 ?_
    refine st_topi (fun x2_49 ex2_49 => ?_)
    have h := h x2_49 ex2_49
    refine st_istore_n G 50 rfl [(2, .int x2_49), (1, .int x1_33), (0, .ref q_t), (3, .int x3)] dX7_fewestPayments_49 rfl (by decide) rfl ?_
    obtain ⟨x3_50, ex3_50⟩ : ∃ y : Int32, y = (x3 + (1 : Int32)) := ⟨_, rfl⟩
    have h := h x3_50 ex3_50
    refine st_iinc G 53 rfl [(3, .int x3_50), (2, .int x2_49), (1, .int x1_33), (0, .ref q_t)] x3_50 3 rfl (by rw [ex3_50]; rfl) dX7_fewestPayments_50 (by decide) rfl ?_
    refine st_goto G 6 dX7_fewestPayments_53 rfl ?_
    refine st_L (L' := [(0, .ref q_t), (1, .int x1_33), (2, .int x2_49), (3, .int x3_50)]) [3, 2, 1, 0] rfl ?_
    exact hK6 _ _ _ _ _ h
set_option maxRecDepth 100000 in
set_option maxHeartbeats 4000000 in
theorem b_X7_fewestPayments_e {g : GT} (G : GOOD g RX7 cX7_fewestPayments 8 rm_X7_fewestPayments) {q_t q_t_s q_t_k q_t_laid q_t_errors q_t_step q_t_named q_t_pile q_t_sums1 q_t_parts1 q_t_trace q_t_bits q_t_sizes q_t_number q_t_aside : Nat} {c_images : Int32} {c_at : Int32} {c_open : Int32} {c_steps : Int32} {c_use : Int32} {c_traced : Int32} {c_speaks : Int32} {c_isParted : Int32} {c_s : Nat → Int32} {c_sums1 : Nat → Int32} {c_parts1 : Nat → Int32} {Q : Int32 → (Nat → Int32) → (Nat → Int32) → Prop} (R : RETi g cX7_fewestPayments 4 (fun (r : Int32) w => ∃ (c_sums1' : Nat → Int32) (c_parts1' : Nat → Int32), Q r c_sums1' c_parts1' ∧ w = [(q_t, .inr (7, [.ref q_t_s, .ref q_t_k, .ref q_t_laid, .int c_images, .ref q_t_errors, .int c_at, .int c_open, .int c_steps, .int c_use, .ref q_t_step, .ref q_t_named, .ref q_t_pile, .ref q_t_sums1, .ref q_t_parts1, .int c_traced, .ref q_t_trace, .int c_speaks, .int c_isParted, .ref q_t_bits, .ref q_t_sizes, .ref q_t_number, .ref q_t_aside])), (q_t_s, .inl (g.X.cI, 476, .inl c_s)), (q_t_sums1, .inl (g.X.cI, 256, .inl c_sums1')), (q_t_parts1, .inl (g.X.cI, 256, .inl c_parts1'))])) (h : wp_X7_fewestPayments c_s c_sums1 c_parts1 Q) : ST g 0 0 0 [(0, .ref q_t)] [] [(q_t, .inr (7, [.ref q_t_s, .ref q_t_k, .ref q_t_laid, .int c_images, .ref q_t_errors, .int c_at, .int c_open, .int c_steps, .int c_use, .ref q_t_step, .ref q_t_named, .ref q_t_pile, .ref q_t_sums1, .ref q_t_parts1, .int c_traced, .ref q_t_trace, .int c_speaks, .int c_isParted, .ref q_t_bits, .ref q_t_sizes, .ref q_t_number, .ref q_t_aside])), (q_t_s, .inl (g.X.cI, 476, .inl c_s)), (q_t_sums1, .inl (g.X.cI, 256, .inl c_sums1)), (q_t_parts1, .inl (g.X.cI, 256, .inl c_parts1))] := by
  unfold wp_X7_fewestPayments at h
  refine st_iconst G 1 rfl (0 : Int32) (by decide) dX7_fewestPayments_0 ?_
  refine st_istore_n G 2 rfl [(1, .int (0 : Int32)), (0, .ref q_t)] dX7_fewestPayments_1 rfl (by decide) rfl ?_
  refine st_iconst G 3 rfl (0 : Int32) (by decide) dX7_fewestPayments_2 ?_
  refine st_istore_n G 4 rfl [(2, .int (0 : Int32)), (1, .int (0 : Int32)), (0, .ref q_t)] dX7_fewestPayments_3 rfl (by decide) rfl ?_
  refine st_iconst G 5 rfl (0 : Int32) (by decide) dX7_fewestPayments_4 ?_
  refine st_istore_n G 6 rfl [(3, .int (0 : Int32)), (2, .int (0 : Int32)), (1, .int (0 : Int32)), (0, .ref q_t)] dX7_fewestPayments_5 rfl (by decide) rfl ?_
  refine st_L (L' := [(0, .ref q_t), (1, .int (0 : Int32)), (2, .int (0 : Int32)), (3, .int (0 : Int32))]) [3, 2, 1, 0] rfl ?_
  obtain ⟨n, h⟩ := h
  exact b_X7_fewestPayments_6 G R n _ _ _ _ _ h
set_option maxRecDepth 100000 in
set_option maxHeartbeats 4000000 in
theorem c_X7_fewestPayments (l : Launch) (D : va_G) (X : XT) (q_t q_t_s q_t_k q_t_laid q_t_errors q_t_step q_t_named q_t_pile q_t_sums1 q_t_parts1 q_t_trace q_t_bits q_t_sizes q_t_number q_t_aside : Nat) (c_images : Int32) (c_at : Int32) (c_open : Int32) (c_steps : Int32) (c_use : Int32) (c_traced : Int32) (c_speaks : Int32) (c_isParted : Int32) (c_s : Nat → Int32) (c_sums1 : Nat → Int32) (c_parts1 : Nat → Int32) (Q : Int32 → (Nat → Int32) → (Nat → Int32) → Prop) (h : wp_X7_fewestPayments c_s c_sums1 c_parts1 Q) : CTi l D X yX7_fewestPayments cX7_fewestPayments 8 .int rm_X7_fewestPayments [.ref q_t] [(q_t, .inr (7, [.ref q_t_s, .ref q_t_k, .ref q_t_laid, .int c_images, .ref q_t_errors, .int c_at, .int c_open, .int c_steps, .int c_use, .ref q_t_step, .ref q_t_named, .ref q_t_pile, .ref q_t_sums1, .ref q_t_parts1, .int c_traced, .ref q_t_trace, .int c_speaks, .int c_isParted, .ref q_t_bits, .ref q_t_sizes, .ref q_t_number, .ref q_t_aside])), (q_t_s, .inl (X.cI, 476, .inl c_s)), (q_t_sums1, .inl (X.cI, 256, .inl c_sums1)), (q_t_parts1, .inl (X.cI, 256, .inl c_parts1))] (fun (r : Int32) w => ∃ (c_sums1' : Nat → Int32) (c_parts1' : Nat → Int32), Q r c_sums1' c_parts1' ∧ w = [(q_t, .inr (7, [.ref q_t_s, .ref q_t_k, .ref q_t_laid, .int c_images, .ref q_t_errors, .int c_at, .int c_open, .int c_steps, .int c_use, .ref q_t_step, .ref q_t_named, .ref q_t_pile, .ref q_t_sums1, .ref q_t_parts1, .int c_traced, .ref q_t_trace, .int c_speaks, .int c_isParted, .ref q_t_bits, .ref q_t_sizes, .ref q_t_number, .ref q_t_aside])), (q_t_s, .inl (X.cI, 476, .inl c_s)), (q_t_sums1, .inl (X.cI, 256, .inl c_sums1')), (q_t_parts1, .inl (X.cI, 256, .inl c_parts1'))]) :=
  ct_i (by decide) (Nat.le_of_ble_eq_true rfl) (fun g hl hD hX G R => by subst hl; subst hD; subst hX; exact b_X7_fewestPayments_e G R h)
set_option maxRecDepth 100000 in
set_option maxHeartbeats 4000000 in
theorem b_X7_nets_28 {g : GT} (G : GOOD g RX7 cX7_nets 4 rm_X7_nets) {q_t q_t_s q_t_k q_t_laid q_t_errors q_t_step q_t_named q_t_pile q_t_sums1 q_t_parts1 q_t_trace q_t_bits q_t_sizes q_t_number q_t_aside : Nat} {c_images : Int32} {c_at : Int32} {c_open : Int32} {c_steps : Int32} {c_use : Int32} {c_traced : Int32} {c_speaks : Int32} {c_isParted : Int32} {c_s : Nat → Int32} {Q : Int32 → (Nat → Int32) → (Nat → Int32) → (Nat → Int32) → Prop} (R : RETi g cX7_nets 5 (fun (r : Int32) w => ∃ (c_errors' : Nat → Int32) (c_sums1' : Nat → Int32) (c_parts1' : Nat → Int32), Q r c_errors' c_sums1' c_parts1' ∧ w = [(q_t, .inr (7, [.ref q_t_s, .ref q_t_k, .ref q_t_laid, .int c_images, .ref q_t_errors, .int c_at, .int c_open, .int c_steps, .int c_use, .ref q_t_step, .ref q_t_named, .ref q_t_pile, .ref q_t_sums1, .ref q_t_parts1, .int c_traced, .ref q_t_trace, .int c_speaks, .int c_isParted, .ref q_t_bits, .ref q_t_sizes, .ref q_t_number, .ref q_t_aside])), (q_t_s, .inl (g.X.cI, 476, .inl c_s)), (q_t_errors, .inl (g.X.cI, 7, .inl c_errors')), (q_t_sums1, .inl (g.X.cI, 256, .inl c_sums1')), (q_t_parts1, .inl (g.X.cI, 256, .inl c_parts1'))])) : ∀ (n : Nat) (x2 : Int32) (x3 : Int32) (c_errors : Nat → Int32) (c_sums1 : Nat → Int32) (c_parts1 : Nat → Int32), wp_X7_nets_b28 Q c_s n x2 x3 c_errors c_sums1 c_parts1 → ST g 0 0 28 [(0, .ref q_t), (2, .int x2), (3, .int x3)] [] [(q_t, .inr (7, [.ref q_t_s, .ref q_t_k, .ref q_t_laid, .int c_images, .ref q_t_errors, .int c_at, .int c_open, .int c_steps, .int c_use, .ref q_t_step, .ref q_t_named, .ref q_t_pile, .ref q_t_sums1, .ref q_t_parts1, .int c_traced, .ref q_t_trace, .int c_speaks, .int c_isParted, .ref q_t_bits, .ref q_t_sizes, .ref q_t_number, .ref q_t_aside])), (q_t_s, .inl (g.X.cI, 476, .inl c_s)), (q_t_errors, .inl (g.X.cI, 7, .inl c_errors)), (q_t_sums1, .inl (g.X.cI, 256, .inl c_sums1)), (q_t_parts1, .inl (g.X.cI, 256, .inl c_parts1))] := by
  intro n
  induction n with
  | zero => intro x2 x3 c_errors c_sums1 c_parts1 h; exact False.elim h
  | succ n hK28 =>
    intro x2 x3 c_errors c_sums1 c_parts1 h
    unfold wp_X7_nets_b28 at h
    refine st_iload_n G 29 rfl 2 rfl dX7_nets_28 rfl ?_
    refine st_aload_n G 30 rfl 0 rfl dX7_nets_29 rfl ?_
    refine st_get G inX7 rfl 0 (by decide) wd_82 33 rfl 0 rfl rfl dX7_nets_30 ?_
    refine st_iconst G 34 rfl (4 : Int32) (by decide) dX7_nets_33 ?_
    obtain ⟨hin, h⟩ := h
    refine st_iald G 35 rfl 1 rfl hin dX7_nets_34 ?_
    refine st_icmp_ge G 64 38 rfl dX7_nets_35 rfl (fun c => ?_) (fun c => ?_)
    · have h := h.1 c
      refine st_iload_n G 65 rfl 1 rfl dX7_nets_64 rfl ?_
      exact R _ _ _ _ dX7_nets_65 (Nat.le_of_ble_eq_true rfl) ⟨_, _, _, h, rfl⟩
    have h := h.2 c
    refine st_iload_n G 39 rfl 1 rfl dX7_nets_38 rfl ?_
    refine st_aload_n G 40 rfl 0 rfl dX7_nets_39 rfl ?_
    refine st_iload_n G 41 rfl 2 rfl dX7_nets_40 rfl ?_
    refine st_cVio G lk_X7_219 (c_X7_balance g.l g.D g.X q_t q_t_s q_t_k q_t_laid q_t_errors q_t_step q_t_named q_t_pile q_t_sums1 q_t_parts1 q_t_trace q_t_bits q_t_sizes q_t_number q_t_aside c_images c_at c_open c_steps c_use c_traced c_speaks c_isParted c_s x3 _ h) ⟨rfl, rfl, ⟨Nat.le_of_ble_eq_true rfl, Nat.le_of_ble_eq_true rfl⟩, Nat.zero_le _, Nat.zero_le _⟩ 44 rfl [0, 1] rfl (by decide) 0 7 rfl rfl rfl (Nat.le_of_ble_eq_true rfl) rfl dX7_nets_41 (fun r_41 h => ?_)
    refine st_if_le G 55 47 rfl dX7_nets_44 rfl (fun c => ?_) (fun c => ?_)
    · have h := h.1 c
      refine st_iconst G 56 rfl (0 : Int32) (by decide) dX7_nets_55 ?_
      refine st_iadd G 57 rfl dX7_nets_56 ?_
      refine st_topi (fun x2_57 ex2_57 => ?_)
      have h := h x2_57 ex2_57
      refine st_istore_n G 58 rfl [(2, .int x2_57), (0, .ref q_t), (3, .int x3)] dX7_nets_57 rfl (by decide) rfl ?_
      obtain ⟨x3_58, ex3_58⟩ : ∃ y : Int32, y = (x3 + (1 : Int32)) := ⟨_, rfl⟩
      have h := h x3_58 ex3_58
      refine st_iinc G 61 rfl [(3, .int x3_58), (2, .int x2_57), (0, .ref q_t)] x3_58 2 rfl (by rw [ex3_58]; rfl) dX7_nets_58 (by decide) rfl ?_
      refine st_goto G 28 dX7_nets_61 rfl ?_
      refine st_L (L' := [(0, .ref q_t), (2, .int x2_57), (3, .int x3_58)]) [2, 1, 0] rfl ?_
      exact hK28 _ _ _ _ _ h
    have h := h.2 c
    refine st_aload_n G 48 rfl 0 rfl dX7_nets_47 rfl ?_
    refine st_iload_n G 49 rfl 2 rfl dX7_nets_48 rfl ?_
    refine st_cVio G lk_X7_219 (c_X7_balance g.l g.D g.X q_t q_t_s q_t_k q_t_laid q_t_errors q_t_step q_t_named q_t_pile q_t_sums1 q_t_parts1 q_t_trace q_t_bits q_t_sizes q_t_number q_t_aside c_images c_at c_open c_steps c_use c_traced c_speaks c_isParted c_s x3 _ h) ⟨rfl, rfl, ⟨Nat.le_of_ble_eq_true rfl, Nat.le_of_ble_eq_true rfl⟩, Nat.zero_le _, Nat.zero_le _⟩ 52 rfl [0, 1] rfl (by decide) 0 7 rfl rfl rfl (Nat.le_of_ble_eq_true rfl) rfl dX7_nets_49 (fun r_49 h => ?_)
    refine st_goto G 56 dX7_nets_52 rfl ?_
    refine st_iadd G 57 rfl dX7_nets_56 ?_
    refine st_topi (fun x2_57 ex2_57 => ?_)
    have h := h x2_57 ex2_57
    refine st_istore_n G 58 rfl [(2, .int x2_57), (0, .ref q_t), (3, .int x3)] dX7_nets_57 rfl (by decide) rfl ?_
    obtain ⟨x3_58, ex3_58⟩ : ∃ y : Int32, y = (x3 + (1 : Int32)) := ⟨_, rfl⟩
    have h := h x3_58 ex3_58
    refine st_iinc G 61 rfl [(3, .int x3_58), (2, .int x2_57), (0, .ref q_t)] x3_58 2 rfl (by rw [ex3_58]; rfl) dX7_nets_58 (by decide) rfl ?_
    refine st_goto G 28 dX7_nets_61 rfl ?_
    refine st_L (L' := [(0, .ref q_t), (2, .int x2_57), (3, .int x3_58)]) [2, 1, 0] rfl ?_
    exact hK28 _ _ _ _ _ h
set_option maxRecDepth 100000 in
set_option maxHeartbeats 4000000 in
theorem b_X7_nets_e {g : GT} (G : GOOD g RX7 cX7_nets 4 rm_X7_nets) {q_t q_t_s q_t_k q_t_laid q_t_errors q_t_step q_t_named q_t_pile q_t_sums1 q_t_parts1 q_t_trace q_t_bits q_t_sizes q_t_number q_t_aside : Nat} {c_images : Int32} {c_at : Int32} {c_open : Int32} {c_steps : Int32} {c_use : Int32} {c_traced : Int32} {c_speaks : Int32} {c_isParted : Int32} {c_s : Nat → Int32} {c_errors : Nat → Int32} {c_sums1 : Nat → Int32} {c_parts1 : Nat → Int32} {x1 : Int32} {Q : Int32 → (Nat → Int32) → (Nat → Int32) → (Nat → Int32) → Prop} (R : RETi g cX7_nets 5 (fun (r : Int32) w => ∃ (c_errors' : Nat → Int32) (c_sums1' : Nat → Int32) (c_parts1' : Nat → Int32), Q r c_errors' c_sums1' c_parts1' ∧ w = [(q_t, .inr (7, [.ref q_t_s, .ref q_t_k, .ref q_t_laid, .int c_images, .ref q_t_errors, .int c_at, .int c_open, .int c_steps, .int c_use, .ref q_t_step, .ref q_t_named, .ref q_t_pile, .ref q_t_sums1, .ref q_t_parts1, .int c_traced, .ref q_t_trace, .int c_speaks, .int c_isParted, .ref q_t_bits, .ref q_t_sizes, .ref q_t_number, .ref q_t_aside])), (q_t_s, .inl (g.X.cI, 476, .inl c_s)), (q_t_errors, .inl (g.X.cI, 7, .inl c_errors')), (q_t_sums1, .inl (g.X.cI, 256, .inl c_sums1')), (q_t_parts1, .inl (g.X.cI, 256, .inl c_parts1'))])) (h : wp_X7_nets x1 c_s c_errors c_sums1 c_parts1 Q) : ST g 0 0 0 [(0, .ref q_t), (1, .int x1)] [] [(q_t, .inr (7, [.ref q_t_s, .ref q_t_k, .ref q_t_laid, .int c_images, .ref q_t_errors, .int c_at, .int c_open, .int c_steps, .int c_use, .ref q_t_step, .ref q_t_named, .ref q_t_pile, .ref q_t_sums1, .ref q_t_parts1, .int c_traced, .ref q_t_trace, .int c_speaks, .int c_isParted, .ref q_t_bits, .ref q_t_sizes, .ref q_t_number, .ref q_t_aside])), (q_t_s, .inl (g.X.cI, 476, .inl c_s)), (q_t_errors, .inl (g.X.cI, 7, .inl c_errors)), (q_t_sums1, .inl (g.X.cI, 256, .inl c_sums1)), (q_t_parts1, .inl (g.X.cI, 256, .inl c_parts1))] := by
  unfold wp_X7_nets at h
  refine st_iload_n G 1 rfl 1 rfl dX7_nets_0 rfl ?_
  refine st_iconst G 2 rfl (0 : Int32) (by decide) dX7_nets_1 ?_
  refine st_iconst G 3 rfl (1 : Int32) (by decide) dX7_nets_2 ?_
  refine st_cSio G lk_X7_53 (c_X7_in g.l g.D g.X x1 (0 : Int32) (1 : Int32) _ h) ⟨rfl, rfl, ⟨Nat.le_of_ble_eq_true rfl, Nat.le_of_ble_eq_true rfl⟩, Nat.zero_le _, Nat.zero_le _⟩ 6 rfl [] rfl (by decide) rfl (Nat.le_of_ble_eq_true rfl) rfl dX7_nets_3 (fun r_3 h => ?_)
  refine st_if_ne G 15 9 rfl dX7_nets_6 rfl (fun c => ?_) (fun c => ?_)
  · have h := h.1 c
    refine st_iload_n G 16 rfl 1 rfl dX7_nets_15 rfl ?_
    refine st_if_ne G 24 19 rfl dX7_nets_16 rfl (fun c => ?_) (fun c => ?_)
    · have h := h.1 c
      refine st_iconst G 25 rfl (0 : Int32) (by decide) dX7_nets_24 ?_
      refine st_istore_n G 26 rfl [(2, .int (0 : Int32)), (0, .ref q_t), (1, .int x1)] dX7_nets_25 rfl (by decide) rfl ?_
      refine st_iconst G 27 rfl (0 : Int32) (by decide) dX7_nets_26 ?_
      refine st_istore_n G 28 rfl [(3, .int (0 : Int32)), (2, .int (0 : Int32)), (0, .ref q_t), (1, .int x1)] dX7_nets_27 rfl (by decide) rfl ?_
      refine st_L (L' := [(0, .ref q_t), (2, .int (0 : Int32)), (3, .int (0 : Int32))]) [2, 1, 0] rfl ?_
      obtain ⟨n, h⟩ := h
      exact b_X7_nets_28 G R n _ _ _ _ _ h
    have h := h.2 c
    refine st_aload_n G 20 rfl 0 rfl dX7_nets_19 rfl ?_
    refine st_cVi G lk_X7_222 (c_X7_fewestPayments g.l g.D g.X q_t q_t_s q_t_k q_t_laid q_t_errors q_t_step q_t_named q_t_pile q_t_sums1 q_t_parts1 q_t_trace q_t_bits q_t_sizes q_t_number q_t_aside c_images c_at c_open c_steps c_use c_traced c_speaks c_isParted c_s c_sums1 c_parts1 _ h) ⟨rfl, rfl, ⟨Nat.le_of_ble_eq_true rfl, Nat.le_of_ble_eq_true rfl⟩, Nat.zero_le _, Nat.zero_le _⟩ 23 rfl [0, 1, 3, 4] rfl (by decide) 0 7 rfl rfl rfl (Nat.le_of_ble_eq_true rfl) rfl dX7_nets_20 (fun r_20 w hq => ?_)
    obtain ⟨c_sums1_20, c_parts1_20, h, rfl⟩ := hq
    refine st_wp (ws' := [(q_t, .inr (7, [.ref q_t_s, .ref q_t_k, .ref q_t_laid, .int c_images, .ref q_t_errors, .int c_at, .int c_open, .int c_steps, .int c_use, .ref q_t_step, .ref q_t_named, .ref q_t_pile, .ref q_t_sums1, .ref q_t_parts1, .int c_traced, .ref q_t_trace, .int c_speaks, .int c_isParted, .ref q_t_bits, .ref q_t_sizes, .ref q_t_number, .ref q_t_aside])), (q_t_s, .inl (g.X.cI, 476, .inl c_s)), (q_t_errors, .inl (g.X.cI, 7, .inl c_errors)), (q_t_sums1, .inl (g.X.cI, 256, .inl c_sums1_20)), (q_t_parts1, .inl (g.X.cI, 256, .inl c_parts1_20))]) 5 [2] (by decide) rfl rfl (by rfl) [(q_t_errors, .inl (g.X.cI, 7, .inl c_errors))] (by rfl) rfl ?_
    exact R _ _ _ _ dX7_nets_23 (Nat.le_of_ble_eq_true rfl) ⟨_, _, _, h, rfl⟩
  have h := h.2 c
  refine st_aload_n G 10 rfl 0 rfl dX7_nets_9 rfl ?_
  refine st_iconst G 11 rfl (1 : Int32) (by decide) dX7_nets_10 ?_
  refine st_cVi G lk_X7_65 (c_X7_error g.l g.D g.X q_t q_t_s q_t_k q_t_laid q_t_errors q_t_step q_t_named q_t_pile q_t_sums1 q_t_parts1 q_t_trace q_t_bits q_t_sizes q_t_number q_t_aside c_images c_at c_open c_steps c_use c_traced c_speaks c_isParted c_errors (1 : Int32) _ h) ⟨rfl, rfl, ⟨Nat.le_of_ble_eq_true rfl, Nat.le_of_ble_eq_true rfl⟩, Nat.zero_le _, Nat.zero_le _⟩ 14 rfl [0, 2] rfl (by decide) 0 7 rfl rfl rfl (Nat.le_of_ble_eq_true rfl) rfl dX7_nets_11 (fun r_11 w hq => ?_)
  obtain ⟨c_errors_11, h, rfl⟩ := hq
  refine st_wp (ws' := [(q_t, .inr (7, [.ref q_t_s, .ref q_t_k, .ref q_t_laid, .int c_images, .ref q_t_errors, .int c_at, .int c_open, .int c_steps, .int c_use, .ref q_t_step, .ref q_t_named, .ref q_t_pile, .ref q_t_sums1, .ref q_t_parts1, .int c_traced, .ref q_t_trace, .int c_speaks, .int c_isParted, .ref q_t_bits, .ref q_t_sizes, .ref q_t_number, .ref q_t_aside])), (q_t_s, .inl (g.X.cI, 476, .inl c_s)), (q_t_errors, .inl (g.X.cI, 7, .inl c_errors_11)), (q_t_sums1, .inl (g.X.cI, 256, .inl c_sums1)), (q_t_parts1, .inl (g.X.cI, 256, .inl c_parts1))]) 5 [1, 3, 4] (by decide) rfl rfl (by rfl) [(q_t_s, .inl (g.X.cI, 476, .inl c_s)), (q_t_sums1, .inl (g.X.cI, 256, .inl c_sums1)), (q_t_parts1, .inl (g.X.cI, 256, .inl c_parts1))] (by rfl) rfl ?_
  exact R _ _ _ _ dX7_nets_14 (Nat.le_of_ble_eq_true rfl) ⟨_, _, _, h, rfl⟩
set_option maxRecDepth 100000 in
set_option maxHeartbeats 4000000 in
theorem c_X7_nets (l : Launch) (D : va_G) (X : XT) (q_t q_t_s q_t_k q_t_laid q_t_errors q_t_step q_t_named q_t_pile q_t_sums1 q_t_parts1 q_t_trace q_t_bits q_t_sizes q_t_number q_t_aside : Nat) (c_images : Int32) (c_at : Int32) (c_open : Int32) (c_steps : Int32) (c_use : Int32) (c_traced : Int32) (c_speaks : Int32) (c_isParted : Int32) (c_s : Nat → Int32) (c_errors : Nat → Int32) (c_sums1 : Nat → Int32) (c_parts1 : Nat → Int32) (x1 : Int32) (Q : Int32 → (Nat → Int32) → (Nat → Int32) → (Nat → Int32) → Prop) (h : wp_X7_nets x1 c_s c_errors c_sums1 c_parts1 Q) : CTi l D X yX7_nets cX7_nets 4 .int rm_X7_nets [.ref q_t, .int x1] [(q_t, .inr (7, [.ref q_t_s, .ref q_t_k, .ref q_t_laid, .int c_images, .ref q_t_errors, .int c_at, .int c_open, .int c_steps, .int c_use, .ref q_t_step, .ref q_t_named, .ref q_t_pile, .ref q_t_sums1, .ref q_t_parts1, .int c_traced, .ref q_t_trace, .int c_speaks, .int c_isParted, .ref q_t_bits, .ref q_t_sizes, .ref q_t_number, .ref q_t_aside])), (q_t_s, .inl (X.cI, 476, .inl c_s)), (q_t_errors, .inl (X.cI, 7, .inl c_errors)), (q_t_sums1, .inl (X.cI, 256, .inl c_sums1)), (q_t_parts1, .inl (X.cI, 256, .inl c_parts1))] (fun (r : Int32) w => ∃ (c_errors' : Nat → Int32) (c_sums1' : Nat → Int32) (c_parts1' : Nat → Int32), Q r c_errors' c_sums1' c_parts1' ∧ w = [(q_t, .inr (7, [.ref q_t_s, .ref q_t_k, .ref q_t_laid, .int c_images, .ref q_t_errors, .int c_at, .int c_open, .int c_steps, .int c_use, .ref q_t_step, .ref q_t_named, .ref q_t_pile, .ref q_t_sums1, .ref q_t_parts1, .int c_traced, .ref q_t_trace, .int c_speaks, .int c_isParted, .ref q_t_bits, .ref q_t_sizes, .ref q_t_number, .ref q_t_aside])), (q_t_s, .inl (X.cI, 476, .inl c_s)), (q_t_errors, .inl (X.cI, 7, .inl c_errors')), (q_t_sums1, .inl (X.cI, 256, .inl c_sums1')), (q_t_parts1, .inl (X.cI, 256, .inl c_parts1'))]) :=
  ct_i (by decide) (Nat.le_of_ble_eq_true rfl) (fun g hl hD hX G R => by subst hl; subst hD; subst hX; exact b_X7_nets_e G R h)
set_option maxRecDepth 100000 in
set_option maxHeartbeats 4000000 in
theorem b_X7_divisor_4 {g : GT} (G : GOOD g RX7 cX7_divisor 5 rm_X7_divisor) {Q : Int32 → Prop} (R : RETi g cX7_divisor 0 (fun (r : Int32) w => (Q r) ∧ w = [])) : ∀ (n : Nat) (x2 : Int32) (x3 : Int32), wp_X7_divisor_b4 Q n x2 x3 → ST g 0 0 4 [(2, .int x2), (3, .int x3)] [] [] := by
  intro n
  induction n with
  | zero => intro x2 x3 h; exact False.elim h
  | succ n hK4 =>
    intro x2 x3 h
    unfold wp_X7_divisor_b4 at h
    refine st_iload_n G 5 rfl 1 rfl dX7_divisor_4 rfl ?_
    refine st_if_eq G 21 8 rfl dX7_divisor_5 rfl (fun c => ?_) (fun c => ?_)
    · have h := h.1 c
      refine st_iload_n G 22 rfl 0 rfl dX7_divisor_21 rfl ?_
      exact R _ _ _ _ dX7_divisor_22 (Nat.le_of_ble_eq_true rfl) ⟨h, rfl⟩
    have h := h.2 c
    refine st_iload_n G 9 rfl 0 rfl dX7_divisor_8 rfl ?_
    refine st_iload_n G 10 rfl 1 rfl dX7_divisor_9 rfl ?_
    obtain ⟨hne, h⟩ := h
    refine st_irem G 11 rfl hne dX7_divisor_10 ?_
    refine st_topi (fun x4_11 ex4_11 => ?_)
    have h := h x4_11 ex4_11
    refine st_istore G 13 rfl [(4, .int x4_11), (2, .int x2), (3, .int x3)] dX7_divisor_11 (by decide) rfl ?_
    refine st_iload_n G 14 rfl 2 rfl dX7_divisor_13 rfl ?_
    refine st_istore_n G 15 rfl [(2, .int x3), (4, .int x4_11), (3, .int x3)] dX7_divisor_14 rfl (by decide) rfl ?_
    refine st_iload G 17 rfl 1 rfl dX7_divisor_15 ?_
    refine st_istore_n G 18 rfl [(3, .int x4_11), (2, .int x3), (4, .int x4_11)] dX7_divisor_17 rfl (by decide) rfl ?_
    refine st_goto G 4 dX7_divisor_18 rfl ?_
    refine st_L (L' := [(2, .int x3), (3, .int x4_11)]) [1, 0] rfl ?_
    exact hK4 _ _ h
set_option maxRecDepth 100000 in
set_option maxHeartbeats 4000000 in
theorem b_X7_divisor_e {g : GT} (G : GOOD g RX7 cX7_divisor 5 rm_X7_divisor) {x0 : Int32} {x1 : Int32} {Q : Int32 → Prop} (R : RETi g cX7_divisor 0 (fun (r : Int32) w => (Q r) ∧ w = [])) (h : wp_X7_divisor x0 x1 Q) : ST g 0 0 0 [(0, .int x0), (1, .int x1)] [] [] := by
  unfold wp_X7_divisor at h
  refine st_iload_n G 1 rfl 0 rfl dX7_divisor_0 rfl ?_
  refine st_istore_n G 2 rfl [(2, .int x0), (0, .int x0), (1, .int x1)] dX7_divisor_1 rfl (by decide) rfl ?_
  refine st_iload_n G 3 rfl 2 rfl dX7_divisor_2 rfl ?_
  refine st_istore_n G 4 rfl [(3, .int x1), (2, .int x0), (0, .int x0), (1, .int x1)] dX7_divisor_3 rfl (by decide) rfl ?_
  refine st_L (L' := [(2, .int x0), (3, .int x1)]) [1, 0] rfl ?_
  obtain ⟨n, h⟩ := h
  exact b_X7_divisor_4 G R n _ _ h
set_option maxRecDepth 100000 in
set_option maxHeartbeats 4000000 in
theorem c_X7_divisor (l : Launch) (D : va_G) (X : XT) (x0 : Int32) (x1 : Int32) (Q : Int32 → Prop) (h : wp_X7_divisor x0 x1 Q) : CTi l D X yX7_divisor cX7_divisor 5 .int rm_X7_divisor [.int x0, .int x1] [] (fun (r : Int32) w => (Q r) ∧ w = []) :=
  ct_i (by decide) (Nat.le_of_ble_eq_true rfl) (fun g hl hD hX G R => by subst hl; subst hD; subst hX; exact b_X7_divisor_e G R h)
set_option maxRecDepth 100000 in
set_option maxHeartbeats 4000000 in
theorem b_X7_pouredHeap_5 {g : GT} (G : GOOD g RX7 cX7_pouredHeap 5 rm_X7_pouredHeap) {q_t q_t_s q_t_k q_t_laid q_t_errors q_t_step q_t_named q_t_pile q_t_sums1 q_t_parts1 q_t_trace q_t_bits q_t_sizes q_t_number q_t_aside : Nat} {c_images : Int32} {c_at : Int32} {c_open : Int32} {c_steps : Int32} {c_use : Int32} {c_traced : Int32} {c_speaks : Int32} {c_isParted : Int32} {c_s : Nat → Int32} {Q : Int32 → Prop} (R : RETi g cX7_pouredHeap 2 (fun (r : Int32) w => (Q r) ∧ w = [(q_t, .inr (7, [.ref q_t_s, .ref q_t_k, .ref q_t_laid, .int c_images, .ref q_t_errors, .int c_at, .int c_open, .int c_steps, .int c_use, .ref q_t_step, .ref q_t_named, .ref q_t_pile, .ref q_t_sums1, .ref q_t_parts1, .int c_traced, .ref q_t_trace, .int c_speaks, .int c_isParted, .ref q_t_bits, .ref q_t_sizes, .ref q_t_number, .ref q_t_aside])), (q_t_s, .inl (g.X.cI, 476, .inl c_s))])) : ∀ (n : Nat) (x1 : Int32) (x2 : Int32) (x3 : Int32) (x4 : Int32), wp_X7_pouredHeap_b5 Q c_s n x1 x2 x3 x4 → ST g 0 0 5 [(0, .ref q_t), (1, .int x1), (2, .int x2), (3, .int x3), (4, .int x4)] [] [(q_t, .inr (7, [.ref q_t_s, .ref q_t_k, .ref q_t_laid, .int c_images, .ref q_t_errors, .int c_at, .int c_open, .int c_steps, .int c_use, .ref q_t_step, .ref q_t_named, .ref q_t_pile, .ref q_t_sums1, .ref q_t_parts1, .int c_traced, .ref q_t_trace, .int c_speaks, .int c_isParted, .ref q_t_bits, .ref q_t_sizes, .ref q_t_number, .ref q_t_aside])), (q_t_s, .inl (g.X.cI, 476, .inl c_s))] := by
  intro n
  induction n with
  | zero => intro x1 x2 x3 x4 h; exact False.elim h
  | succ n hK5 =>
    intro x1 x2 x3 x4 h
    unfold wp_X7_pouredHeap_b5 at h
    refine st_iload G 7 rfl 4 rfl dX7_pouredHeap_5 ?_
    refine st_iconst G 8 rfl (5 : Int32) (by decide) dX7_pouredHeap_7 ?_
    refine st_icmp_ge G 37 11 rfl dX7_pouredHeap_8 rfl (fun c => ?_) (fun c => ?_)
    · have h := h.1 c
      refine st_iload_n G 38 rfl 3 rfl dX7_pouredHeap_37 rfl ?_
      exact R _ _ _ _ dX7_pouredHeap_38 (Nat.le_of_ble_eq_true rfl) ⟨h, rfl⟩
    have h := h.2 c
    refine st_iload_n G 12 rfl 3 rfl dX7_pouredHeap_11 rfl ?_
    refine st_aload_n G 13 rfl 0 rfl dX7_pouredHeap_12 rfl ?_
    refine st_iload_n G 14 rfl 1 rfl dX7_pouredHeap_13 rfl ?_
    refine st_iload G 16 rfl 4 rfl dX7_pouredHeap_14 ?_
    refine st_cVio G lk_X7_57 (c_X7_has g.l g.D g.X q_t q_t_s q_t_k q_t_laid q_t_errors q_t_step q_t_named q_t_pile q_t_sums1 q_t_parts1 q_t_trace q_t_bits q_t_sizes q_t_number q_t_aside c_images c_at c_open c_steps c_use c_traced c_speaks c_isParted c_s x1 x4 _ h) ⟨rfl, rfl, ⟨Nat.le_of_ble_eq_true rfl, Nat.le_of_ble_eq_true rfl⟩, Nat.zero_le _, Nat.zero_le _⟩ 19 rfl [0, 1] rfl (by decide) 0 7 rfl rfl rfl (Nat.le_of_ble_eq_true rfl) rfl dX7_pouredHeap_16 (fun r_16 h => ?_)
    refine st_aload_n G 20 rfl 0 rfl dX7_pouredHeap_19 rfl ?_
    refine st_iload_n G 21 rfl 2 rfl dX7_pouredHeap_20 rfl ?_
    refine st_iload G 23 rfl 4 rfl dX7_pouredHeap_21 ?_
    refine st_cVio G lk_X7_57 (c_X7_has g.l g.D g.X q_t q_t_s q_t_k q_t_laid q_t_errors q_t_step q_t_named q_t_pile q_t_sums1 q_t_parts1 q_t_trace q_t_bits q_t_sizes q_t_number q_t_aside c_images c_at c_open c_steps c_use c_traced c_speaks c_isParted c_s x2 x4 _ h) ⟨rfl, rfl, ⟨Nat.le_of_ble_eq_true rfl, Nat.le_of_ble_eq_true rfl⟩, Nat.zero_le _, Nat.zero_le _⟩ 26 rfl [0, 1] rfl (by decide) 0 7 rfl rfl rfl (Nat.le_of_ble_eq_true rfl) rfl dX7_pouredHeap_23 (fun r_23 h => ?_)
    refine st_iadd G 27 rfl dX7_pouredHeap_26 ?_
    refine st_iconst G 28 rfl (2 : Int32) (by decide) dX7_pouredHeap_27 ?_
    refine st_idiv G 29 rfl (by decide) dX7_pouredHeap_28 ?_
    refine st_iadd G 30 rfl dX7_pouredHeap_29 ?_
    refine st_topi (fun x3_30 ex3_30 => ?_)
    have h := h x3_30 ex3_30
    refine st_istore_n G 31 rfl [(3, .int x3_30), (0, .ref q_t), (1, .int x1), (2, .int x2), (4, .int x4)] dX7_pouredHeap_30 rfl (by decide) rfl ?_
    obtain ⟨x4_31, ex4_31⟩ : ∃ y : Int32, y = (x4 + (1 : Int32)) := ⟨_, rfl⟩
    have h := h x4_31 ex4_31
    refine st_iinc G 34 rfl [(4, .int x4_31), (3, .int x3_30), (0, .ref q_t), (1, .int x1), (2, .int x2)] x4_31 4 rfl (by rw [ex4_31]; rfl) dX7_pouredHeap_31 (by decide) rfl ?_
    refine st_goto G 5 dX7_pouredHeap_34 rfl ?_
    refine st_L (L' := [(0, .ref q_t), (1, .int x1), (2, .int x2), (3, .int x3_30), (4, .int x4_31)]) [2, 3, 4, 1, 0] rfl ?_
    exact hK5 _ _ _ _ h
set_option maxRecDepth 100000 in
set_option maxHeartbeats 4000000 in
theorem b_X7_pouredHeap_e {g : GT} (G : GOOD g RX7 cX7_pouredHeap 5 rm_X7_pouredHeap) {q_t q_t_s q_t_k q_t_laid q_t_errors q_t_step q_t_named q_t_pile q_t_sums1 q_t_parts1 q_t_trace q_t_bits q_t_sizes q_t_number q_t_aside : Nat} {c_images : Int32} {c_at : Int32} {c_open : Int32} {c_steps : Int32} {c_use : Int32} {c_traced : Int32} {c_speaks : Int32} {c_isParted : Int32} {c_s : Nat → Int32} {x1 : Int32} {x2 : Int32} {Q : Int32 → Prop} (R : RETi g cX7_pouredHeap 2 (fun (r : Int32) w => (Q r) ∧ w = [(q_t, .inr (7, [.ref q_t_s, .ref q_t_k, .ref q_t_laid, .int c_images, .ref q_t_errors, .int c_at, .int c_open, .int c_steps, .int c_use, .ref q_t_step, .ref q_t_named, .ref q_t_pile, .ref q_t_sums1, .ref q_t_parts1, .int c_traced, .ref q_t_trace, .int c_speaks, .int c_isParted, .ref q_t_bits, .ref q_t_sizes, .ref q_t_number, .ref q_t_aside])), (q_t_s, .inl (g.X.cI, 476, .inl c_s))])) (h : wp_X7_pouredHeap x1 x2 c_s Q) : ST g 0 0 0 [(0, .ref q_t), (1, .int x1), (2, .int x2)] [] [(q_t, .inr (7, [.ref q_t_s, .ref q_t_k, .ref q_t_laid, .int c_images, .ref q_t_errors, .int c_at, .int c_open, .int c_steps, .int c_use, .ref q_t_step, .ref q_t_named, .ref q_t_pile, .ref q_t_sums1, .ref q_t_parts1, .int c_traced, .ref q_t_trace, .int c_speaks, .int c_isParted, .ref q_t_bits, .ref q_t_sizes, .ref q_t_number, .ref q_t_aside])), (q_t_s, .inl (g.X.cI, 476, .inl c_s))] := by
  unfold wp_X7_pouredHeap at h
  refine st_iconst G 1 rfl (0 : Int32) (by decide) dX7_pouredHeap_0 ?_
  refine st_istore_n G 2 rfl [(3, .int (0 : Int32)), (0, .ref q_t), (1, .int x1), (2, .int x2)] dX7_pouredHeap_1 rfl (by decide) rfl ?_
  refine st_iconst G 3 rfl (0 : Int32) (by decide) dX7_pouredHeap_2 ?_
  refine st_istore G 5 rfl [(4, .int (0 : Int32)), (3, .int (0 : Int32)), (0, .ref q_t), (1, .int x1), (2, .int x2)] dX7_pouredHeap_3 (by decide) rfl ?_
  refine st_L (L' := [(0, .ref q_t), (1, .int x1), (2, .int x2), (3, .int (0 : Int32)), (4, .int (0 : Int32))]) [2, 3, 4, 1, 0] rfl ?_
  obtain ⟨n, h⟩ := h
  exact b_X7_pouredHeap_5 G R n _ _ _ _ h
set_option maxRecDepth 100000 in
set_option maxHeartbeats 4000000 in
theorem c_X7_pouredHeap (l : Launch) (D : va_G) (X : XT) (q_t q_t_s q_t_k q_t_laid q_t_errors q_t_step q_t_named q_t_pile q_t_sums1 q_t_parts1 q_t_trace q_t_bits q_t_sizes q_t_number q_t_aside : Nat) (c_images : Int32) (c_at : Int32) (c_open : Int32) (c_steps : Int32) (c_use : Int32) (c_traced : Int32) (c_speaks : Int32) (c_isParted : Int32) (c_s : Nat → Int32) (x1 : Int32) (x2 : Int32) (Q : Int32 → Prop) (h : wp_X7_pouredHeap x1 x2 c_s Q) : CTi l D X yX7_pouredHeap cX7_pouredHeap 5 .int rm_X7_pouredHeap [.ref q_t, .int x1, .int x2] [(q_t, .inr (7, [.ref q_t_s, .ref q_t_k, .ref q_t_laid, .int c_images, .ref q_t_errors, .int c_at, .int c_open, .int c_steps, .int c_use, .ref q_t_step, .ref q_t_named, .ref q_t_pile, .ref q_t_sums1, .ref q_t_parts1, .int c_traced, .ref q_t_trace, .int c_speaks, .int c_isParted, .ref q_t_bits, .ref q_t_sizes, .ref q_t_number, .ref q_t_aside])), (q_t_s, .inl (X.cI, 476, .inl c_s))] (fun (r : Int32) w => (Q r) ∧ w = [(q_t, .inr (7, [.ref q_t_s, .ref q_t_k, .ref q_t_laid, .int c_images, .ref q_t_errors, .int c_at, .int c_open, .int c_steps, .int c_use, .ref q_t_step, .ref q_t_named, .ref q_t_pile, .ref q_t_sums1, .ref q_t_parts1, .int c_traced, .ref q_t_trace, .int c_speaks, .int c_isParted, .ref q_t_bits, .ref q_t_sizes, .ref q_t_number, .ref q_t_aside])), (q_t_s, .inl (X.cI, 476, .inl c_s))]) :=
  ct_i (by decide) (Nat.le_of_ble_eq_true rfl) (fun g hl hD hX G R => by subst hl; subst hD; subst hX; exact b_X7_pouredHeap_e G R h)
set_option maxRecDepth 100000 in
set_option maxHeartbeats 4000000 in
theorem b_X7_odds_67 {g : GT} (G : GOOD g RX7 cX7_odds 7 rm_X7_odds) {q_t q_t_s q_t_k q_t_laid q_t_errors q_t_step q_t_named q_t_pile q_t_sums1 q_t_parts1 q_t_trace q_t_bits q_t_sizes q_t_number q_t_aside : Nat} {c_images : Int32} {c_at : Int32} {c_open : Int32} {c_steps : Int32} {c_use : Int32} {c_traced : Int32} {c_speaks : Int32} {c_isParted : Int32} {c_s : Nat → Int32} {Q : Int32 → (Nat → Int32) → Prop} {KK50 : (Int32) → (Int32) → (Int32) → (Int32) → (Int32) → (Nat → Int32) → Prop} (R : RETi g cX7_odds 3 (fun (r : Int32) w => ∃ (c_errors' : Nat → Int32), Q r c_errors' ∧ w = [(q_t, .inr (7, [.ref q_t_s, .ref q_t_k, .ref q_t_laid, .int c_images, .ref q_t_errors, .int c_at, .int c_open, .int c_steps, .int c_use, .ref q_t_step, .ref q_t_named, .ref q_t_pile, .ref q_t_sums1, .ref q_t_parts1, .int c_traced, .ref q_t_trace, .int c_speaks, .int c_isParted, .ref q_t_bits, .ref q_t_sizes, .ref q_t_number, .ref q_t_aside])), (q_t_s, .inl (g.X.cI, 476, .inl c_s)), (q_t_errors, .inl (g.X.cI, 7, .inl c_errors'))])) (hK50 : ∀ (x1 : Int32) (x2 : Int32) (x3 : Int32) (x4 : Int32) (x5 : Int32) (c_errors : Nat → Int32), KK50 x1 x2 x3 x4 x5 c_errors → ST g 0 0 50 [(0, .ref q_t), (1, .int x1), (2, .int x2), (3, .int x3), (4, .int x4), (5, .int x5)] [] [(q_t, .inr (7, [.ref q_t_s, .ref q_t_k, .ref q_t_laid, .int c_images, .ref q_t_errors, .int c_at, .int c_open, .int c_steps, .int c_use, .ref q_t_step, .ref q_t_named, .ref q_t_pile, .ref q_t_sums1, .ref q_t_parts1, .int c_traced, .ref q_t_trace, .int c_speaks, .int c_isParted, .ref q_t_bits, .ref q_t_sizes, .ref q_t_number, .ref q_t_aside])), (q_t_s, .inl (g.X.cI, 476, .inl c_s)), (q_t_errors, .inl (g.X.cI, 7, .inl c_errors))]) : ∀ (n : Nat) (x1 : Int32) (x2 : Int32) (x3 : Int32) (x4 : Int32) (x5 : Int32) (x6 : Int32) (c_errors : Nat → Int32), wp_X7_odds_b67 Q KK50 c_s n x1 x2 x3 x4 x5 x6 c_errors → ST g 0 0 67 [(0, .ref q_t), (1, .int x1), (2, .int x2), (3, .int x3), (4, .int x4), (5, .int x5), (6, .int x6)] [] [(q_t, .inr (7, [.ref q_t_s, .ref q_t_k, .ref q_t_laid, .int c_images, .ref q_t_errors, .int c_at, .int c_open, .int c_steps, .int c_use, .ref q_t_step, .ref q_t_named, .ref q_t_pile, .ref q_t_sums1, .ref q_t_parts1, .int c_traced, .ref q_t_trace, .int c_speaks, .int c_isParted, .ref q_t_bits, .ref q_t_sizes, .ref q_t_number, .ref q_t_aside])), (q_t_s, .inl (g.X.cI, 476, .inl c_s)), (q_t_errors, .inl (g.X.cI, 7, .inl c_errors))] := by
  intro n
  induction n with
  | zero => intro x1 x2 x3 x4 x5 x6 c_errors h; exact False.elim h
  | succ n hK67 =>
    intro x1 x2 x3 x4 x5 x6 c_errors h
    unfold wp_X7_odds_b67 at h
    refine st_iload G 69 rfl 6 rfl dX7_odds_67 ?_
    refine st_aload_n G 70 rfl 0 rfl dX7_odds_69 rfl ?_
    refine st_get G inX7 rfl 0 (by decide) wd_82 73 rfl 0 rfl rfl dX7_odds_70 ?_
    refine st_iconst G 74 rfl (4 : Int32) (by decide) dX7_odds_73 ?_
    obtain ⟨hin, h⟩ := h
    refine st_iald G 75 rfl 1 rfl hin dX7_odds_74 ?_
    refine st_icmp_ge G 109 78 rfl dX7_odds_75 rfl (fun c => ?_) (fun c => ?_)
    · have h := h.1 c
      obtain ⟨x5_109, ex5_109⟩ : ∃ y : Int32, y = (x5 + (1 : Int32)) := ⟨_, rfl⟩
      have h := h x5_109 ex5_109
      refine st_iinc G 112 rfl [(5, .int x5_109), (0, .ref q_t), (1, .int x1), (2, .int x2), (3, .int x3), (4, .int x4), (6, .int x6)] x5_109 5 rfl (by rw [ex5_109]; rfl) dX7_odds_109 (by decide) rfl ?_
      refine st_goto G 50 dX7_odds_112 rfl ?_
      refine st_L (L' := [(0, .ref q_t), (1, .int x1), (2, .int x2), (3, .int x3), (4, .int x4), (5, .int x5_109)]) [1, 2, 3, 4, 5, 0] rfl ?_
      exact hK50 _ _ _ _ _ _ h
    have h := h.2 c
    obtain ⟨x3_78, ex3_78⟩ : ∃ y : Int32, y = (x3 + (1 : Int32)) := ⟨_, rfl⟩
    have h := h x3_78 ex3_78
    refine st_iinc G 81 rfl [(3, .int x3_78), (0, .ref q_t), (1, .int x1), (2, .int x2), (4, .int x4), (5, .int x5), (6, .int x6)] x3_78 3 rfl (by rw [ex3_78]; rfl) dX7_odds_78 (by decide) rfl ?_
    refine st_iload G 83 rfl 4 rfl dX7_odds_81 ?_
    refine st_aload_n G 84 rfl 1 rfl dX7_odds_83 rfl ?_
    refine st_iload G 86 rfl 5 rfl dX7_odds_84 ?_
    refine st_iload G 88 rfl 6 rfl dX7_odds_86 ?_
    refine st_cVio G lk_X7_225 (c_X7_pouredHeap g.l g.D g.X q_t q_t_s q_t_k q_t_laid q_t_errors q_t_step q_t_named q_t_pile q_t_sums1 q_t_parts1 q_t_trace q_t_bits q_t_sizes q_t_number q_t_aside c_images c_at c_open c_steps c_use c_traced c_speaks c_isParted c_s x5 x6 _ h) ⟨rfl, rfl, ⟨Nat.le_of_ble_eq_true rfl, Nat.le_of_ble_eq_true rfl⟩, Nat.zero_le _, Nat.zero_le _⟩ 91 rfl [0, 1] rfl (by decide) 0 7 rfl rfl rfl (Nat.le_of_ble_eq_true rfl) rfl dX7_odds_88 (fun r_88 h => ?_)
    refine st_iload_n G 92 rfl 2 rfl dX7_odds_91 rfl ?_
    refine st_icmp_ge G 99 95 rfl dX7_odds_92 rfl (fun c => ?_) (fun c => ?_)
    · have h := h.1 c
      refine st_iconst G 100 rfl (0 : Int32) (by decide) dX7_odds_99 ?_
      refine st_iadd G 101 rfl dX7_odds_100 ?_
      refine st_topi (fun x4_101 ex4_101 => ?_)
      have h := h x4_101 ex4_101
      refine st_istore G 103 rfl [(4, .int x4_101), (3, .int x3_78), (0, .ref q_t), (1, .int x1), (2, .int x2), (5, .int x5), (6, .int x6)] dX7_odds_101 (by decide) rfl ?_
      obtain ⟨x6_103, ex6_103⟩ : ∃ y : Int32, y = (x6 + (1 : Int32)) := ⟨_, rfl⟩
      have h := h x6_103 ex6_103
      refine st_iinc G 106 rfl [(6, .int x6_103), (4, .int x4_101), (3, .int x3_78), (0, .ref q_t), (1, .int x1), (2, .int x2), (5, .int x5)] x6_103 6 rfl (by rw [ex6_103]; rfl) dX7_odds_103 (by decide) rfl ?_
      refine st_goto G 67 dX7_odds_106 rfl ?_
      refine st_L (L' := [(0, .ref q_t), (1, .int x1), (2, .int x2), (3, .int x3_78), (4, .int x4_101), (5, .int x5), (6, .int x6_103)]) [3, 4, 5, 2, 1, 6, 0] rfl ?_
      exact hK67 _ _ _ _ _ _ _ h
    have h := h.2 c
    refine st_iconst G 96 rfl (1 : Int32) (by decide) dX7_odds_95 ?_
    refine st_goto G 100 dX7_odds_96 rfl ?_
    refine st_iadd G 101 rfl dX7_odds_100 ?_
    refine st_topi (fun x4_101 ex4_101 => ?_)
    have h := h x4_101 ex4_101
    refine st_istore G 103 rfl [(4, .int x4_101), (3, .int x3_78), (0, .ref q_t), (1, .int x1), (2, .int x2), (5, .int x5), (6, .int x6)] dX7_odds_101 (by decide) rfl ?_
    obtain ⟨x6_103, ex6_103⟩ : ∃ y : Int32, y = (x6 + (1 : Int32)) := ⟨_, rfl⟩
    have h := h x6_103 ex6_103
    refine st_iinc G 106 rfl [(6, .int x6_103), (4, .int x4_101), (3, .int x3_78), (0, .ref q_t), (1, .int x1), (2, .int x2), (5, .int x5)] x6_103 6 rfl (by rw [ex6_103]; rfl) dX7_odds_103 (by decide) rfl ?_
    refine st_goto G 67 dX7_odds_106 rfl ?_
    refine st_L (L' := [(0, .ref q_t), (1, .int x1), (2, .int x2), (3, .int x3_78), (4, .int x4_101), (5, .int x5), (6, .int x6_103)]) [3, 4, 5, 2, 1, 6, 0] rfl ?_
    exact hK67 _ _ _ _ _ _ _ h
set_option maxRecDepth 100000 in
set_option maxHeartbeats 4000000 in
theorem b_X7_odds_50 {g : GT} (G : GOOD g RX7 cX7_odds 7 rm_X7_odds) {q_t q_t_s q_t_k q_t_laid q_t_errors q_t_step q_t_named q_t_pile q_t_sums1 q_t_parts1 q_t_trace q_t_bits q_t_sizes q_t_number q_t_aside : Nat} {c_images : Int32} {c_at : Int32} {c_open : Int32} {c_steps : Int32} {c_use : Int32} {c_traced : Int32} {c_speaks : Int32} {c_isParted : Int32} {c_s : Nat → Int32} {Q : Int32 → (Nat → Int32) → Prop} (R : RETi g cX7_odds 3 (fun (r : Int32) w => ∃ (c_errors' : Nat → Int32), Q r c_errors' ∧ w = [(q_t, .inr (7, [.ref q_t_s, .ref q_t_k, .ref q_t_laid, .int c_images, .ref q_t_errors, .int c_at, .int c_open, .int c_steps, .int c_use, .ref q_t_step, .ref q_t_named, .ref q_t_pile, .ref q_t_sums1, .ref q_t_parts1, .int c_traced, .ref q_t_trace, .int c_speaks, .int c_isParted, .ref q_t_bits, .ref q_t_sizes, .ref q_t_number, .ref q_t_aside])), (q_t_s, .inl (g.X.cI, 476, .inl c_s)), (q_t_errors, .inl (g.X.cI, 7, .inl c_errors'))])) : ∀ (n : Nat) (x1 : Int32) (x2 : Int32) (x3 : Int32) (x4 : Int32) (x5 : Int32) (c_errors : Nat → Int32), wp_X7_odds_b50 Q c_s n x1 x2 x3 x4 x5 c_errors → ST g 0 0 50 [(0, .ref q_t), (1, .int x1), (2, .int x2), (3, .int x3), (4, .int x4), (5, .int x5)] [] [(q_t, .inr (7, [.ref q_t_s, .ref q_t_k, .ref q_t_laid, .int c_images, .ref q_t_errors, .int c_at, .int c_open, .int c_steps, .int c_use, .ref q_t_step, .ref q_t_named, .ref q_t_pile, .ref q_t_sums1, .ref q_t_parts1, .int c_traced, .ref q_t_trace, .int c_speaks, .int c_isParted, .ref q_t_bits, .ref q_t_sizes, .ref q_t_number, .ref q_t_aside])), (q_t_s, .inl (g.X.cI, 476, .inl c_s)), (q_t_errors, .inl (g.X.cI, 7, .inl c_errors))] := by
  intro n
  induction n with
  | zero => intro x1 x2 x3 x4 x5 c_errors h; exact False.elim h
  | succ n hK50 =>
    intro x1 x2 x3 x4 x5 c_errors h
    unfold wp_X7_odds_b50 at h
    refine st_iload G 52 rfl 5 rfl dX7_odds_50 ?_
    refine st_aload_n G 53 rfl 0 rfl dX7_odds_52 rfl ?_
    refine st_get G inX7 rfl 0 (by decide) wd_82 56 rfl 0 rfl rfl dX7_odds_53 ?_
    refine st_iconst G 57 rfl (4 : Int32) (by decide) dX7_odds_56 ?_
    obtain ⟨hin, h⟩ := h
    refine st_iald G 58 rfl 1 rfl hin dX7_odds_57 ?_
    refine st_icmp_ge G 115 61 rfl dX7_odds_58 rfl (fun c => ?_) (fun c => ?_)
    · have h := h.1 c
      refine st_iload G 117 rfl 4 rfl dX7_odds_115 ?_
      refine st_iload_n G 118 rfl 3 rfl dX7_odds_117 rfl ?_
      refine st_cSio G lk_X7_228 (c_X7_divisor g.l g.D g.X x4 x3 _ h) ⟨rfl, rfl, ⟨Nat.le_of_ble_eq_true rfl, Nat.le_of_ble_eq_true rfl⟩, Nat.zero_le _, Nat.zero_le _⟩ 121 rfl [] rfl (by decide) rfl (Nat.le_of_ble_eq_true rfl) rfl dX7_odds_118 (fun r_118 h => ?_)
      refine st_istore G 123 rfl [(5, .int r_118), (0, .ref q_t), (1, .int x1), (2, .int x2), (3, .int x3), (4, .int x4)] dX7_odds_121 (by decide) rfl ?_
      refine st_iload_n G 124 rfl 3 rfl dX7_odds_123 rfl ?_
      refine st_if_ne G 135 127 rfl dX7_odds_124 rfl (fun c => ?_) (fun c => ?_)
      · have h := h.1 c
        refine st_iload_n G 136 rfl 4 rfl dX7_odds_135 rfl ?_
        refine st_iload G 138 rfl 0 rfl dX7_odds_136 ?_
        obtain ⟨hne, h⟩ := h
        refine st_idiv G 139 rfl hne dX7_odds_138 ?_
        exact R _ _ _ _ dX7_odds_139 (Nat.le_of_ble_eq_true rfl) ⟨_, h, rfl⟩
      have h := h.2 c
      refine st_iload G 129 rfl 5 rfl dX7_odds_127 ?_
      refine st_iload G 131 rfl 0 rfl dX7_odds_129 ?_
      obtain ⟨hne, h⟩ := h
      refine st_idiv G 132 rfl hne dX7_odds_131 ?_
      refine st_goto G 139 dX7_odds_132 rfl ?_
      exact R _ _ _ _ dX7_odds_139 (Nat.le_of_ble_eq_true rfl) ⟨_, h, rfl⟩
    have h := h.2 c
    refine st_iload G 63 rfl 5 rfl dX7_odds_61 ?_
    refine st_iconst G 64 rfl (1 : Int32) (by decide) dX7_odds_63 ?_
    refine st_iadd G 65 rfl dX7_odds_64 ?_
    refine st_topi (fun x6_65 ex6_65 => ?_)
    have h := h x6_65 ex6_65
    refine st_istore G 67 rfl [(6, .int x6_65), (0, .ref q_t), (1, .int x1), (2, .int x2), (3, .int x3), (4, .int x4), (5, .int x5)] dX7_odds_65 (by decide) rfl ?_
    refine st_L (L' := [(0, .ref q_t), (1, .int x1), (2, .int x2), (3, .int x3), (4, .int x4), (5, .int x5), (6, .int x6_65)]) [1, 2, 3, 4, 5, 6, 0] rfl ?_
    obtain ⟨n, h⟩ := h
    exact b_X7_odds_67 G R hK50 n _ _ _ _ _ _ _ h
set_option maxRecDepth 100000 in
set_option maxHeartbeats 4000000 in
theorem b_X7_odds_e {g : GT} (G : GOOD g RX7 cX7_odds 7 rm_X7_odds) {q_t q_t_s q_t_k q_t_laid q_t_errors q_t_step q_t_named q_t_pile q_t_sums1 q_t_parts1 q_t_trace q_t_bits q_t_sizes q_t_number q_t_aside : Nat} {c_images : Int32} {c_at : Int32} {c_open : Int32} {c_steps : Int32} {c_use : Int32} {c_traced : Int32} {c_speaks : Int32} {c_isParted : Int32} {c_s : Nat → Int32} {c_errors : Nat → Int32} {x1 : Int32} {x2 : Int32} {Q : Int32 → (Nat → Int32) → Prop} (R : RETi g cX7_odds 3 (fun (r : Int32) w => ∃ (c_errors' : Nat → Int32), Q r c_errors' ∧ w = [(q_t, .inr (7, [.ref q_t_s, .ref q_t_k, .ref q_t_laid, .int c_images, .ref q_t_errors, .int c_at, .int c_open, .int c_steps, .int c_use, .ref q_t_step, .ref q_t_named, .ref q_t_pile, .ref q_t_sums1, .ref q_t_parts1, .int c_traced, .ref q_t_trace, .int c_speaks, .int c_isParted, .ref q_t_bits, .ref q_t_sizes, .ref q_t_number, .ref q_t_aside])), (q_t_s, .inl (g.X.cI, 476, .inl c_s)), (q_t_errors, .inl (g.X.cI, 7, .inl c_errors'))])) (h : wp_X7_odds x1 x2 c_s c_errors Q) : ST g 0 0 0 [(0, .ref q_t), (1, .int x1), (2, .int x2)] [] [(q_t, .inr (7, [.ref q_t_s, .ref q_t_k, .ref q_t_laid, .int c_images, .ref q_t_errors, .int c_at, .int c_open, .int c_steps, .int c_use, .ref q_t_step, .ref q_t_named, .ref q_t_pile, .ref q_t_sums1, .ref q_t_parts1, .int c_traced, .ref q_t_trace, .int c_speaks, .int c_isParted, .ref q_t_bits, .ref q_t_sizes, .ref q_t_number, .ref q_t_aside])), (q_t_s, .inl (g.X.cI, 476, .inl c_s)), (q_t_errors, .inl (g.X.cI, 7, .inl c_errors))] := by
  unfold wp_X7_odds at h
  refine st_iload_n G 1 rfl 1 rfl dX7_odds_0 rfl ?_
  refine st_iconst G 2 rfl (0 : Int32) (by decide) dX7_odds_1 ?_
  refine st_sipush G 5 rfl (500 : Int32) (by decide) dX7_odds_2 ?_
  refine st_cSio G lk_X7_53 (c_X7_in g.l g.D g.X x1 (0 : Int32) (500 : Int32) _ h) ⟨rfl, rfl, ⟨Nat.le_of_ble_eq_true rfl, Nat.le_of_ble_eq_true rfl⟩, Nat.zero_le _, Nat.zero_le _⟩ 8 rfl [] rfl (by decide) rfl (Nat.le_of_ble_eq_true rfl) rfl dX7_odds_5 (fun r_5 h => ?_)
  refine st_if_eq G 20 11 rfl dX7_odds_8 rfl (fun c => ?_) (fun c => ?_)
  · have h := h.1 c
    refine st_aload_n G 21 rfl 0 rfl dX7_odds_20 rfl ?_
    refine st_iconst G 22 rfl (1 : Int32) (by decide) dX7_odds_21 ?_
    refine st_cVi G lk_X7_65 (c_X7_error g.l g.D g.X q_t q_t_s q_t_k q_t_laid q_t_errors q_t_step q_t_named q_t_pile q_t_sums1 q_t_parts1 q_t_trace q_t_bits q_t_sizes q_t_number q_t_aside c_images c_at c_open c_steps c_use c_traced c_speaks c_isParted c_errors (1 : Int32) _ h) ⟨rfl, rfl, ⟨Nat.le_of_ble_eq_true rfl, Nat.le_of_ble_eq_true rfl⟩, Nat.zero_le _, Nat.zero_le _⟩ 25 rfl [0, 2] rfl (by decide) 0 7 rfl rfl rfl (Nat.le_of_ble_eq_true rfl) rfl dX7_odds_22 (fun r_22 w hq => ?_)
    obtain ⟨c_errors_22, h, rfl⟩ := hq
    refine st_wp (ws' := [(q_t, .inr (7, [.ref q_t_s, .ref q_t_k, .ref q_t_laid, .int c_images, .ref q_t_errors, .int c_at, .int c_open, .int c_steps, .int c_use, .ref q_t_step, .ref q_t_named, .ref q_t_pile, .ref q_t_sums1, .ref q_t_parts1, .int c_traced, .ref q_t_trace, .int c_speaks, .int c_isParted, .ref q_t_bits, .ref q_t_sizes, .ref q_t_number, .ref q_t_aside])), (q_t_s, .inl (g.X.cI, 476, .inl c_s)), (q_t_errors, .inl (g.X.cI, 7, .inl c_errors_22))]) 3 [1] (by decide) rfl rfl (by rfl) [(q_t_s, .inl (g.X.cI, 476, .inl c_s))] (by rfl) rfl ?_
    exact R _ _ _ _ dX7_odds_25 (Nat.le_of_ble_eq_true rfl) ⟨_, h, rfl⟩
  have h := h.2 c
  refine st_iload_n G 12 rfl 2 rfl dX7_odds_11 rfl ?_
  refine st_iconst G 13 rfl (0 : Int32) (by decide) dX7_odds_12 ?_
  refine st_iconst G 14 rfl (1 : Int32) (by decide) dX7_odds_13 ?_
  refine st_cSio G lk_X7_53 (c_X7_in g.l g.D g.X x2 (0 : Int32) (1 : Int32) _ h) ⟨rfl, rfl, ⟨Nat.le_of_ble_eq_true rfl, Nat.le_of_ble_eq_true rfl⟩, Nat.zero_le _, Nat.zero_le _⟩ 17 rfl [] rfl (by decide) rfl (Nat.le_of_ble_eq_true rfl) rfl dX7_odds_14 (fun r_14 h => ?_)
  refine st_if_ne G 26 20 rfl dX7_odds_17 rfl (fun c => ?_) (fun c => ?_)
  · have h := h.1 c
    refine st_aload_n G 27 rfl 0 rfl dX7_odds_26 rfl ?_
    refine st_get G inX7 rfl 0 (by decide) wd_82 30 rfl 0 rfl rfl dX7_odds_27 ?_
    refine st_iconst G 31 rfl (4 : Int32) (by decide) dX7_odds_30 ?_
    obtain ⟨hin, h⟩ := h
    refine st_iald G 32 rfl 1 rfl hin dX7_odds_31 ?_
    refine st_iconst G 33 rfl (2 : Int32) (by decide) dX7_odds_32 ?_
    refine st_icmp_ge G 42 36 rfl dX7_odds_33 rfl (fun c => ?_) (fun c => ?_)
    · have h := h.1 c
      refine st_iconst G 43 rfl (0 : Int32) (by decide) dX7_odds_42 ?_
      refine st_istore_n G 44 rfl [(3, .int (0 : Int32)), (0, .ref q_t), (1, .int x1), (2, .int x2)] dX7_odds_43 rfl (by decide) rfl ?_
      refine st_iconst G 45 rfl (0 : Int32) (by decide) dX7_odds_44 ?_
      refine st_istore G 47 rfl [(4, .int (0 : Int32)), (3, .int (0 : Int32)), (0, .ref q_t), (1, .int x1), (2, .int x2)] dX7_odds_45 (by decide) rfl ?_
      refine st_iconst G 48 rfl (0 : Int32) (by decide) dX7_odds_47 ?_
      refine st_istore G 50 rfl [(5, .int (0 : Int32)), (4, .int (0 : Int32)), (3, .int (0 : Int32)), (0, .ref q_t), (1, .int x1), (2, .int x2)] dX7_odds_48 (by decide) rfl ?_
      refine st_L (L' := [(0, .ref q_t), (1, .int x1), (2, .int x2), (3, .int (0 : Int32)), (4, .int (0 : Int32)), (5, .int (0 : Int32))]) [3, 4, 5, 2, 1, 0] rfl ?_
      obtain ⟨n, h⟩ := h
      exact b_X7_odds_50 G R n _ _ _ _ _ _ h
    have h := h.2 c
    refine st_aload_n G 37 rfl 0 rfl dX7_odds_36 rfl ?_
    refine st_iconst G 38 rfl (3 : Int32) (by decide) dX7_odds_37 ?_
    refine st_cVi G lk_X7_65 (c_X7_error g.l g.D g.X q_t q_t_s q_t_k q_t_laid q_t_errors q_t_step q_t_named q_t_pile q_t_sums1 q_t_parts1 q_t_trace q_t_bits q_t_sizes q_t_number q_t_aside c_images c_at c_open c_steps c_use c_traced c_speaks c_isParted c_errors (3 : Int32) _ h) ⟨rfl, rfl, ⟨Nat.le_of_ble_eq_true rfl, Nat.le_of_ble_eq_true rfl⟩, Nat.zero_le _, Nat.zero_le _⟩ 41 rfl [0, 2] rfl (by decide) 0 7 rfl rfl rfl (Nat.le_of_ble_eq_true rfl) rfl dX7_odds_38 (fun r_38 w hq => ?_)
    obtain ⟨c_errors_38, h, rfl⟩ := hq
    refine st_wp (ws' := [(q_t, .inr (7, [.ref q_t_s, .ref q_t_k, .ref q_t_laid, .int c_images, .ref q_t_errors, .int c_at, .int c_open, .int c_steps, .int c_use, .ref q_t_step, .ref q_t_named, .ref q_t_pile, .ref q_t_sums1, .ref q_t_parts1, .int c_traced, .ref q_t_trace, .int c_speaks, .int c_isParted, .ref q_t_bits, .ref q_t_sizes, .ref q_t_number, .ref q_t_aside])), (q_t_s, .inl (g.X.cI, 476, .inl c_s)), (q_t_errors, .inl (g.X.cI, 7, .inl c_errors_38))]) 3 [1] (by decide) rfl rfl (by rfl) [(q_t_s, .inl (g.X.cI, 476, .inl c_s))] (by rfl) rfl ?_
    exact R _ _ _ _ dX7_odds_41 (Nat.le_of_ble_eq_true rfl) ⟨_, h, rfl⟩
  have h := h.2 c
  refine st_aload_n G 21 rfl 0 rfl dX7_odds_20 rfl ?_
  refine st_iconst G 22 rfl (1 : Int32) (by decide) dX7_odds_21 ?_
  refine st_cVi G lk_X7_65 (c_X7_error g.l g.D g.X q_t q_t_s q_t_k q_t_laid q_t_errors q_t_step q_t_named q_t_pile q_t_sums1 q_t_parts1 q_t_trace q_t_bits q_t_sizes q_t_number q_t_aside c_images c_at c_open c_steps c_use c_traced c_speaks c_isParted c_errors (1 : Int32) _ h) ⟨rfl, rfl, ⟨Nat.le_of_ble_eq_true rfl, Nat.le_of_ble_eq_true rfl⟩, Nat.zero_le _, Nat.zero_le _⟩ 25 rfl [0, 2] rfl (by decide) 0 7 rfl rfl rfl (Nat.le_of_ble_eq_true rfl) rfl dX7_odds_22 (fun r_22 w hq => ?_)
  obtain ⟨c_errors_22, h, rfl⟩ := hq
  refine st_wp (ws' := [(q_t, .inr (7, [.ref q_t_s, .ref q_t_k, .ref q_t_laid, .int c_images, .ref q_t_errors, .int c_at, .int c_open, .int c_steps, .int c_use, .ref q_t_step, .ref q_t_named, .ref q_t_pile, .ref q_t_sums1, .ref q_t_parts1, .int c_traced, .ref q_t_trace, .int c_speaks, .int c_isParted, .ref q_t_bits, .ref q_t_sizes, .ref q_t_number, .ref q_t_aside])), (q_t_s, .inl (g.X.cI, 476, .inl c_s)), (q_t_errors, .inl (g.X.cI, 7, .inl c_errors_22))]) 3 [1] (by decide) rfl rfl (by rfl) [(q_t_s, .inl (g.X.cI, 476, .inl c_s))] (by rfl) rfl ?_
  exact R _ _ _ _ dX7_odds_25 (Nat.le_of_ble_eq_true rfl) ⟨_, h, rfl⟩
set_option maxRecDepth 100000 in
set_option maxHeartbeats 4000000 in
theorem c_X7_odds (l : Launch) (D : va_G) (X : XT) (q_t q_t_s q_t_k q_t_laid q_t_errors q_t_step q_t_named q_t_pile q_t_sums1 q_t_parts1 q_t_trace q_t_bits q_t_sizes q_t_number q_t_aside : Nat) (c_images : Int32) (c_at : Int32) (c_open : Int32) (c_steps : Int32) (c_use : Int32) (c_traced : Int32) (c_speaks : Int32) (c_isParted : Int32) (c_s : Nat → Int32) (c_errors : Nat → Int32) (x1 : Int32) (x2 : Int32) (Q : Int32 → (Nat → Int32) → Prop) (h : wp_X7_odds x1 x2 c_s c_errors Q) : CTi l D X yX7_odds cX7_odds 7 .int rm_X7_odds [.ref q_t, .int x1, .int x2] [(q_t, .inr (7, [.ref q_t_s, .ref q_t_k, .ref q_t_laid, .int c_images, .ref q_t_errors, .int c_at, .int c_open, .int c_steps, .int c_use, .ref q_t_step, .ref q_t_named, .ref q_t_pile, .ref q_t_sums1, .ref q_t_parts1, .int c_traced, .ref q_t_trace, .int c_speaks, .int c_isParted, .ref q_t_bits, .ref q_t_sizes, .ref q_t_number, .ref q_t_aside])), (q_t_s, .inl (X.cI, 476, .inl c_s)), (q_t_errors, .inl (X.cI, 7, .inl c_errors))] (fun (r : Int32) w => ∃ (c_errors' : Nat → Int32), Q r c_errors' ∧ w = [(q_t, .inr (7, [.ref q_t_s, .ref q_t_k, .ref q_t_laid, .int c_images, .ref q_t_errors, .int c_at, .int c_open, .int c_steps, .int c_use, .ref q_t_step, .ref q_t_named, .ref q_t_pile, .ref q_t_sums1, .ref q_t_parts1, .int c_traced, .ref q_t_trace, .int c_speaks, .int c_isParted, .ref q_t_bits, .ref q_t_sizes, .ref q_t_number, .ref q_t_aside])), (q_t_s, .inl (X.cI, 476, .inl c_s)), (q_t_errors, .inl (X.cI, 7, .inl c_errors'))]) :=
  ct_i (by decide) (Nat.le_of_ble_eq_true rfl) (fun g hl hD hX G R => by subst hl; subst hD; subst hX; exact b_X7_odds_e G R h)
set_option maxRecDepth 100000 in
set_option maxHeartbeats 4000000 in
theorem b_X7_haveSo_22 {g : GT} (G : GOOD g RX7 cX7_haveSo 7 rm_X7_haveSo) {q_t q_t_s q_t_k q_t_laid q_t_errors q_t_step q_t_named q_t_pile q_t_sums1 q_t_parts1 q_t_trace q_t_bits q_t_sizes q_t_number q_t_aside : Nat} {c_images : Int32} {c_at : Int32} {c_open : Int32} {c_steps : Int32} {c_use : Int32} {c_traced : Int32} {c_speaks : Int32} {c_isParted : Int32} {c_s : Nat → Int32} {c_sizes : Nat → Int32} {c_number : Nat → Int32} {Q : Int32 → Prop} {KK5 : (Int32) → (Int32) → (Int32) → (Int32) → Prop} (R : RETz g cX7_haveSo 4 (fun (r : Int32) w => (Q r) ∧ w = [(q_t, .inr (7, [.ref q_t_s, .ref q_t_k, .ref q_t_laid, .int c_images, .ref q_t_errors, .int c_at, .int c_open, .int c_steps, .int c_use, .ref q_t_step, .ref q_t_named, .ref q_t_pile, .ref q_t_sums1, .ref q_t_parts1, .int c_traced, .ref q_t_trace, .int c_speaks, .int c_isParted, .ref q_t_bits, .ref q_t_sizes, .ref q_t_number, .ref q_t_aside])), (q_t_s, .inl (g.X.cI, 476, .inl c_s)), (q_t_sizes, .inl (g.X.cI, 4, .inl c_sizes)), (q_t_number, .inl (g.X.cI, 96, .inl c_number))])) (hK5 : ∀ (x1 : Int32) (x2 : Int32) (x3 : Int32) (x4 : Int32), KK5 x1 x2 x3 x4 → ST g 0 0 5 [(0, .ref q_t), (1, .int x1), (2, .int x2), (3, .int x3), (4, .int x4)] [] [(q_t, .inr (7, [.ref q_t_s, .ref q_t_k, .ref q_t_laid, .int c_images, .ref q_t_errors, .int c_at, .int c_open, .int c_steps, .int c_use, .ref q_t_step, .ref q_t_named, .ref q_t_pile, .ref q_t_sums1, .ref q_t_parts1, .int c_traced, .ref q_t_trace, .int c_speaks, .int c_isParted, .ref q_t_bits, .ref q_t_sizes, .ref q_t_number, .ref q_t_aside])), (q_t_s, .inl (g.X.cI, 476, .inl c_s)), (q_t_sizes, .inl (g.X.cI, 4, .inl c_sizes)), (q_t_number, .inl (g.X.cI, 96, .inl c_number))]) : ∀ (n : Nat) (x1 : Int32) (x2 : Int32) (x3 : Int32) (x4 : Int32) (x5 : Int32) (x6 : Int32), wp_X7_haveSo_b22 Q KK5 c_s c_sizes c_number n x1 x2 x3 x4 x5 x6 → ST g 0 0 22 [(0, .ref q_t), (1, .int x1), (2, .int x2), (3, .int x3), (4, .int x4), (5, .int x5), (6, .int x6)] [] [(q_t, .inr (7, [.ref q_t_s, .ref q_t_k, .ref q_t_laid, .int c_images, .ref q_t_errors, .int c_at, .int c_open, .int c_steps, .int c_use, .ref q_t_step, .ref q_t_named, .ref q_t_pile, .ref q_t_sums1, .ref q_t_parts1, .int c_traced, .ref q_t_trace, .int c_speaks, .int c_isParted, .ref q_t_bits, .ref q_t_sizes, .ref q_t_number, .ref q_t_aside])), (q_t_s, .inl (g.X.cI, 476, .inl c_s)), (q_t_sizes, .inl (g.X.cI, 4, .inl c_sizes)), (q_t_number, .inl (g.X.cI, 96, .inl c_number))] := by
  intro n
  induction n with
  | zero => intro x1 x2 x3 x4 x5 x6 h; exact False.elim h
  | succ n hK22 =>
    intro x1 x2 x3 x4 x5 x6 h
    unfold wp_X7_haveSo_b22 at h
    refine st_iload G 24 rfl 6 rfl dX7_haveSo_22 ?_
    refine st_aload_n G 25 rfl 0 rfl dX7_haveSo_24 rfl ?_
    refine st_get G inX7 rfl 0 (by decide) wd_82 28 rfl 0 rfl rfl dX7_haveSo_25 ?_
    refine st_iconst G 29 rfl (4 : Int32) (by decide) dX7_haveSo_28 ?_
    obtain ⟨hin, h⟩ := h
    refine st_iald G 30 rfl 1 rfl hin dX7_haveSo_29 ?_
    refine st_icmp_ge G 66 33 rfl dX7_haveSo_30 rfl (fun c => ?_) (fun c => ?_)
    · have h := h.1 c
      refine st_iload_n G 67 rfl 3 rfl dX7_haveSo_66 rfl ?_
      refine st_if_eq G 91 70 rfl dX7_haveSo_67 rfl (fun c => ?_) (fun c => ?_)
      · have h := h.1 c
        refine st_iconst G 92 rfl (0 : Int32) (by decide) dX7_haveSo_91 ?_
        refine st_istore_n G 93 rfl [(3, .int (0 : Int32)), (0, .ref q_t), (1, .int x1), (2, .int x2), (4, .int x4), (5, .int x5), (6, .int x6)] dX7_haveSo_92 rfl (by decide) rfl ?_
        obtain ⟨x4_93, ex4_93⟩ : ∃ y : Int32, y = (x4 + (1 : Int32)) := ⟨_, rfl⟩
        have h := h x4_93 ex4_93
        refine st_iinc G 96 rfl [(4, .int x4_93), (3, .int (0 : Int32)), (0, .ref q_t), (1, .int x1), (2, .int x2), (5, .int x5), (6, .int x6)] x4_93 4 rfl (by rw [ex4_93]; rfl) dX7_haveSo_93 (by decide) rfl ?_
        refine st_goto G 5 dX7_haveSo_96 rfl ?_
        refine st_L (L' := [(0, .ref q_t), (1, .int x1), (2, .int x2), (3, .int (0 : Int32)), (4, .int x4_93)]) [2, 3, 4, 1, 0] rfl ?_
        exact hK5 _ _ _ _ h
      have h := h.2 c
      refine st_iload G 72 rfl 5 rfl dX7_haveSo_70 ?_
      refine st_aload_n G 73 rfl 0 rfl dX7_haveSo_72 rfl ?_
      refine st_get G inX7 rfl 20 (by decide) wd_94 76 rfl 0 rfl rfl dX7_haveSo_73 ?_
      refine st_bipush G 78 rfl (24 : Int32) (by decide) dX7_haveSo_76 ?_
      refine st_iload_n G 79 rfl 2 rfl dX7_haveSo_78 rfl ?_
      refine st_imul G 80 rfl dX7_haveSo_79 ?_
      refine st_iload G 82 rfl 4 rfl dX7_haveSo_80 ?_
      refine st_iadd G 83 rfl dX7_haveSo_82 ?_
      obtain ⟨hin, h⟩ := h
      refine st_iald G 84 rfl 3 rfl hin dX7_haveSo_83 ?_
      refine st_icmp_ne G 91 87 rfl dX7_haveSo_84 rfl (fun c => ?_) (fun c => ?_)
      · have h := h.1 c
        refine st_iconst G 92 rfl (0 : Int32) (by decide) dX7_haveSo_91 ?_
        refine st_istore_n G 93 rfl [(3, .int (0 : Int32)), (0, .ref q_t), (1, .int x1), (2, .int x2), (4, .int x4), (5, .int x5), (6, .int x6)] dX7_haveSo_92 rfl (by decide) rfl ?_
        obtain ⟨x4_93, ex4_93⟩ : ∃ y : Int32, y = (x4 + (1 : Int32)) := ⟨_, rfl⟩
        have h := h x4_93 ex4_93
        refine st_iinc G 96 rfl [(4, .int x4_93), (3, .int (0 : Int32)), (0, .ref q_t), (1, .int x1), (2, .int x2), (5, .int x5), (6, .int x6)] x4_93 4 rfl (by rw [ex4_93]; rfl) dX7_haveSo_93 (by decide) rfl ?_
        refine st_goto G 5 dX7_haveSo_96 rfl ?_
        refine st_L (L' := [(0, .ref q_t), (1, .int x1), (2, .int x2), (3, .int (0 : Int32)), (4, .int x4_93)]) [2, 3, 4, 1, 0] rfl ?_
        exact hK5 _ _ _ _ h
      have h := h.2 c
      refine st_iconst G 88 rfl (1 : Int32) (by decide) dX7_haveSo_87 ?_
      refine st_goto G 92 dX7_haveSo_88 rfl ?_
      refine st_istore_n G 93 rfl [(3, .int (1 : Int32)), (0, .ref q_t), (1, .int x1), (2, .int x2), (4, .int x4), (5, .int x5), (6, .int x6)] dX7_haveSo_92 rfl (by decide) rfl ?_
      obtain ⟨x4_93, ex4_93⟩ : ∃ y : Int32, y = (x4 + (1 : Int32)) := ⟨_, rfl⟩
      have h := h x4_93 ex4_93
      refine st_iinc G 96 rfl [(4, .int x4_93), (3, .int (1 : Int32)), (0, .ref q_t), (1, .int x1), (2, .int x2), (5, .int x5), (6, .int x6)] x4_93 4 rfl (by rw [ex4_93]; rfl) dX7_haveSo_93 (by decide) rfl ?_
      refine st_goto G 5 dX7_haveSo_96 rfl ?_
      refine st_L (L' := [(0, .ref q_t), (1, .int x1), (2, .int x2), (3, .int (1 : Int32)), (4, .int x4_93)]) [2, 3, 4, 1, 0] rfl ?_
      exact hK5 _ _ _ _ h
    have h := h.2 c
    refine st_iload G 35 rfl 5 rfl dX7_haveSo_33 ?_
    refine st_iload_n G 36 rfl 1 rfl dX7_haveSo_35 rfl ?_
    refine st_iload G 38 rfl 6 rfl dX7_haveSo_36 ?_
    refine st_ishr G 39 rfl dX7_haveSo_38 ?_
    refine st_iconst G 40 rfl (1 : Int32) (by decide) dX7_haveSo_39 ?_
    refine st_iand G 41 rfl dX7_haveSo_40 ?_
    refine st_iconst G 42 rfl (1 : Int32) (by decide) dX7_haveSo_41 ?_
    refine st_icmp_ne G 56 45 rfl dX7_haveSo_42 rfl (fun c => ?_) (fun c => ?_)
    · have h := h.1 c
      refine st_iconst G 57 rfl (0 : Int32) (by decide) dX7_haveSo_56 ?_
      refine st_iadd G 58 rfl dX7_haveSo_57 ?_
      refine st_topi (fun x5_58 ex5_58 => ?_)
      have h := h x5_58 ex5_58
      refine st_istore G 60 rfl [(5, .int x5_58), (0, .ref q_t), (1, .int x1), (2, .int x2), (3, .int x3), (4, .int x4), (6, .int x6)] dX7_haveSo_58 (by decide) rfl ?_
      obtain ⟨x6_60, ex6_60⟩ : ∃ y : Int32, y = (x6 + (1 : Int32)) := ⟨_, rfl⟩
      have h := h x6_60 ex6_60
      refine st_iinc G 63 rfl [(6, .int x6_60), (5, .int x5_58), (0, .ref q_t), (1, .int x1), (2, .int x2), (3, .int x3), (4, .int x4)] x6_60 6 rfl (by rw [ex6_60]; rfl) dX7_haveSo_60 (by decide) rfl ?_
      refine st_goto G 22 dX7_haveSo_63 rfl ?_
      refine st_L (L' := [(0, .ref q_t), (1, .int x1), (2, .int x2), (3, .int x3), (4, .int x4), (5, .int x5_58), (6, .int x6_60)]) [2, 3, 4, 5, 6, 1, 0] rfl ?_
      exact hK22 _ _ _ _ _ _ h
    have h := h.2 c
    refine st_aload_n G 46 rfl 0 rfl dX7_haveSo_45 rfl ?_
    refine st_iload G 48 rfl 6 rfl dX7_haveSo_46 ?_
    refine st_iload G 50 rfl 4 rfl dX7_haveSo_48 ?_
    refine st_cVio G lk_X7_57 (c_X7_has g.l g.D g.X q_t q_t_s q_t_k q_t_laid q_t_errors q_t_step q_t_named q_t_pile q_t_sums1 q_t_parts1 q_t_trace q_t_bits q_t_sizes q_t_number q_t_aside c_images c_at c_open c_steps c_use c_traced c_speaks c_isParted c_s x6 x4 _ h) ⟨rfl, rfl, ⟨Nat.le_of_ble_eq_true rfl, Nat.le_of_ble_eq_true rfl⟩, Nat.zero_le _, Nat.zero_le _⟩ 53 rfl [0, 1] rfl (by decide) 0 7 rfl rfl rfl (Nat.le_of_ble_eq_true rfl) rfl dX7_haveSo_50 (fun r_50 h => ?_)
    refine st_goto G 57 dX7_haveSo_53 rfl ?_
    refine st_iadd G 58 rfl dX7_haveSo_57 ?_
    refine st_topi (fun x5_58 ex5_58 => ?_)
    have h := h x5_58 ex5_58
    refine st_istore G 60 rfl [(5, .int x5_58), (0, .ref q_t), (1, .int x1), (2, .int x2), (3, .int x3), (4, .int x4), (6, .int x6)] dX7_haveSo_58 (by decide) rfl ?_
    obtain ⟨x6_60, ex6_60⟩ : ∃ y : Int32, y = (x6 + (1 : Int32)) := ⟨_, rfl⟩
    have h := h x6_60 ex6_60
    refine st_iinc G 63 rfl [(6, .int x6_60), (5, .int x5_58), (0, .ref q_t), (1, .int x1), (2, .int x2), (3, .int x3), (4, .int x4)] x6_60 6 rfl (by rw [ex6_60]; rfl) dX7_haveSo_60 (by decide) rfl ?_
    refine st_goto G 22 dX7_haveSo_63 rfl ?_
    refine st_L (L' := [(0, .ref q_t), (1, .int x1), (2, .int x2), (3, .int x3), (4, .int x4), (5, .int x5_58), (6, .int x6_60)]) [2, 3, 4, 5, 6, 1, 0] rfl ?_
    exact hK22 _ _ _ _ _ _ h
set_option maxRecDepth 100000 in
set_option maxHeartbeats 4000000 in
theorem b_X7_haveSo_5 {g : GT} (G : GOOD g RX7 cX7_haveSo 7 rm_X7_haveSo) {q_t q_t_s q_t_k q_t_laid q_t_errors q_t_step q_t_named q_t_pile q_t_sums1 q_t_parts1 q_t_trace q_t_bits q_t_sizes q_t_number q_t_aside : Nat} {c_images : Int32} {c_at : Int32} {c_open : Int32} {c_steps : Int32} {c_use : Int32} {c_traced : Int32} {c_speaks : Int32} {c_isParted : Int32} {c_s : Nat → Int32} {c_sizes : Nat → Int32} {c_number : Nat → Int32} {Q : Int32 → Prop} (R : RETz g cX7_haveSo 4 (fun (r : Int32) w => (Q r) ∧ w = [(q_t, .inr (7, [.ref q_t_s, .ref q_t_k, .ref q_t_laid, .int c_images, .ref q_t_errors, .int c_at, .int c_open, .int c_steps, .int c_use, .ref q_t_step, .ref q_t_named, .ref q_t_pile, .ref q_t_sums1, .ref q_t_parts1, .int c_traced, .ref q_t_trace, .int c_speaks, .int c_isParted, .ref q_t_bits, .ref q_t_sizes, .ref q_t_number, .ref q_t_aside])), (q_t_s, .inl (g.X.cI, 476, .inl c_s)), (q_t_sizes, .inl (g.X.cI, 4, .inl c_sizes)), (q_t_number, .inl (g.X.cI, 96, .inl c_number))])) : ∀ (n : Nat) (x1 : Int32) (x2 : Int32) (x3 : Int32) (x4 : Int32), wp_X7_haveSo_b5 Q c_s c_sizes c_number n x1 x2 x3 x4 → ST g 0 0 5 [(0, .ref q_t), (1, .int x1), (2, .int x2), (3, .int x3), (4, .int x4)] [] [(q_t, .inr (7, [.ref q_t_s, .ref q_t_k, .ref q_t_laid, .int c_images, .ref q_t_errors, .int c_at, .int c_open, .int c_steps, .int c_use, .ref q_t_step, .ref q_t_named, .ref q_t_pile, .ref q_t_sums1, .ref q_t_parts1, .int c_traced, .ref q_t_trace, .int c_speaks, .int c_isParted, .ref q_t_bits, .ref q_t_sizes, .ref q_t_number, .ref q_t_aside])), (q_t_s, .inl (g.X.cI, 476, .inl c_s)), (q_t_sizes, .inl (g.X.cI, 4, .inl c_sizes)), (q_t_number, .inl (g.X.cI, 96, .inl c_number))] := by
  intro n
  induction n with
  | zero => intro x1 x2 x3 x4 h; exact False.elim h
  | succ n hK5 =>
    intro x1 x2 x3 x4 h
    unfold wp_X7_haveSo_b5 at h
    refine st_iload G 7 rfl 4 rfl dX7_haveSo_5 ?_
    refine st_aload_n G 8 rfl 0 rfl dX7_haveSo_7 rfl ?_
    refine st_get G inX7 rfl 19 (by decide) wd_93 11 rfl 0 rfl rfl dX7_haveSo_8 ?_
    refine st_iload_n G 12 rfl 2 rfl dX7_haveSo_11 rfl ?_
    obtain ⟨hin, h⟩ := h
    refine st_iald G 13 rfl 2 rfl hin dX7_haveSo_12 ?_
    refine st_icmp_ge G 99 16 rfl dX7_haveSo_13 rfl (fun c => ?_) (fun c => ?_)
    · have h := h.1 c
      refine st_iload_n G 100 rfl 3 rfl dX7_haveSo_99 rfl ?_
      obtain ⟨hbz, h⟩ := h
      exact R _ _ _ _ dX7_haveSo_100 (Nat.le_of_ble_eq_true rfl) hbz ⟨h, rfl⟩
    have h := h.2 c
    refine st_iconst G 17 rfl (0 : Int32) (by decide) dX7_haveSo_16 ?_
    refine st_istore G 19 rfl [(5, .int (0 : Int32)), (0, .ref q_t), (1, .int x1), (2, .int x2), (3, .int x3), (4, .int x4)] dX7_haveSo_17 (by decide) rfl ?_
    refine st_iconst G 20 rfl (0 : Int32) (by decide) dX7_haveSo_19 ?_
    refine st_istore G 22 rfl [(6, .int (0 : Int32)), (5, .int (0 : Int32)), (0, .ref q_t), (1, .int x1), (2, .int x2), (3, .int x3), (4, .int x4)] dX7_haveSo_20 (by decide) rfl ?_
    refine st_L (L' := [(0, .ref q_t), (1, .int x1), (2, .int x2), (3, .int x3), (4, .int x4), (5, .int (0 : Int32)), (6, .int (0 : Int32))]) [2, 3, 4, 5, 6, 1, 0] rfl ?_
    obtain ⟨n, h⟩ := h
    exact b_X7_haveSo_22 G R hK5 n _ _ _ _ _ _ h
set_option maxRecDepth 100000 in
set_option maxHeartbeats 4000000 in
theorem b_X7_haveSo_e {g : GT} (G : GOOD g RX7 cX7_haveSo 7 rm_X7_haveSo) {q_t q_t_s q_t_k q_t_laid q_t_errors q_t_step q_t_named q_t_pile q_t_sums1 q_t_parts1 q_t_trace q_t_bits q_t_sizes q_t_number q_t_aside : Nat} {c_images : Int32} {c_at : Int32} {c_open : Int32} {c_steps : Int32} {c_use : Int32} {c_traced : Int32} {c_speaks : Int32} {c_isParted : Int32} {c_s : Nat → Int32} {c_sizes : Nat → Int32} {c_number : Nat → Int32} {x1 : Int32} {x2 : Int32} {Q : Int32 → Prop} (R : RETz g cX7_haveSo 4 (fun (r : Int32) w => (Q r) ∧ w = [(q_t, .inr (7, [.ref q_t_s, .ref q_t_k, .ref q_t_laid, .int c_images, .ref q_t_errors, .int c_at, .int c_open, .int c_steps, .int c_use, .ref q_t_step, .ref q_t_named, .ref q_t_pile, .ref q_t_sums1, .ref q_t_parts1, .int c_traced, .ref q_t_trace, .int c_speaks, .int c_isParted, .ref q_t_bits, .ref q_t_sizes, .ref q_t_number, .ref q_t_aside])), (q_t_s, .inl (g.X.cI, 476, .inl c_s)), (q_t_sizes, .inl (g.X.cI, 4, .inl c_sizes)), (q_t_number, .inl (g.X.cI, 96, .inl c_number))])) (h : wp_X7_haveSo x1 x2 c_s c_sizes c_number Q) : ST g 0 0 0 [(0, .ref q_t), (1, .int x1), (2, .int x2)] [] [(q_t, .inr (7, [.ref q_t_s, .ref q_t_k, .ref q_t_laid, .int c_images, .ref q_t_errors, .int c_at, .int c_open, .int c_steps, .int c_use, .ref q_t_step, .ref q_t_named, .ref q_t_pile, .ref q_t_sums1, .ref q_t_parts1, .int c_traced, .ref q_t_trace, .int c_speaks, .int c_isParted, .ref q_t_bits, .ref q_t_sizes, .ref q_t_number, .ref q_t_aside])), (q_t_s, .inl (g.X.cI, 476, .inl c_s)), (q_t_sizes, .inl (g.X.cI, 4, .inl c_sizes)), (q_t_number, .inl (g.X.cI, 96, .inl c_number))] := by
  unfold wp_X7_haveSo at h
  refine st_iconst G 1 rfl (1 : Int32) (by decide) dX7_haveSo_0 ?_
  refine st_istore_n G 2 rfl [(3, .int (1 : Int32)), (0, .ref q_t), (1, .int x1), (2, .int x2)] dX7_haveSo_1 rfl (by decide) rfl ?_
  refine st_iconst G 3 rfl (0 : Int32) (by decide) dX7_haveSo_2 ?_
  refine st_istore G 5 rfl [(4, .int (0 : Int32)), (3, .int (1 : Int32)), (0, .ref q_t), (1, .int x1), (2, .int x2)] dX7_haveSo_3 (by decide) rfl ?_
  refine st_L (L' := [(0, .ref q_t), (1, .int x1), (2, .int x2), (3, .int (1 : Int32)), (4, .int (0 : Int32))]) [2, 3, 4, 1, 0] rfl ?_
  obtain ⟨n, h⟩ := h
  exact b_X7_haveSo_5 G R n _ _ _ _ h
set_option maxRecDepth 100000 in
set_option maxHeartbeats 4000000 in
theorem c_X7_haveSo (l : Launch) (D : va_G) (X : XT) (q_t q_t_s q_t_k q_t_laid q_t_errors q_t_step q_t_named q_t_pile q_t_sums1 q_t_parts1 q_t_trace q_t_bits q_t_sizes q_t_number q_t_aside : Nat) (c_images : Int32) (c_at : Int32) (c_open : Int32) (c_steps : Int32) (c_use : Int32) (c_traced : Int32) (c_speaks : Int32) (c_isParted : Int32) (c_s : Nat → Int32) (c_sizes : Nat → Int32) (c_number : Nat → Int32) (x1 : Int32) (x2 : Int32) (Q : Int32 → Prop) (h : wp_X7_haveSo x1 x2 c_s c_sizes c_number Q) : CTi l D X yX7_haveSo cX7_haveSo 7 .boolean rm_X7_haveSo [.ref q_t, .int x1, .int x2] [(q_t, .inr (7, [.ref q_t_s, .ref q_t_k, .ref q_t_laid, .int c_images, .ref q_t_errors, .int c_at, .int c_open, .int c_steps, .int c_use, .ref q_t_step, .ref q_t_named, .ref q_t_pile, .ref q_t_sums1, .ref q_t_parts1, .int c_traced, .ref q_t_trace, .int c_speaks, .int c_isParted, .ref q_t_bits, .ref q_t_sizes, .ref q_t_number, .ref q_t_aside])), (q_t_s, .inl (X.cI, 476, .inl c_s)), (q_t_sizes, .inl (X.cI, 4, .inl c_sizes)), (q_t_number, .inl (X.cI, 96, .inl c_number))] (fun (r : Int32) w => (Q r) ∧ w = [(q_t, .inr (7, [.ref q_t_s, .ref q_t_k, .ref q_t_laid, .int c_images, .ref q_t_errors, .int c_at, .int c_open, .int c_steps, .int c_use, .ref q_t_step, .ref q_t_named, .ref q_t_pile, .ref q_t_sums1, .ref q_t_parts1, .int c_traced, .ref q_t_trace, .int c_speaks, .int c_isParted, .ref q_t_bits, .ref q_t_sizes, .ref q_t_number, .ref q_t_aside])), (q_t_s, .inl (X.cI, 476, .inl c_s)), (q_t_sizes, .inl (X.cI, 4, .inl c_sizes)), (q_t_number, .inl (X.cI, 96, .inl c_number))]) :=
  ct_z (by decide) (Nat.le_of_ble_eq_true rfl) (fun g hl hD hX G R => by subst hl; subst hD; subst hX; exact b_X7_haveSo_e G R h)
set_option maxRecDepth 100000 in
set_option maxHeartbeats 4000000 in
theorem b_X7_isSheet_e {g : GT} (G : GOOD g RX7 cX7_isSheet 1 rm_X7_isSheet) {x0 : Int32} {Q : Int32 → Prop} (R : RETz g cX7_isSheet 0 (fun (r : Int32) w => (Q r) ∧ w = [])) (h : wp_X7_isSheet x0 Q) : ST g 0 0 0 [(0, .int x0)] [] [] := by
  unfold wp_X7_isSheet at h
  refine st_iload_n G 1 rfl 0 rfl dX7_isSheet_0 rfl ?_
  refine st_iconst G 2 rfl (0 : Int32) (by decide) dX7_isSheet_1 ?_
  refine st_iconst G 3 rfl (3 : Int32) (by decide) dX7_isSheet_2 ?_
  refine st_cSio G lk_X7_53 (c_X7_in g.l g.D g.X x0 (0 : Int32) (3 : Int32) _ h) ⟨rfl, rfl, ⟨Nat.le_of_ble_eq_true rfl, Nat.le_of_ble_eq_true rfl⟩, Nat.zero_le _, Nat.zero_le _⟩ 6 rfl [] rfl (by decide) rfl (Nat.le_of_ble_eq_true rfl) rfl dX7_isSheet_3 (fun r_3 h => ?_)
  obtain ⟨hbz, h⟩ := h
  exact R _ _ _ _ dX7_isSheet_6 (Nat.le_of_ble_eq_true rfl) hbz ⟨h, rfl⟩
set_option maxRecDepth 100000 in
set_option maxHeartbeats 4000000 in
theorem c_X7_isSheet (l : Launch) (D : va_G) (X : XT) (x0 : Int32) (Q : Int32 → Prop) (h : wp_X7_isSheet x0 Q) : CTi l D X yX7_isSheet cX7_isSheet 1 .boolean rm_X7_isSheet [.int x0] [] (fun (r : Int32) w => (Q r) ∧ w = []) :=
  ct_z (by decide) (Nat.le_of_ble_eq_true rfl) (fun g hl hD hX G R => by subst hl; subst hD; subst hX; exact b_X7_isSheet_e G R h)
