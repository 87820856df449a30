set_option maxRecDepth 100000 in
set_option maxHeartbeats 4000000 in
theorem b_X7_lacks_e {g : GT} (G : GOOD g RX7 cX7_lacks 2 rm_X7_lacks) {q_t q_t_s q_t_k q_t_laid q_t_errors q_t_step q_t_named q_t_pile q_t_sums1 q_t_parts1 q_t_trace q_t_bits q_t_sizes q_t_number q_t_aside : Nat} {c_images : Int32} {c_at : Int32} {c_open : Int32} {c_steps : Int32} {c_use : Int32} {c_traced : Int32} {c_speaks : Int32} {c_isParted : Int32} {c_bits : Nat → Int32} {x1 : Int32} {Q : Int32 → Prop} (R : RETi g cX7_lacks 2 (fun (r : Int32) w => (Q r) ∧ w = [(q_t, .inr (7, [.ref q_t_s, .ref q_t_k, .ref q_t_laid, .int c_images, .ref q_t_errors, .int c_at, .int c_open, .int c_steps, .int c_use, .ref q_t_step, .ref q_t_named, .ref q_t_pile, .ref q_t_sums1, .ref q_t_parts1, .int c_traced, .ref q_t_trace, .int c_speaks, .int c_isParted, .ref q_t_bits, .ref q_t_sizes, .ref q_t_number, .ref q_t_aside])), (q_t_bits, .inl (g.X.cI, 4, .inl c_bits))])) (h : wp_X7_lacks x1 c_bits Q) : ST g 0 0 0 [(0, .ref q_t), (1, .int x1)] [] [(q_t, .inr (7, [.ref q_t_s, .ref q_t_k, .ref q_t_laid, .int c_images, .ref q_t_errors, .int c_at, .int c_open, .int c_steps, .int c_use, .ref q_t_step, .ref q_t_named, .ref q_t_pile, .ref q_t_sums1, .ref q_t_parts1, .int c_traced, .ref q_t_trace, .int c_speaks, .int c_isParted, .ref q_t_bits, .ref q_t_sizes, .ref q_t_number, .ref q_t_aside])), (q_t_bits, .inl (g.X.cI, 4, .inl c_bits))] := by
  unfold wp_X7_lacks at h
  refine st_iload_n G 1 rfl 1 rfl dX7_lacks_0 rfl ?_
  refine st_cSio G lk_X7_269 (c_X7_isSheet g.l g.D g.X x1 _ h) ⟨rfl, rfl, ⟨Nat.le_of_ble_eq_true rfl, Nat.le_of_ble_eq_true rfl⟩, Nat.zero_le _, Nat.zero_le _⟩ 4 rfl [] rfl (by decide) rfl (Nat.le_of_ble_eq_true rfl) rfl dX7_lacks_1 (fun r_1 h => ?_)
  refine st_if_ne G 11 7 rfl dX7_lacks_4 rfl (fun c => ?_) (fun c => ?_)
  · have h := h.1 c
    refine st_aload_n G 12 rfl 0 rfl dX7_lacks_11 rfl ?_
    refine st_get G inX7 rfl 18 (by decide) wd_92 15 rfl 0 rfl rfl dX7_lacks_12 ?_
    refine st_iload_n G 16 rfl 1 rfl dX7_lacks_15 rfl ?_
    obtain ⟨hin, h⟩ := h
    refine st_iald G 17 rfl 1 rfl hin dX7_lacks_16 ?_
    refine st_if_ne G 24 20 rfl dX7_lacks_17 rfl (fun c => ?_) (fun c => ?_)
    · have h := h.1 c
      refine st_iconst G 25 rfl (0 : Int32) (by decide) dX7_lacks_24 ?_
      exact R _ _ _ _ dX7_lacks_25 (Nat.le_of_ble_eq_true rfl) ⟨h, rfl⟩
    have h := h.2 c
    refine st_iconst G 21 rfl (2 : Int32) (by decide) dX7_lacks_20 ?_
    refine st_goto G 25 dX7_lacks_21 rfl ?_
    exact R _ _ _ _ dX7_lacks_25 (Nat.le_of_ble_eq_true rfl) ⟨h, rfl⟩
  have h := h.2 c
  refine st_iconst G 8 rfl (1 : Int32) (by decide) dX7_lacks_7 ?_
  refine st_goto G 25 dX7_lacks_8 rfl ?_
  exact R _ _ _ _ dX7_lacks_25 (Nat.le_of_ble_eq_true rfl) ⟨h, rfl⟩
set_option maxRecDepth 100000 in
set_option maxHeartbeats 4000000 in
theorem c_X7_lacks (l : Launch) (D : va_G) (X : XT) (q_t q_t_s q_t_k q_t_laid q_t_errors q_t_step q_t_named q_t_pile q_t_sums1 q_t_parts1 q_t_trace q_t_bits q_t_sizes q_t_number q_t_aside : Nat) (c_images : Int32) (c_at : Int32) (c_open : Int32) (c_steps : Int32) (c_use : Int32) (c_traced : Int32) (c_speaks : Int32) (c_isParted : Int32) (c_bits : Nat → Int32) (x1 : Int32) (Q : Int32 → Prop) (h : wp_X7_lacks x1 c_bits Q) : CTi l D X yX7_lacks cX7_lacks 2 .int rm_X7_lacks [.ref q_t, .int x1] [(q_t, .inr (7, [.ref q_t_s, .ref q_t_k, .ref q_t_laid, .int c_images, .ref q_t_errors, .int c_at, .int c_open, .int c_steps, .int c_use, .ref q_t_step, .ref q_t_named, .ref q_t_pile, .ref q_t_sums1, .ref q_t_parts1, .int c_traced, .ref q_t_trace, .int c_speaks, .int c_isParted, .ref q_t_bits, .ref q_t_sizes, .ref q_t_number, .ref q_t_aside])), (q_t_bits, .inl (X.cI, 4, .inl c_bits))] (fun (r : Int32) w => (Q r) ∧ w = [(q_t, .inr (7, [.ref q_t_s, .ref q_t_k, .ref q_t_laid, .int c_images, .ref q_t_errors, .int c_at, .int c_open, .int c_steps, .int c_use, .ref q_t_step, .ref q_t_named, .ref q_t_pile, .ref q_t_sums1, .ref q_t_parts1, .int c_traced, .ref q_t_trace, .int c_speaks, .int c_isParted, .ref q_t_bits, .ref q_t_sizes, .ref q_t_number, .ref q_t_aside])), (q_t_bits, .inl (X.cI, 4, .inl c_bits))]) :=
  ct_i (by decide) (Nat.le_of_ble_eq_true rfl) (fun g hl hD hX G R => by subst hl; subst hD; subst hX; exact b_X7_lacks_e G R h)
set_option maxRecDepth 100000 in
set_option maxHeartbeats 4000000 in
theorem b_X7_fits_63 {g : GT} (G : GOOD g RX7 cX7_fits 8 rm_X7_fits) {q_t q_t_s q_t_k q_t_laid q_t_errors q_t_step q_t_named q_t_pile q_t_sums1 q_t_parts1 q_t_trace q_t_bits q_t_sizes q_t_number q_t_aside : Nat} {c_images : Int32} {c_at : Int32} {c_open : Int32} {c_steps : Int32} {c_use : Int32} {c_traced : Int32} {c_speaks : Int32} {c_isParted : Int32} {c_s : Nat → Int32} {c_bits : Nat → Int32} {c_sizes : Nat → Int32} {c_number : Nat → Int32} {Q : Int32 → (Nat → Int32) → Prop} (R : RETi g cX7_fits 6 (fun (r : Int32) w => ∃ (c_errors' : Nat → Int32), Q r c_errors' ∧ w = [(q_t, .inr (7, [.ref q_t_s, .ref q_t_k, .ref q_t_laid, .int c_images, .ref q_t_errors, .int c_at, .int c_open, .int c_steps, .int c_use, .ref q_t_step, .ref q_t_named, .ref q_t_pile, .ref q_t_sums1, .ref q_t_parts1, .int c_traced, .ref q_t_trace, .int c_speaks, .int c_isParted, .ref q_t_bits, .ref q_t_sizes, .ref q_t_number, .ref q_t_aside])), (q_t_s, .inl (g.X.cI, 476, .inl c_s)), (q_t_errors, .inl (g.X.cI, 7, .inl c_errors')), (q_t_bits, .inl (g.X.cI, 4, .inl c_bits)), (q_t_sizes, .inl (g.X.cI, 4, .inl c_sizes)), (q_t_number, .inl (g.X.cI, 96, .inl c_number))])) : ∀ (n : Nat) (x1 : Int32) (x2 : Int32) (x4 : Int32) (x5 : Int32) (x6 : Int32) (c_errors : Nat → Int32), wp_X7_fits_b63 Q c_s c_bits c_sizes c_number n x1 x2 x4 x5 x6 c_errors → ST g 0 0 63 [(0, .ref q_t), (1, .int x1), (2, .int x2), (4, .int x4), (5, .int x5), (6, .int x6)] [] [(q_t, .inr (7, [.ref q_t_s, .ref q_t_k, .ref q_t_laid, .int c_images, .ref q_t_errors, .int c_at, .int c_open, .int c_steps, .int c_use, .ref q_t_step, .ref q_t_named, .ref q_t_pile, .ref q_t_sums1, .ref q_t_parts1, .int c_traced, .ref q_t_trace, .int c_speaks, .int c_isParted, .ref q_t_bits, .ref q_t_sizes, .ref q_t_number, .ref q_t_aside])), (q_t_s, .inl (g.X.cI, 476, .inl c_s)), (q_t_errors, .inl (g.X.cI, 7, .inl c_errors)), (q_t_bits, .inl (g.X.cI, 4, .inl c_bits)), (q_t_sizes, .inl (g.X.cI, 4, .inl c_sizes)), (q_t_number, .inl (g.X.cI, 96, .inl c_number))] := by
  intro n
  induction n with
  | zero => intro x1 x2 x4 x5 x6 c_errors h; exact False.elim h
  | succ n hK63 =>
    intro x1 x2 x4 x5 x6 c_errors h
    unfold wp_X7_fits_b63 at h
    refine st_iload G 65 rfl 5 rfl dX7_fits_63 ?_
    refine st_if_le G 112 68 rfl dX7_fits_65 rfl (fun c => ?_) (fun c => ?_)
    · have h := h.1 c
      refine st_iload_n G 113 rfl 2 rfl dX7_fits_112 rfl ?_
      refine st_if_ne G 121 116 rfl dX7_fits_113 rfl (fun c => ?_) (fun c => ?_)
      · have h := h.1 c
        refine st_iload G 123 rfl 4 rfl dX7_fits_121 ?_
        refine st_iconst G 124 rfl (-1 : Int32) (by decide) dX7_fits_123 ?_
        refine st_icmp_ne G 135 127 rfl dX7_fits_124 rfl (fun c => ?_) (fun c => ?_)
        · have h := h.1 c
          refine st_iload G 137 rfl 4 rfl dX7_fits_135 ?_
          exact R _ _ _ _ dX7_fits_137 (Nat.le_of_ble_eq_true rfl) ⟨_, h, rfl⟩
        have h := h.2 c
        refine st_aload_n G 128 rfl 0 rfl dX7_fits_127 rfl ?_
        refine st_iconst G 129 rfl (2 : Int32) (by decide) dX7_fits_128 ?_
        refine st_cVi G lk_X7_65 (c_X7_error g.l g.D g.X q_t q_t_s q_t_k q_t_laid q_t_errors q_t_step q_t_named q_t_pile q_t_sums1 q_t_parts1 q_t_trace q_t_bits q_t_sizes q_t_number q_t_aside c_images c_at c_open c_steps c_use c_traced c_speaks c_isParted c_errors (2 : Int32) _ h) ⟨rfl, rfl, ⟨Nat.le_of_ble_eq_true rfl, Nat.le_of_ble_eq_true rfl⟩, Nat.zero_le _, Nat.zero_le _⟩ 132 rfl [0, 2] rfl (by decide) 0 7 rfl rfl rfl (Nat.le_of_ble_eq_true rfl) rfl dX7_fits_129 (fun r_129 w hq => ?_)
        obtain ⟨c_errors_129, h, rfl⟩ := hq
        refine st_wp (ws' := [(q_t, .inr (7, [.ref q_t_s, .ref q_t_k, .ref q_t_laid, .int c_images, .ref q_t_errors, .int c_at, .int c_open, .int c_steps, .int c_use, .ref q_t_step, .ref q_t_named, .ref q_t_pile, .ref q_t_sums1, .ref q_t_parts1, .int c_traced, .ref q_t_trace, .int c_speaks, .int c_isParted, .ref q_t_bits, .ref q_t_sizes, .ref q_t_number, .ref q_t_aside])), (q_t_s, .inl (g.X.cI, 476, .inl c_s)), (q_t_errors, .inl (g.X.cI, 7, .inl c_errors_129)), (q_t_bits, .inl (g.X.cI, 4, .inl c_bits)), (q_t_sizes, .inl (g.X.cI, 4, .inl c_sizes)), (q_t_number, .inl (g.X.cI, 96, .inl c_number))]) 6 [1, 3, 4, 5] (by decide) rfl rfl (by rfl) [(q_t_s, .inl (g.X.cI, 476, .inl c_s)), (q_t_bits, .inl (g.X.cI, 4, .inl c_bits)), (q_t_sizes, .inl (g.X.cI, 4, .inl c_sizes)), (q_t_number, .inl (g.X.cI, 96, .inl c_number))] (by rfl) rfl ?_
        refine st_goto G 137 dX7_fits_132 rfl ?_
        exact R _ _ _ _ dX7_fits_137 (Nat.le_of_ble_eq_true rfl) ⟨_, h, rfl⟩
      have h := h.2 c
      refine st_iload G 118 rfl 3 rfl dX7_fits_116 ?_
      refine st_goto G 137 dX7_fits_118 rfl ?_
      exact R _ _ _ _ dX7_fits_137 (Nat.le_of_ble_eq_true rfl) ⟨_, h, rfl⟩
    have h := h.2 c
    refine st_aload_n G 69 rfl 0 rfl dX7_fits_68 rfl ?_
    refine st_iload G 71 rfl 5 rfl dX7_fits_69 ?_
    refine st_iload_n G 72 rfl 1 rfl dX7_fits_71 rfl ?_
    refine st_cVio G lk_X7_234 (c_X7_haveSo g.l g.D g.X q_t q_t_s q_t_k q_t_laid q_t_errors q_t_step q_t_named q_t_pile q_t_sums1 q_t_parts1 q_t_trace q_t_bits q_t_sizes q_t_number q_t_aside c_images c_at c_open c_steps c_use c_traced c_speaks c_isParted c_s c_sizes c_number x6 x1 _ h) ⟨rfl, rfl, ⟨Nat.le_of_ble_eq_true rfl, Nat.le_of_ble_eq_true rfl⟩, Nat.zero_le _, Nat.zero_le _⟩ 75 rfl [0, 1, 4, 5] rfl (by decide) 0 7 rfl rfl rfl (Nat.le_of_ble_eq_true rfl) rfl dX7_fits_72 (fun r_72 h => ?_)
    refine st_istore G 77 rfl [(7, .int r_72), (0, .ref q_t), (1, .int x1), (2, .int x2), (4, .int x4), (5, .int x5), (6, .int x6)] dX7_fits_75 (by decide) rfl ?_
    refine st_iload G 79 rfl 4 rfl dX7_fits_77 ?_
    refine st_iload G 81 rfl 0 rfl dX7_fits_79 ?_
    refine st_if_eq G 88 84 rfl dX7_fits_81 rfl (fun c => ?_) (fun c => ?_)
    · have h := h.1 c
      refine st_iconst G 89 rfl (0 : Int32) (by decide) dX7_fits_88 ?_
      refine st_iadd G 90 rfl dX7_fits_89 ?_
      refine st_topi (fun x4_90 ex4_90 => ?_)
      have h := h x4_90 ex4_90
      refine st_istore G 92 rfl [(4, .int x4_90), (7, .int r_72), (0, .ref q_t), (1, .int x1), (2, .int x2), (5, .int x5), (6, .int x6)] dX7_fits_90 (by decide) rfl ?_
      refine st_iload G 94 rfl 1 rfl dX7_fits_92 ?_
      refine st_if_eq G 102 97 rfl dX7_fits_94 rfl (fun c => ?_) (fun c => ?_)
      · have h := h.1 c
        refine st_iload G 104 rfl 5 rfl dX7_fits_102 ?_
        refine st_istore G 106 rfl [(5, .int x5), (4, .int x4_90), (7, .int r_72), (0, .ref q_t), (1, .int x1), (2, .int x2), (6, .int x6)] dX7_fits_104 (by decide) rfl ?_
        obtain ⟨x6_106, ex6_106⟩ : ∃ y : Int32, y = (x6 + (-1 : Int32)) := ⟨_, rfl⟩
        have h := h x6_106 ex6_106
        refine st_iinc G 109 rfl [(6, .int x6_106), (5, .int x5), (4, .int x4_90), (7, .int r_72), (0, .ref q_t), (1, .int x1), (2, .int x2)] x6_106 6 rfl (by rw [ex6_106]; rfl) dX7_fits_106 (by decide) rfl ?_
        refine st_goto G 63 dX7_fits_109 rfl ?_
        refine st_L (L' := [(0, .ref q_t), (1, .int x1), (2, .int x2), (4, .int x4_90), (5, .int x5), (6, .int x6_106)]) [4, 5, 6, 2, 1, 0] rfl ?_
        exact hK63 _ _ _ _ _ _ h
      have h := h.2 c
      refine st_iload G 99 rfl 6 rfl dX7_fits_97 ?_
      refine st_goto G 104 dX7_fits_99 rfl ?_
      refine st_istore G 106 rfl [(5, .int x6), (4, .int x4_90), (7, .int r_72), (0, .ref q_t), (1, .int x1), (2, .int x2), (6, .int x6)] dX7_fits_104 (by decide) rfl ?_
      obtain ⟨x6_106, ex6_106⟩ : ∃ y : Int32, y = (x6 + (-1 : Int32)) := ⟨_, rfl⟩
      have h := h x6_106 ex6_106
      refine st_iinc G 109 rfl [(6, .int x6_106), (5, .int x6), (4, .int x4_90), (7, .int r_72), (0, .ref q_t), (1, .int x1), (2, .int x2)] x6_106 6 rfl (by rw [ex6_106]; rfl) dX7_fits_106 (by decide) rfl ?_
      refine st_goto G 63 dX7_fits_109 rfl ?_
      refine st_L (L' := [(0, .ref q_t), (1, .int x1), (2, .int x2), (4, .int x4_90), (5, .int x6), (6, .int x6_106)]) [4, 5, 6, 2, 1, 0] rfl ?_
      exact hK63 _ _ _ _ _ _ h
    have h := h.2 c
    refine st_iconst G 85 rfl (1 : Int32) (by decide) dX7_fits_84 ?_
    refine st_goto G 89 dX7_fits_85 rfl ?_
    refine st_iadd G 90 rfl dX7_fits_89 ?_
    refine st_topi (fun x4_90 ex4_90 => ?_)
    have h := h x4_90 ex4_90
    refine st_istore G 92 rfl [(4, .int x4_90), (7, .int r_72), (0, .ref q_t), (1, .int x1), (2, .int x2), (5, .int x5), (6, .int x6)] dX7_fits_90 (by decide) rfl ?_
    refine st_iload G 94 rfl 1 rfl dX7_fits_92 ?_
    refine st_if_eq G 102 97 rfl dX7_fits_94 rfl (fun c => ?_) (fun c => ?_)
    · have h := h.1 c
      refine st_iload G 104 rfl 5 rfl dX7_fits_102 ?_
      refine st_istore G 106 rfl [(5, .int x5), (4, .int x4_90), (7, .int r_72), (0, .ref q_t), (1, .int x1), (2, .int x2), (6, .int x6)] dX7_fits_104 (by decide) rfl ?_
      obtain ⟨x6_106, ex6_106⟩ : ∃ y : Int32, y = (x6 + (-1 : Int32)) := ⟨_, rfl⟩
      have h := h x6_106 ex6_106
      refine st_iinc G 109 rfl [(6, .int x6_106), (5, .int x5), (4, .int x4_90), (7, .int r_72), (0, .ref q_t), (1, .int x1), (2, .int x2)] x6_106 6 rfl (by rw [ex6_106]; rfl) dX7_fits_106 (by decide) rfl ?_
      refine st_goto G 63 dX7_fits_109 rfl ?_
      refine st_L (L' := [(0, .ref q_t), (1, .int x1), (2, .int x2), (4, .int x4_90), (5, .int x5), (6, .int x6_106)]) [4, 5, 6, 2, 1, 0] rfl ?_
      exact hK63 _ _ _ _ _ _ h
    have h := h.2 c
    refine st_iload G 99 rfl 6 rfl dX7_fits_97 ?_
    refine st_goto G 104 dX7_fits_99 rfl ?_
    refine st_istore G 106 rfl [(5, .int x6), (4, .int x4_90), (7, .int r_72), (0, .ref q_t), (1, .int x1), (2, .int x2), (6, .int x6)] dX7_fits_104 (by decide) rfl ?_
    obtain ⟨x6_106, ex6_106⟩ : ∃ y : Int32, y = (x6 + (-1 : Int32)) := ⟨_, rfl⟩
    have h := h x6_106 ex6_106
    refine st_iinc G 109 rfl [(6, .int x6_106), (5, .int x6), (4, .int x4_90), (7, .int r_72), (0, .ref q_t), (1, .int x1), (2, .int x2)] x6_106 6 rfl (by rw [ex6_106]; rfl) dX7_fits_106 (by decide) rfl ?_
    refine st_goto G 63 dX7_fits_109 rfl ?_
    refine st_L (L' := [(0, .ref q_t), (1, .int x1), (2, .int x2), (4, .int x4_90), (5, .int x6), (6, .int x6_106)]) [4, 5, 6, 2, 1, 0] rfl ?_
    exact hK63 _ _ _ _ _ _ h
set_option maxRecDepth 100000 in
set_option maxHeartbeats 4000000 in
theorem b_X7_fits_18 {g : GT} (G : GOOD g RX7 cX7_fits 8 rm_X7_fits) {q_t q_t_s q_t_k q_t_laid q_t_errors q_t_step q_t_named q_t_pile q_t_sums1 q_t_parts1 q_t_trace q_t_bits q_t_sizes q_t_number q_t_aside : Nat} {c_images : Int32} {c_at : Int32} {c_open : Int32} {c_steps : Int32} {c_use : Int32} {c_traced : Int32} {c_speaks : Int32} {c_isParted : Int32} {c_s : Nat → Int32} {c_bits : Nat → Int32} {c_sizes : Nat → Int32} {c_number : Nat → Int32} {Q : Int32 → (Nat → Int32) → Prop} (R : RETi g cX7_fits 6 (fun (r : Int32) w => ∃ (c_errors' : Nat → Int32), Q r c_errors' ∧ w = [(q_t, .inr (7, [.ref q_t_s, .ref q_t_k, .ref q_t_laid, .int c_images, .ref q_t_errors, .int c_at, .int c_open, .int c_steps, .int c_use, .ref q_t_step, .ref q_t_named, .ref q_t_pile, .ref q_t_sums1, .ref q_t_parts1, .int c_traced, .ref q_t_trace, .int c_speaks, .int c_isParted, .ref q_t_bits, .ref q_t_sizes, .ref q_t_number, .ref q_t_aside])), (q_t_s, .inl (g.X.cI, 476, .inl c_s)), (q_t_errors, .inl (g.X.cI, 7, .inl c_errors')), (q_t_bits, .inl (g.X.cI, 4, .inl c_bits)), (q_t_sizes, .inl (g.X.cI, 4, .inl c_sizes)), (q_t_number, .inl (g.X.cI, 96, .inl c_number))])) {x1 : Int32} {x2 : Int32} {s0 : Int32} {c_errors : Nat → Int32} (h : wp_X7_fits_b18 Q c_s c_bits c_sizes c_number x1 x2 s0 c_errors) : ST g 0 0 18 [(0, .ref q_t), (1, .int x1), (2, .int x2)] [.int s0] [(q_t, .inr (7, [.ref q_t_s, .ref q_t_k, .ref q_t_laid, .int c_images, .ref q_t_errors, .int c_at, .int c_open, .int c_steps, .int c_use, .ref q_t_step, .ref q_t_named, .ref q_t_pile, .ref q_t_sums1, .ref q_t_parts1, .int c_traced, .ref q_t_trace, .int c_speaks, .int c_isParted, .ref q_t_bits, .ref q_t_sizes, .ref q_t_number, .ref q_t_aside])), (q_t_s, .inl (g.X.cI, 476, .inl c_s)), (q_t_errors, .inl (g.X.cI, 7, .inl c_errors)), (q_t_bits, .inl (g.X.cI, 4, .inl c_bits)), (q_t_sizes, .inl (g.X.cI, 4, .inl c_sizes)), (q_t_number, .inl (g.X.cI, 96, .inl c_number))] := by
  unfold wp_X7_fits_b18 at h
  refine st_istore_n G 19 rfl [(3, .int s0), (0, .ref q_t), (1, .int x1), (2, .int x2)] dX7_fits_18 rfl (by decide) rfl ?_
  refine st_iload_n G 20 rfl 0 rfl dX7_fits_19 rfl ?_
  refine st_if_eq G 29 23 rfl dX7_fits_20 rfl (fun c => ?_) (fun c => ?_)
  · have h := h.1 c
    refine st_aload_n G 30 rfl 1 rfl dX7_fits_29 rfl ?_
    refine st_get G inX7 rfl 19 (by decide) wd_93 33 rfl 0 rfl rfl dX7_fits_30 ?_
    refine st_iload_n G 34 rfl 2 rfl dX7_fits_33 rfl ?_
    obtain ⟨hin, h⟩ := h
    refine st_iald G 35 rfl 4 rfl hin dX7_fits_34 ?_
    refine st_iconst G 36 rfl (5 : Int32) (by decide) dX7_fits_35 ?_
    refine st_icmp_le G 45 39 rfl dX7_fits_36 rfl (fun c => ?_) (fun c => ?_)
    · have h := h.1 c
      refine st_iconst G 46 rfl (0 : Int32) (by decide) dX7_fits_45 ?_
      refine st_istore G 48 rfl [(4, .int (0 : Int32)), (3, .int s0), (0, .ref q_t), (1, .int x1), (2, .int x2)] dX7_fits_46 (by decide) rfl ?_
      refine st_iconst G 49 rfl (-1 : Int32) (by decide) dX7_fits_48 ?_
      refine st_istore G 51 rfl [(5, .int (-1 : Int32)), (4, .int (0 : Int32)), (3, .int s0), (0, .ref q_t), (1, .int x1), (2, .int x2)] dX7_fits_49 (by decide) rfl ?_
      refine st_iconst G 52 rfl (1 : Int32) (by decide) dX7_fits_51 ?_
      refine st_aload_n G 53 rfl 3 rfl dX7_fits_52 rfl ?_
      refine st_get G inX7 rfl 0 (by decide) wd_82 56 rfl 0 rfl rfl dX7_fits_53 ?_
      refine st_iconst G 57 rfl (4 : Int32) (by decide) dX7_fits_56 ?_
      obtain ⟨hin, h⟩ := h
      refine st_iald G 58 rfl 1 rfl hin dX7_fits_57 ?_
      refine st_ishl G 59 rfl dX7_fits_58 ?_
      refine st_iconst G 60 rfl (1 : Int32) (by decide) dX7_fits_59 ?_
      refine st_isub G 61 rfl dX7_fits_60 ?_
      refine st_topi (fun x6_61 ex6_61 => ?_)
      have h := h x6_61 ex6_61
      refine st_istore G 63 rfl [(6, .int x6_61), (5, .int (-1 : Int32)), (4, .int (0 : Int32)), (3, .int s0), (0, .ref q_t), (1, .int x1), (2, .int x2)] dX7_fits_61 (by decide) rfl ?_
      refine st_L (L' := [(0, .ref q_t), (1, .int x1), (2, .int x2), (4, .int (0 : Int32)), (5, .int (-1 : Int32)), (6, .int x6_61)]) [4, 5, 6, 2, 1, 0] rfl ?_
      obtain ⟨n, h⟩ := h
      exact b_X7_fits_63 G R n _ _ _ _ _ _ h
    have h := h.2 c
    refine st_aload_n G 40 rfl 1 rfl dX7_fits_39 rfl ?_
    refine st_iconst G 41 rfl (2 : Int32) (by decide) dX7_fits_40 ?_
    refine st_cVi G lk_X7_65 (c_X7_error g.l g.D g.X q_t q_t_s q_t_k q_t_laid q_t_errors q_t_step q_t_named q_t_pile q_t_sums1 q_t_parts1 q_t_trace q_t_bits q_t_sizes q_t_number q_t_aside c_images c_at c_open c_steps c_use c_traced c_speaks c_isParted c_errors (2 : Int32) _ h) ⟨rfl, rfl, ⟨Nat.le_of_ble_eq_true rfl, Nat.le_of_ble_eq_true rfl⟩, Nat.zero_le _, Nat.zero_le _⟩ 44 rfl [0, 2] rfl (by decide) 0 7 rfl rfl rfl (Nat.le_of_ble_eq_true rfl) rfl dX7_fits_41 (fun r_41 w hq => ?_)
    obtain ⟨c_errors_41, h, rfl⟩ := hq
    refine st_wp (ws' := [(q_t, .inr (7, [.ref q_t_s, .ref q_t_k, .ref q_t_laid, .int c_images, .ref q_t_errors, .int c_at, .int c_open, .int c_steps, .int c_use, .ref q_t_step, .ref q_t_named, .ref q_t_pile, .ref q_t_sums1, .ref q_t_parts1, .int c_traced, .ref q_t_trace, .int c_speaks, .int c_isParted, .ref q_t_bits, .ref q_t_sizes, .ref q_t_number, .ref q_t_aside])), (q_t_s, .inl (g.X.cI, 476, .inl c_s)), (q_t_errors, .inl (g.X.cI, 7, .inl c_errors_41)), (q_t_bits, .inl (g.X.cI, 4, .inl c_bits)), (q_t_sizes, .inl (g.X.cI, 4, .inl c_sizes)), (q_t_number, .inl (g.X.cI, 96, .inl c_number))]) 6 [1, 3, 4, 5] (by decide) rfl rfl (by rfl) [(q_t_s, .inl (g.X.cI, 476, .inl c_s)), (q_t_bits, .inl (g.X.cI, 4, .inl c_bits)), (q_t_sizes, .inl (g.X.cI, 4, .inl c_sizes)), (q_t_number, .inl (g.X.cI, 96, .inl c_number))] (by rfl) rfl ?_
    exact R _ _ _ _ dX7_fits_44 (Nat.le_of_ble_eq_true rfl) ⟨_, h, rfl⟩
  have h := h.2 c
  refine st_aload_n G 24 rfl 1 rfl dX7_fits_23 rfl ?_
  refine st_iload_n G 25 rfl 0 rfl dX7_fits_24 rfl ?_
  refine st_cVi G lk_X7_65 (c_X7_error g.l g.D g.X q_t q_t_s q_t_k q_t_laid q_t_errors q_t_step q_t_named q_t_pile q_t_sums1 q_t_parts1 q_t_trace q_t_bits q_t_sizes q_t_number q_t_aside c_images c_at c_open c_steps c_use c_traced c_speaks c_isParted c_errors s0 _ h) ⟨rfl, rfl, ⟨Nat.le_of_ble_eq_true rfl, Nat.le_of_ble_eq_true rfl⟩, Nat.zero_le _, Nat.zero_le _⟩ 28 rfl [0, 2] rfl (by decide) 0 7 rfl rfl rfl (Nat.le_of_ble_eq_true rfl) rfl dX7_fits_25 (fun r_25 w hq => ?_)
  obtain ⟨c_errors_25, h, rfl⟩ := hq
  refine st_wp (ws' := [(q_t, .inr (7, [.ref q_t_s, .ref q_t_k, .ref q_t_laid, .int c_images, .ref q_t_errors, .int c_at, .int c_open, .int c_steps, .int c_use, .ref q_t_step, .ref q_t_named, .ref q_t_pile, .ref q_t_sums1, .ref q_t_parts1, .int c_traced, .ref q_t_trace, .int c_speaks, .int c_isParted, .ref q_t_bits, .ref q_t_sizes, .ref q_t_number, .ref q_t_aside])), (q_t_s, .inl (g.X.cI, 476, .inl c_s)), (q_t_errors, .inl (g.X.cI, 7, .inl c_errors_25)), (q_t_bits, .inl (g.X.cI, 4, .inl c_bits)), (q_t_sizes, .inl (g.X.cI, 4, .inl c_sizes)), (q_t_number, .inl (g.X.cI, 96, .inl c_number))]) 6 [1, 3, 4, 5] (by decide) rfl rfl (by rfl) [(q_t_s, .inl (g.X.cI, 476, .inl c_s)), (q_t_bits, .inl (g.X.cI, 4, .inl c_bits)), (q_t_sizes, .inl (g.X.cI, 4, .inl c_sizes)), (q_t_number, .inl (g.X.cI, 96, .inl c_number))] (by rfl) rfl ?_
  exact R _ _ _ _ dX7_fits_28 (Nat.le_of_ble_eq_true rfl) ⟨_, h, rfl⟩
set_option maxRecDepth 100000 in
set_option maxHeartbeats 4000000 in
theorem b_X7_fits_e {g : GT} (G : GOOD g RX7 cX7_fits 8 rm_X7_fits) {q_t q_t_s q_t_k q_t_laid q_t_errors q_t_step q_t_named q_t_pile q_t_sums1 q_t_parts1 q_t_trace q_t_bits q_t_sizes q_t_number q_t_aside : Nat} {c_images : Int32} {c_at : Int32} {c_open : Int32} {c_steps : Int32} {c_use : Int32} {c_traced : Int32} {c_speaks : Int32} {c_isParted : Int32} {c_s : Nat → Int32} {c_errors : Nat → Int32} {c_bits : Nat → Int32} {c_sizes : Nat → Int32} {c_number : Nat → Int32} {x1 : Int32} {x2 : Int32} {Q : Int32 → (Nat → Int32) → Prop} (R : RETi g cX7_fits 6 (fun (r : Int32) w => ∃ (c_errors' : Nat → Int32), Q r c_errors' ∧ w = [(q_t, .inr (7, [.ref q_t_s, .ref q_t_k, .ref q_t_laid, .int c_images, .ref q_t_errors, .int c_at, .int c_open, .int c_steps, .int c_use, .ref q_t_step, .ref q_t_named, .ref q_t_pile, .ref q_t_sums1, .ref q_t_parts1, .int c_traced, .ref q_t_trace, .int c_speaks, .int c_isParted, .ref q_t_bits, .ref q_t_sizes, .ref q_t_number, .ref q_t_aside])), (q_t_s, .inl (g.X.cI, 476, .inl c_s)), (q_t_errors, .inl (g.X.cI, 7, .inl c_errors')), (q_t_bits, .inl (g.X.cI, 4, .inl c_bits)), (q_t_sizes, .inl (g.X.cI, 4, .inl c_sizes)), (q_t_number, .inl (g.X.cI, 96, .inl c_number))])) (h : wp_X7_fits x1 x2 c_s c_errors c_bits c_sizes c_number Q) : ST g 0 0 0 [(0, .ref q_t), (1, .int x1), (2, .int x2)] [] [(q_t, .inr (7, [.ref q_t_s, .ref q_t_k, .ref q_t_laid, .int c_images, .ref q_t_errors, .int c_at, .int c_open, .int c_steps, .int c_use, .ref q_t_step, .ref q_t_named, .ref q_t_pile, .ref q_t_sums1, .ref q_t_parts1, .int c_traced, .ref q_t_trace, .int c_speaks, .int c_isParted, .ref q_t_bits, .ref q_t_sizes, .ref q_t_number, .ref q_t_aside])), (q_t_s, .inl (g.X.cI, 476, .inl c_s)), (q_t_errors, .inl (g.X.cI, 7, .inl c_errors)), (q_t_bits, .inl (g.X.cI, 4, .inl c_bits)), (q_t_sizes, .inl (g.X.cI, 4, .inl c_sizes)), (q_t_number, .inl (g.X.cI, 96, .inl c_number))] := by
  unfold wp_X7_fits at h
  refine st_iload_n G 1 rfl 2 rfl dX7_fits_0 rfl ?_
  refine st_iconst G 2 rfl (0 : Int32) (by decide) dX7_fits_1 ?_
  refine st_iconst G 3 rfl (1 : Int32) (by decide) dX7_fits_2 ?_
  refine st_cSio G lk_X7_53 (c_X7_in g.l g.D g.X x2 (0 : Int32) (1 : Int32) _ h) ⟨rfl, rfl, ⟨Nat.le_of_ble_eq_true rfl, Nat.le_of_ble_eq_true rfl⟩, Nat.zero_le _, Nat.zero_le _⟩ 6 rfl [] rfl (by decide) rfl (Nat.le_of_ble_eq_true rfl) rfl dX7_fits_3 (fun r_3 h => ?_)
  refine st_if_eq G 17 9 rfl dX7_fits_6 rfl (fun c => ?_) (fun c => ?_)
  · have h := h.1 c
    refine st_iconst G 18 rfl (1 : Int32) (by decide) dX7_fits_17 ?_
    exact b_X7_fits_18 G R h
  have h := h.2 c
  refine st_aload_n G 10 rfl 0 rfl dX7_fits_9 rfl ?_
  refine st_iload_n G 11 rfl 1 rfl dX7_fits_10 rfl ?_
  refine st_cVio G lk_X7_231 (c_X7_lacks g.l g.D g.X q_t q_t_s q_t_k q_t_laid q_t_errors q_t_step q_t_named q_t_pile q_t_sums1 q_t_parts1 q_t_trace q_t_bits q_t_sizes q_t_number q_t_aside c_images c_at c_open c_steps c_use c_traced c_speaks c_isParted c_bits x1 _ h) ⟨rfl, rfl, ⟨Nat.le_of_ble_eq_true rfl, Nat.le_of_ble_eq_true rfl⟩, Nat.zero_le _, Nat.zero_le _⟩ 14 rfl [0, 3] rfl (by decide) 0 7 rfl rfl rfl (Nat.le_of_ble_eq_true rfl) rfl dX7_fits_11 (fun r_11 h => ?_)
  refine st_goto G 18 dX7_fits_14 rfl ?_
  exact b_X7_fits_18 G R h
set_option maxRecDepth 100000 in
set_option maxHeartbeats 4000000 in
theorem c_X7_fits (l : Launch) (D : va_G) (X : XT) (q_t q_t_s q_t_k q_t_laid q_t_errors q_t_step q_t_named q_t_pile q_t_sums1 q_t_parts1 q_t_trace q_t_bits q_t_sizes q_t_number q_t_aside : Nat) (c_images : Int32) (c_at : Int32) (c_open : Int32) (c_steps : Int32) (c_use : Int32) (c_traced : Int32) (c_speaks : Int32) (c_isParted : Int32) (c_s : Nat → Int32) (c_errors : Nat → Int32) (c_bits : Nat → Int32) (c_sizes : Nat → Int32) (c_number : Nat → Int32) (x1 : Int32) (x2 : Int32) (Q : Int32 → (Nat → Int32) → Prop) (h : wp_X7_fits x1 x2 c_s c_errors c_bits c_sizes c_number Q) : CTi l D X yX7_fits cX7_fits 8 .int rm_X7_fits [.ref q_t, .int x1, .int x2] [(q_t, .inr (7, [.ref q_t_s, .ref q_t_k, .ref q_t_laid, .int c_images, .ref q_t_errors, .int c_at, .int c_open, .int c_steps, .int c_use, .ref q_t_step, .ref q_t_named, .ref q_t_pile, .ref q_t_sums1, .ref q_t_parts1, .int c_traced, .ref q_t_trace, .int c_speaks, .int c_isParted, .ref q_t_bits, .ref q_t_sizes, .ref q_t_number, .ref q_t_aside])), (q_t_s, .inl (X.cI, 476, .inl c_s)), (q_t_errors, .inl (X.cI, 7, .inl c_errors)), (q_t_bits, .inl (X.cI, 4, .inl c_bits)), (q_t_sizes, .inl (X.cI, 4, .inl c_sizes)), (q_t_number, .inl (X.cI, 96, .inl c_number))] (fun (r : Int32) w => ∃ (c_errors' : Nat → Int32), Q r c_errors' ∧ w = [(q_t, .inr (7, [.ref q_t_s, .ref q_t_k, .ref q_t_laid, .int c_images, .ref q_t_errors, .int c_at, .int c_open, .int c_steps, .int c_use, .ref q_t_step, .ref q_t_named, .ref q_t_pile, .ref q_t_sums1, .ref q_t_parts1, .int c_traced, .ref q_t_trace, .int c_speaks, .int c_isParted, .ref q_t_bits, .ref q_t_sizes, .ref q_t_number, .ref q_t_aside])), (q_t_s, .inl (X.cI, 476, .inl c_s)), (q_t_errors, .inl (X.cI, 7, .inl c_errors')), (q_t_bits, .inl (X.cI, 4, .inl c_bits)), (q_t_sizes, .inl (X.cI, 4, .inl c_sizes)), (q_t_number, .inl (X.cI, 96, .inl c_number))]) :=
  ct_i (by decide) (Nat.le_of_ble_eq_true rfl) (fun g hl hD hX G R => by subst hl; subst hD; subst hX; exact b_X7_fits_e G R h)
set_option maxRecDepth 100000 in
set_option maxHeartbeats 4000000 in
theorem b_X7_starts_e {g : GT} (G : GOOD g RX7 cX7_starts 2 rm_X7_starts) {q_t q_t_s q_t_k q_t_laid q_t_errors q_t_step q_t_named q_t_pile q_t_sums1 q_t_parts1 q_t_trace q_t_bits q_t_sizes q_t_number q_t_aside : Nat} {c_images : Int32} {c_at : Int32} {c_open : Int32} {c_steps : Int32} {c_use : Int32} {c_traced : Int32} {c_speaks : Int32} {c_isParted : Int32} {c_trace : Nat → Int32} {x1 : Int32} {Q : (Int32) → (Nat → Int32) → Prop} (R : RETv g cX7_starts 0 0 2 (fun w => ∃ (c_traced' : Int32) (c_trace' : Nat → Int32), Q c_traced' c_trace' ∧ w = [(q_t, .inr (7, [.ref q_t_s, .ref q_t_k, .ref q_t_laid, .int c_images, .ref q_t_errors, .int c_at, .int c_open, .int c_steps, .int c_use, .ref q_t_step, .ref q_t_named, .ref q_t_pile, .ref q_t_sums1, .ref q_t_parts1, .int c_traced', .ref q_t_trace, .int c_speaks, .int c_isParted, .ref q_t_bits, .ref q_t_sizes, .ref q_t_number, .ref q_t_aside])), (q_t_trace, .inl (g.X.cI, 30, .inl c_trace'))])) (h : wp_X7_starts x1 c_traced c_trace Q) : ST g 0 0 0 [(0, .ref q_t), (1, .int x1)] [] [(q_t, .inr (7, [.ref q_t_s, .ref q_t_k, .ref q_t_laid, .int c_images, .ref q_t_errors, .int c_at, .int c_open, .int c_steps, .int c_use, .ref q_t_step, .ref q_t_named, .ref q_t_pile, .ref q_t_sums1, .ref q_t_parts1, .int c_traced, .ref q_t_trace, .int c_speaks, .int c_isParted, .ref q_t_bits, .ref q_t_sizes, .ref q_t_number, .ref q_t_aside])), (q_t_trace, .inl (g.X.cI, 30, .inl c_trace))] := by
  unfold wp_X7_starts at h
  refine st_aload_n G 1 rfl 0 rfl dX7_starts_0 rfl ?_
  refine st_get G inX7 rfl 14 (by decide) wd_842 4 rfl 0 rfl rfl dX7_starts_1 ?_
  refine st_bipush G 6 rfl (30 : Int32) (by decide) dX7_starts_4 ?_
  refine st_icmp_ge G 29 9 rfl dX7_starts_6 rfl (fun c => ?_) (fun c => ?_)
  · have h := h.1 c
    exact R _ _ _ dX7_starts_29 (Nat.le_of_ble_eq_true rfl) ⟨_, _, h, rfl⟩
  have h := h.2 c
  refine st_aload_n G 10 rfl 0 rfl dX7_starts_9 rfl ?_
  refine st_get G inX7 rfl 15 (by decide) wd_91 13 rfl 0 rfl rfl dX7_starts_10 ?_
  refine st_aload_n G 14 rfl 0 rfl dX7_starts_13 rfl ?_
  refine st_get G inX7 rfl 14 (by decide) wd_842 17 rfl 0 rfl rfl dX7_starts_14 ?_
  refine st_iload_n G 18 rfl 1 rfl dX7_starts_17 rfl ?_
  obtain ⟨hin, h⟩ := h
  obtain ⟨c_trace_18, ec_trace_18⟩ : ∃ y : Nat → Int32, y = upd c_trace c_traced.toNatClampNeg x1 := ⟨_, rfl⟩
  have h := h c_trace_18 ec_trace_18
  refine st_iast G [(q_t, .inr (7, [.ref q_t_s, .ref q_t_k, .ref q_t_laid, .int c_images, .ref q_t_errors, .int c_at, .int c_open, .int c_steps, .int c_use, .ref q_t_step, .ref q_t_named, .ref q_t_pile, .ref q_t_sums1, .ref q_t_parts1, .int c_traced, .ref q_t_trace, .int c_speaks, .int c_isParted, .ref q_t_bits, .ref q_t_sizes, .ref q_t_number, .ref q_t_aside])), (q_t_trace, .inl (g.X.cI, 30, .inl c_trace_18))] 19 rfl 1 rfl hin (by subst ec_trace_18; rfl) dX7_starts_18 ?_
  refine st_aload_n G 20 rfl 0 rfl dX7_starts_19 rfl ?_
  refine st_dup G 21 rfl dX7_starts_20 rfl ?_
  refine st_get G inX7 rfl 14 (by decide) wd_842 24 rfl 0 rfl rfl dX7_starts_21 ?_
  refine st_iconst G 25 rfl (1 : Int32) (by decide) dX7_starts_24 ?_
  refine st_iadd G 26 rfl dX7_starts_25 ?_
  refine st_topi (fun c_traced_26 ec_traced_26 => ?_)
  have h := h c_traced_26 ec_traced_26
  refine st_put G inX7 tyX7 tyX7_ok nmX7 rfl 14 (by decide) wd_842 rfl [(q_t, .inr (7, [.ref q_t_s, .ref q_t_k, .ref q_t_laid, .int c_images, .ref q_t_errors, .int c_at, .int c_open, .int c_steps, .int c_use, .ref q_t_step, .ref q_t_named, .ref q_t_pile, .ref q_t_sums1, .ref q_t_parts1, .int c_traced_26, .ref q_t_trace, .int c_speaks, .int c_isParted, .ref q_t_bits, .ref q_t_sizes, .ref q_t_number, .ref q_t_aside])), (q_t_trace, .inl (g.X.cI, 30, .inl c_trace_18))] 29 rfl 0 rfl rfl rfl (Nat.le_of_ble_eq_true rfl) rfl dX7_starts_26 ?_
  exact R _ _ _ dX7_starts_29 (Nat.le_of_ble_eq_true rfl) ⟨_, _, h, rfl⟩
set_option maxRecDepth 100000 in
set_option maxHeartbeats 4000000 in
theorem c_X7_starts (l : Launch) (D : va_G) (X : XT) (q_t q_t_s q_t_k q_t_laid q_t_errors q_t_step q_t_named q_t_pile q_t_sums1 q_t_parts1 q_t_trace q_t_bits q_t_sizes q_t_number q_t_aside : Nat) (c_images : Int32) (c_at : Int32) (c_open : Int32) (c_steps : Int32) (c_use : Int32) (c_traced : Int32) (c_speaks : Int32) (c_isParted : Int32) (c_trace : Nat → Int32) (x1 : Int32) (Q : (Int32) → (Nat → Int32) → Prop) (h : wp_X7_starts x1 c_traced c_trace Q) : CTv l D X yX7_starts cX7_starts 2 rm_X7_starts 0 0 [.ref q_t, .int x1] [(q_t, .inr (7, [.ref q_t_s, .ref q_t_k, .ref q_t_laid, .int c_images, .ref q_t_errors, .int c_at, .int c_open, .int c_steps, .int c_use, .ref q_t_step, .ref q_t_named, .ref q_t_pile, .ref q_t_sums1, .ref q_t_parts1, .int c_traced, .ref q_t_trace, .int c_speaks, .int c_isParted, .ref q_t_bits, .ref q_t_sizes, .ref q_t_number, .ref q_t_aside])), (q_t_trace, .inl (X.cI, 30, .inl c_trace))] (fun w => ∃ (c_traced' : Int32) (c_trace' : Nat → Int32), Q c_traced' c_trace' ∧ w = [(q_t, .inr (7, [.ref q_t_s, .ref q_t_k, .ref q_t_laid, .int c_images, .ref q_t_errors, .int c_at, .int c_open, .int c_steps, .int c_use, .ref q_t_step, .ref q_t_named, .ref q_t_pile, .ref q_t_sums1, .ref q_t_parts1, .int c_traced', .ref q_t_trace, .int c_speaks, .int c_isParted, .ref q_t_bits, .ref q_t_sizes, .ref q_t_number, .ref q_t_aside])), (q_t_trace, .inl (X.cI, 30, .inl c_trace'))]) :=
  ct_v (by decide) (Nat.le_of_ble_eq_true rfl) (fun g hl hD hX G _ R => by subst hl; subst hD; subst hX; exact b_X7_starts_e G R h)
set_option maxRecDepth 100000 in
set_option maxHeartbeats 4000000 in
theorem b_X7_kindNow_e {g : GT} (G : GOOD g RX7 cX7_kindNow 1 rm_X7_kindNow) {q_t q_t_s q_t_k q_t_laid q_t_errors q_t_step q_t_named q_t_pile q_t_sums1 q_t_parts1 q_t_trace q_t_bits q_t_sizes q_t_number q_t_aside : Nat} {c_images : Int32} {c_at : Int32} {c_open : Int32} {c_steps : Int32} {c_use : Int32} {c_traced : Int32} {c_speaks : Int32} {c_isParted : Int32} {c_s : Nat → Int32} {Q : Int32 → Prop} (R : RETi g cX7_kindNow 2 (fun (r : Int32) w => (Q r) ∧ w = [(q_t, .inr (7, [.ref q_t_s, .ref q_t_k, .ref q_t_laid, .int c_images, .ref q_t_errors, .int c_at, .int c_open, .int c_steps, .int c_use, .ref q_t_step, .ref q_t_named, .ref q_t_pile, .ref q_t_sums1, .ref q_t_parts1, .int c_traced, .ref q_t_trace, .int c_speaks, .int c_isParted, .ref q_t_bits, .ref q_t_sizes, .ref q_t_number, .ref q_t_aside])), (q_t_s, .inl (g.X.cI, 476, .inl c_s))])) (h : wp_X7_kindNow c_speaks c_s Q) : ST g 0 0 0 [(0, .ref q_t)] [] [(q_t, .inr (7, [.ref q_t_s, .ref q_t_k, .ref q_t_laid, .int c_images, .ref q_t_errors, .int c_at, .int c_open, .int c_steps, .int c_use, .ref q_t_step, .ref q_t_named, .ref q_t_pile, .ref q_t_sums1, .ref q_t_parts1, .int c_traced, .ref q_t_trace, .int c_speaks, .int c_isParted, .ref q_t_bits, .ref q_t_sizes, .ref q_t_number, .ref q_t_aside])), (q_t_s, .inl (g.X.cI, 476, .inl c_s))] := by
  unfold wp_X7_kindNow at h
  refine st_aload_n G 1 rfl 0 rfl dX7_kindNow_0 rfl ?_
  refine st_aload_n G 2 rfl 0 rfl dX7_kindNow_1 rfl ?_
  refine st_get G inX7 rfl 16 (by decide) wd_843 5 rfl 0 rfl rfl dX7_kindNow_2 ?_
  refine st_iconst G 6 rfl (0 : Int32) (by decide) dX7_kindNow_5 ?_
  refine st_cVio G lk_X7_124 (c_X7_its g.l g.D g.X q_t q_t_s q_t_k q_t_laid q_t_errors q_t_step q_t_named q_t_pile q_t_sums1 q_t_parts1 q_t_trace q_t_bits q_t_sizes q_t_number q_t_aside c_images c_at c_open c_steps c_use c_traced c_speaks c_isParted c_s c_speaks (0 : Int32) _ h) ⟨rfl, rfl, ⟨Nat.le_of_ble_eq_true rfl, Nat.le_of_ble_eq_true rfl⟩, Nat.zero_le _, Nat.zero_le _⟩ 9 rfl [0, 1] rfl (by decide) 0 7 rfl rfl rfl (Nat.le_of_ble_eq_true rfl) rfl dX7_kindNow_6 (fun r_6 h => ?_)
  exact R _ _ _ _ dX7_kindNow_9 (Nat.le_of_ble_eq_true rfl) ⟨h, rfl⟩
set_option maxRecDepth 100000 in
set_option maxHeartbeats 4000000 in
theorem c_X7_kindNow (l : Launch) (D : va_G) (X : XT) (q_t q_t_s q_t_k q_t_laid q_t_errors q_t_step q_t_named q_t_pile q_t_sums1 q_t_parts1 q_t_trace q_t_bits q_t_sizes q_t_number q_t_aside : Nat) (c_images : Int32) (c_at : Int32) (c_open : Int32) (c_steps : Int32) (c_use : Int32) (c_traced : Int32) (c_speaks : Int32) (c_isParted : Int32) (c_s : Nat → Int32) (Q : Int32 → Prop) (h : wp_X7_kindNow c_speaks c_s Q) : CTi l D X yX7_kindNow cX7_kindNow 1 .int rm_X7_kindNow [.ref q_t] [(q_t, .inr (7, [.ref q_t_s, .ref q_t_k, .ref q_t_laid, .int c_images, .ref q_t_errors, .int c_at, .int c_open, .int c_steps, .int c_use, .ref q_t_step, .ref q_t_named, .ref q_t_pile, .ref q_t_sums1, .ref q_t_parts1, .int c_traced, .ref q_t_trace, .int c_speaks, .int c_isParted, .ref q_t_bits, .ref q_t_sizes, .ref q_t_number, .ref q_t_aside])), (q_t_s, .inl (X.cI, 476, .inl c_s))] (fun (r : Int32) w => (Q r) ∧ w = [(q_t, .inr (7, [.ref q_t_s, .ref q_t_k, .ref q_t_laid, .int c_images, .ref q_t_errors, .int c_at, .int c_open, .int c_steps, .int c_use, .ref q_t_step, .ref q_t_named, .ref q_t_pile, .ref q_t_sums1, .ref q_t_parts1, .int c_traced, .ref q_t_trace, .int c_speaks, .int c_isParted, .ref q_t_bits, .ref q_t_sizes, .ref q_t_number, .ref q_t_aside])), (q_t_s, .inl (X.cI, 476, .inl c_s))]) :=
  ct_i (by decide) (Nat.le_of_ble_eq_true rfl) (fun g hl hD hX G R => by subst hl; subst hD; subst hX; exact b_X7_kindNow_e G R h)
set_option maxRecDepth 100000 in
set_option maxHeartbeats 4000000 in
theorem b_X7_mNow_e {g : GT} (G : GOOD g RX7 cX7_mNow 1 rm_X7_mNow) {q_t q_t_s q_t_k q_t_laid q_t_errors q_t_step q_t_named q_t_pile q_t_sums1 q_t_parts1 q_t_trace q_t_bits q_t_sizes q_t_number q_t_aside : Nat} {c_images : Int32} {c_at : Int32} {c_open : Int32} {c_steps : Int32} {c_use : Int32} {c_traced : Int32} {c_speaks : Int32} {c_isParted : Int32} {c_s : Nat → Int32} {Q : Int32 → Prop} (R : RETi g cX7_mNow 2 (fun (r : Int32) w => (Q r) ∧ w = [(q_t, .inr (7, [.ref q_t_s, .ref q_t_k, .ref q_t_laid, .int c_images, .ref q_t_errors, .int c_at, .int c_open, .int c_steps, .int c_use, .ref q_t_step, .ref q_t_named, .ref q_t_pile, .ref q_t_sums1, .ref q_t_parts1, .int c_traced, .ref q_t_trace, .int c_speaks, .int c_isParted, .ref q_t_bits, .ref q_t_sizes, .ref q_t_number, .ref q_t_aside])), (q_t_s, .inl (g.X.cI, 476, .inl c_s))])) (h : wp_X7_mNow c_speaks c_s Q) : ST g 0 0 0 [(0, .ref q_t)] [] [(q_t, .inr (7, [.ref q_t_s, .ref q_t_k, .ref q_t_laid, .int c_images, .ref q_t_errors, .int c_at, .int c_open, .int c_steps, .int c_use, .ref q_t_step, .ref q_t_named, .ref q_t_pile, .ref q_t_sums1, .ref q_t_parts1, .int c_traced, .ref q_t_trace, .int c_speaks, .int c_isParted, .ref q_t_bits, .ref q_t_sizes, .ref q_t_number, .ref q_t_aside])), (q_t_s, .inl (g.X.cI, 476, .inl c_s))] := by
  unfold wp_X7_mNow at h
  refine st_aload_n G 1 rfl 0 rfl dX7_mNow_0 rfl ?_
  refine st_aload_n G 2 rfl 0 rfl dX7_mNow_1 rfl ?_
  refine st_get G inX7 rfl 16 (by decide) wd_843 5 rfl 0 rfl rfl dX7_mNow_2 ?_
  refine st_iconst G 6 rfl (1 : Int32) (by decide) dX7_mNow_5 ?_
  refine st_cVio G lk_X7_124 (c_X7_its g.l g.D g.X q_t q_t_s q_t_k q_t_laid q_t_errors q_t_step q_t_named q_t_pile q_t_sums1 q_t_parts1 q_t_trace q_t_bits q_t_sizes q_t_number q_t_aside c_images c_at c_open c_steps c_use c_traced c_speaks c_isParted c_s c_speaks (1 : Int32) _ h) ⟨rfl, rfl, ⟨Nat.le_of_ble_eq_true rfl, Nat.le_of_ble_eq_true rfl⟩, Nat.zero_le _, Nat.zero_le _⟩ 9 rfl [0, 1] rfl (by decide) 0 7 rfl rfl rfl (Nat.le_of_ble_eq_true rfl) rfl dX7_mNow_6 (fun r_6 h => ?_)
  exact R _ _ _ _ dX7_mNow_9 (Nat.le_of_ble_eq_true rfl) ⟨h, rfl⟩
set_option maxRecDepth 100000 in
set_option maxHeartbeats 4000000 in
theorem c_X7_mNow (l : Launch) (D : va_G) (X : XT) (q_t q_t_s q_t_k q_t_laid q_t_errors q_t_step q_t_named q_t_pile q_t_sums1 q_t_parts1 q_t_trace q_t_bits q_t_sizes q_t_number q_t_aside : Nat) (c_images : Int32) (c_at : Int32) (c_open : Int32) (c_steps : Int32) (c_use : Int32) (c_traced : Int32) (c_speaks : Int32) (c_isParted : Int32) (c_s : Nat → Int32) (Q : Int32 → Prop) (h : wp_X7_mNow c_speaks c_s Q) : CTi l D X yX7_mNow cX7_mNow 1 .int rm_X7_mNow [.ref q_t] [(q_t, .inr (7, [.ref q_t_s, .ref q_t_k, .ref q_t_laid, .int c_images, .ref q_t_errors, .int c_at, .int c_open, .int c_steps, .int c_use, .ref q_t_step, .ref q_t_named, .ref q_t_pile, .ref q_t_sums1, .ref q_t_parts1, .int c_traced, .ref q_t_trace, .int c_speaks, .int c_isParted, .ref q_t_bits, .ref q_t_sizes, .ref q_t_number, .ref q_t_aside])), (q_t_s, .inl (X.cI, 476, .inl c_s))] (fun (r : Int32) w => (Q r) ∧ w = [(q_t, .inr (7, [.ref q_t_s, .ref q_t_k, .ref q_t_laid, .int c_images, .ref q_t_errors, .int c_at, .int c_open, .int c_steps, .int c_use, .ref q_t_step, .ref q_t_named, .ref q_t_pile, .ref q_t_sums1, .ref q_t_parts1, .int c_traced, .ref q_t_trace, .int c_speaks, .int c_isParted, .ref q_t_bits, .ref q_t_sizes, .ref q_t_number, .ref q_t_aside])), (q_t_s, .inl (X.cI, 476, .inl c_s))]) :=
  ct_i (by decide) (Nat.le_of_ble_eq_true rfl) (fun g hl hD hX G R => by subst hl; subst hD; subst hX; exact b_X7_mNow_e G R h)
set_option maxRecDepth 100000 in
set_option maxHeartbeats 4000000 in
theorem b_X7_washesAs_e {g : GT} {d : Nat} {F_X7_washesAs : Int32 → Int32 → (Int32) → (Int32) → (Nat → Int32) → (Int32 → (Int32) → (Nat → Int32) → Prop) → Prop} (G : GOOD g RX7 cX7_washesAs 3 (rm_X7_washesAs (d + 1))) {q_t q_t_s q_t_k q_t_laid q_t_errors q_t_step q_t_named q_t_pile q_t_sums1 q_t_parts1 q_t_trace q_t_bits q_t_sizes q_t_number q_t_aside : Nat} {c_images : Int32} {c_at : Int32} {c_open : Int32} {c_steps : Int32} {c_use : Int32} {c_traced : Int32} {c_speaks : Int32} {c_isParted : Int32} {c_trace : Nat → Int32} {x1 : Int32} {x2 : Int32} {Q : Int32 → (Int32) → (Nat → Int32) → Prop} (R : RETi g cX7_washesAs 2 (fun (r : Int32) w => ∃ (c_traced' : Int32) (c_trace' : Nat → Int32), Q r c_traced' c_trace' ∧ w = [(q_t, .inr (7, [.ref q_t_s, .ref q_t_k, .ref q_t_laid, .int c_images, .ref q_t_errors, .int c_at, .int c_open, .int c_steps, .int c_use, .ref q_t_step, .ref q_t_named, .ref q_t_pile, .ref q_t_sums1, .ref q_t_parts1, .int c_traced', .ref q_t_trace, .int c_speaks, .int c_isParted, .ref q_t_bits, .ref q_t_sizes, .ref q_t_number, .ref q_t_aside])), (q_t_trace, .inl (g.X.cI, 30, .inl c_trace'))])) (hF_X7_washesAs : ∀ (q_t q_t_s q_t_k q_t_laid q_t_errors q_t_step q_t_named q_t_pile q_t_sums1 q_t_parts1 q_t_trace q_t_bits q_t_sizes q_t_number q_t_aside : Nat) (c_images : Int32) (c_at : Int32) (c_open : Int32) (c_steps : Int32) (c_use : Int32) (c_traced : Int32) (c_speaks : Int32) (c_isParted : Int32) (c_trace : Nat → Int32) (x1 : Int32) (x2 : Int32) (Q : Int32 → (Int32) → (Nat → Int32) → Prop), F_X7_washesAs x1 x2 c_traced c_speaks c_trace Q → CTi g.l g.D g.X yX7_washesAs cX7_washesAs 3 .int (rm_X7_washesAs d) [.ref q_t, .int x1, .int x2] [(q_t, .inr (7, [.ref q_t_s, .ref q_t_k, .ref q_t_laid, .int c_images, .ref q_t_errors, .int c_at, .int c_open, .int c_steps, .int c_use, .ref q_t_step, .ref q_t_named, .ref q_t_pile, .ref q_t_sums1, .ref q_t_parts1, .int c_traced, .ref q_t_trace, .int c_speaks, .int c_isParted, .ref q_t_bits, .ref q_t_sizes, .ref q_t_number, .ref q_t_aside])), (q_t_trace, .inl (g.X.cI, 30, .inl c_trace))] (fun (r : Int32) w => ∃ (c_traced' : Int32) (c_trace' : Nat → Int32), Q r c_traced' c_trace' ∧ w = [(q_t, .inr (7, [.ref q_t_s, .ref q_t_k, .ref q_t_laid, .int c_images, .ref q_t_errors, .int c_at, .int c_open, .int c_steps, .int c_use, .ref q_t_step, .ref q_t_named, .ref q_t_pile, .ref q_t_sums1, .ref q_t_parts1, .int c_traced', .ref q_t_trace, .int c_speaks, .int c_isParted, .ref q_t_bits, .ref q_t_sizes, .ref q_t_number, .ref q_t_aside])), (q_t_trace, .inl (g.X.cI, 30, .inl c_trace'))])) (h : ws_X7_washesAs F_X7_washesAs x1 x2 c_traced c_speaks c_trace Q) : ST g 0 0 0 [(0, .ref q_t), (1, .int x1), (2, .int x2)] [] [(q_t, .inr (7, [.ref q_t_s, .ref q_t_k, .ref q_t_laid, .int c_images, .ref q_t_errors, .int c_at, .int c_open, .int c_steps, .int c_use, .ref q_t_step, .ref q_t_named, .ref q_t_pile, .ref q_t_sums1, .ref q_t_parts1, .int c_traced, .ref q_t_trace, .int c_speaks, .int c_isParted, .ref q_t_bits, .ref q_t_sizes, .ref q_t_number, .ref q_t_aside])), (q_t_trace, .inl (g.X.cI, 30, .inl c_trace))] := by
  unfold ws_X7_washesAs at h
  refine st_iload_n G 1 rfl 1 rfl dX7_washesAs_0 rfl ?_
  by_cases c0 : x1 = (0 : Int32)
  · have h := h.1 c0
    refine st_tableIn G 44 (off := 43) dX7_washesAs_1 (by rw [c0]; decide) (by rw [c0]; decide) (by rw [c0]; rfl) rfl ?_
    refine st_aload_n G 45 rfl 0 rfl dX7_washesAs_44 rfl ?_
    refine st_bipush G 47 rfl (10 : Int32) (by decide) dX7_washesAs_45 ?_
    refine st_cVv G lk_X7_243 (c_X7_starts g.l g.D g.X q_t q_t_s q_t_k q_t_laid q_t_errors q_t_step q_t_named q_t_pile q_t_sums1 q_t_parts1 q_t_trace q_t_bits q_t_sizes q_t_number q_t_aside c_images c_at c_open c_steps c_use c_traced c_speaks c_isParted c_trace (10 : Int32) _ h) (rmk_X7_washesAs_X7_starts d) 50 rfl [0, 1] rfl (by decide) 0 7 rfl rfl rfl (Nat.le_of_ble_eq_true rfl) rfl dX7_washesAs_47 (fun w hq => ?_)
    obtain ⟨c_traced_47, c_trace_47, h, rfl⟩ := hq
    refine st_wp (ws' := [(q_t, .inr (7, [.ref q_t_s, .ref q_t_k, .ref q_t_laid, .int c_images, .ref q_t_errors, .int c_at, .int c_open, .int c_steps, .int c_use, .ref q_t_step, .ref q_t_named, .ref q_t_pile, .ref q_t_sums1, .ref q_t_parts1, .int c_traced_47, .ref q_t_trace, .int c_speaks, .int c_isParted, .ref q_t_bits, .ref q_t_sizes, .ref q_t_number, .ref q_t_aside])), (q_t_trace, .inl (g.X.cI, 30, .inl c_trace_47))]) 2 [] (by decide) rfl rfl (by rfl) [] (by rfl) rfl ?_
    refine st_iload_n G 51 rfl 2 rfl dX7_washesAs_50 rfl ?_
    refine st_aload_n G 52 rfl 0 rfl dX7_washesAs_51 rfl ?_
    refine st_get G inX7 rfl 16 (by decide) wd_843 55 rfl 0 rfl rfl dX7_washesAs_52 ?_
    refine st_iadd G 56 rfl dX7_washesAs_55 ?_
    exact R _ _ _ _ dX7_washesAs_56 (Nat.le_of_ble_eq_true rfl) ⟨_, _, h, rfl⟩
  by_cases c1 : x1 = (1 : Int32)
  · have h := h.2.1 c1
    refine st_tableIn G 57 (off := 56) dX7_washesAs_1 (by rw [c1]; decide) (by rw [c1]; decide) (by rw [c1]; rfl) rfl ?_
    refine st_aload_n G 58 rfl 0 rfl dX7_washesAs_57 rfl ?_
    refine st_bipush G 60 rfl (20 : Int32) (by decide) dX7_washesAs_58 ?_
    refine st_cVv G lk_X7_243 (c_X7_starts g.l g.D g.X q_t q_t_s q_t_k q_t_laid q_t_errors q_t_step q_t_named q_t_pile q_t_sums1 q_t_parts1 q_t_trace q_t_bits q_t_sizes q_t_number q_t_aside c_images c_at c_open c_steps c_use c_traced c_speaks c_isParted c_trace (20 : Int32) _ h) (rmk_X7_washesAs_X7_starts d) 63 rfl [0, 1] rfl (by decide) 0 7 rfl rfl rfl (Nat.le_of_ble_eq_true rfl) rfl dX7_washesAs_60 (fun w hq => ?_)
    obtain ⟨c_traced_60, c_trace_60, h, rfl⟩ := hq
    refine st_wp (ws' := [(q_t, .inr (7, [.ref q_t_s, .ref q_t_k, .ref q_t_laid, .int c_images, .ref q_t_errors, .int c_at, .int c_open, .int c_steps, .int c_use, .ref q_t_step, .ref q_t_named, .ref q_t_pile, .ref q_t_sums1, .ref q_t_parts1, .int c_traced_60, .ref q_t_trace, .int c_speaks, .int c_isParted, .ref q_t_bits, .ref q_t_sizes, .ref q_t_number, .ref q_t_aside])), (q_t_trace, .inl (g.X.cI, 30, .inl c_trace_60))]) 2 [] (by decide) rfl rfl (by rfl) [] (by rfl) rfl ?_
    refine st_aload_n G 64 rfl 0 rfl dX7_washesAs_63 rfl ?_
    refine st_iconst G 65 rfl (1 : Int32) (by decide) dX7_washesAs_64 ?_
    refine st_cSio G lk_X7_175 (c_X7_above g.l g.D g.X (1 : Int32) _ h) (rmk_X7_washesAs_X7_above d) 68 rfl [] rfl (by decide) rfl (Nat.le_of_ble_eq_true rfl) rfl dX7_washesAs_65 (fun r_65 h => ?_)
    refine st_iload_n G 69 rfl 2 rfl dX7_washesAs_68 rfl ?_
    refine st_cVi G lk_X7_247 (hF_X7_washesAs q_t q_t_s q_t_k q_t_laid q_t_errors q_t_step q_t_named q_t_pile q_t_sums1 q_t_parts1 q_t_trace q_t_bits q_t_sizes q_t_number q_t_aside c_images c_at c_open c_steps c_use c_traced_60 c_speaks c_isParted c_trace_60 r_65 x2 _ h) (rmk_X7_washesAs_rec d (by decide)) 72 rfl [0, 1] rfl (by decide) 0 7 rfl rfl rfl (Nat.le_of_ble_eq_true rfl) rfl dX7_washesAs_69 (fun r_69 w hq => ?_)
    obtain ⟨c_traced_69, c_trace_69, h, rfl⟩ := hq
    refine st_wp (ws' := [(q_t, .inr (7, [.ref q_t_s, .ref q_t_k, .ref q_t_laid, .int c_images, .ref q_t_errors, .int c_at, .int c_open, .int c_steps, .int c_use, .ref q_t_step, .ref q_t_named, .ref q_t_pile, .ref q_t_sums1, .ref q_t_parts1, .int c_traced_69, .ref q_t_trace, .int c_speaks, .int c_isParted, .ref q_t_bits, .ref q_t_sizes, .ref q_t_number, .ref q_t_aside])), (q_t_trace, .inl (g.X.cI, 30, .inl c_trace_69))]) 2 [] (by decide) rfl rfl (by rfl) [] (by rfl) rfl ?_
    refine st_iconst G 73 rfl (4 : Int32) (by decide) dX7_washesAs_72 ?_
    refine st_isub G 74 rfl dX7_washesAs_73 ?_
    exact R _ _ _ _ dX7_washesAs_74 (Nat.le_of_ble_eq_true rfl) ⟨_, _, h, rfl⟩
  by_cases c2 : x1 = (2 : Int32)
  · have h := h.2.2.1 c2
    refine st_tableIn G 102 (off := 101) dX7_washesAs_1 (by rw [c2]; decide) (by rw [c2]; decide) (by rw [c2]; rfl) rfl ?_
    refine st_aload_n G 103 rfl 0 rfl dX7_washesAs_102 rfl ?_
    refine st_iload_n G 104 rfl 1 rfl dX7_washesAs_103 rfl ?_
    refine st_cSio G lk_X7_175 (c_X7_above g.l g.D g.X x1 _ h) (rmk_X7_washesAs_X7_above d) 107 rfl [] rfl (by decide) rfl (Nat.le_of_ble_eq_true rfl) rfl dX7_washesAs_104 (fun r_104 h => ?_)
    refine st_iload_n G 108 rfl 2 rfl dX7_washesAs_107 rfl ?_
    refine st_cVi G lk_X7_247 (hF_X7_washesAs q_t q_t_s q_t_k q_t_laid q_t_errors q_t_step q_t_named q_t_pile q_t_sums1 q_t_parts1 q_t_trace q_t_bits q_t_sizes q_t_number q_t_aside c_images c_at c_open c_steps c_use c_traced c_speaks c_isParted c_trace r_104 x2 _ h) (rmk_X7_washesAs_rec d (by decide)) 111 rfl [0, 1] rfl (by decide) 0 7 rfl rfl rfl (Nat.le_of_ble_eq_true rfl) rfl dX7_washesAs_108 (fun r_108 w hq => ?_)
    obtain ⟨c_traced_108, c_trace_108, h, rfl⟩ := hq
    refine st_wp (ws' := [(q_t, .inr (7, [.ref q_t_s, .ref q_t_k, .ref q_t_laid, .int c_images, .ref q_t_errors, .int c_at, .int c_open, .int c_steps, .int c_use, .ref q_t_step, .ref q_t_named, .ref q_t_pile, .ref q_t_sums1, .ref q_t_parts1, .int c_traced_108, .ref q_t_trace, .int c_speaks, .int c_isParted, .ref q_t_bits, .ref q_t_sizes, .ref q_t_number, .ref q_t_aside])), (q_t_trace, .inl (g.X.cI, 30, .inl c_trace_108))]) 2 [] (by decide) rfl rfl (by rfl) [] (by rfl) rfl ?_
    exact R _ _ _ _ dX7_washesAs_111 (Nat.le_of_ble_eq_true rfl) ⟨_, _, h, rfl⟩
  by_cases c3 : x1 = (3 : Int32)
  · have h := h.2.2.2.1 c3
    refine st_tableIn G 102 (off := 101) dX7_washesAs_1 (by rw [c3]; decide) (by rw [c3]; decide) (by rw [c3]; rfl) rfl ?_
    refine st_aload_n G 103 rfl 0 rfl dX7_washesAs_102 rfl ?_
    refine st_iload_n G 104 rfl 1 rfl dX7_washesAs_103 rfl ?_
    refine st_cSio G lk_X7_175 (c_X7_above g.l g.D g.X x1 _ h) (rmk_X7_washesAs_X7_above d) 107 rfl [] rfl (by decide) rfl (Nat.le_of_ble_eq_true rfl) rfl dX7_washesAs_104 (fun r_104 h => ?_)
    refine st_iload_n G 108 rfl 2 rfl dX7_washesAs_107 rfl ?_
    refine st_cVi G lk_X7_247 (hF_X7_washesAs q_t q_t_s q_t_k q_t_laid q_t_errors q_t_step q_t_named q_t_pile q_t_sums1 q_t_parts1 q_t_trace q_t_bits q_t_sizes q_t_number q_t_aside c_images c_at c_open c_steps c_use c_traced c_speaks c_isParted c_trace r_104 x2 _ h) (rmk_X7_washesAs_rec d (by decide)) 111 rfl [0, 1] rfl (by decide) 0 7 rfl rfl rfl (Nat.le_of_ble_eq_true rfl) rfl dX7_washesAs_108 (fun r_108 w hq => ?_)
    obtain ⟨c_traced_108, c_trace_108, h, rfl⟩ := hq
    refine st_wp (ws' := [(q_t, .inr (7, [.ref q_t_s, .ref q_t_k, .ref q_t_laid, .int c_images, .ref q_t_errors, .int c_at, .int c_open, .int c_steps, .int c_use, .ref q_t_step, .ref q_t_named, .ref q_t_pile, .ref q_t_sums1, .ref q_t_parts1, .int c_traced_108, .ref q_t_trace, .int c_speaks, .int c_isParted, .ref q_t_bits, .ref q_t_sizes, .ref q_t_number, .ref q_t_aside])), (q_t_trace, .inl (g.X.cI, 30, .inl c_trace_108))]) 2 [] (by decide) rfl rfl (by rfl) [] (by rfl) rfl ?_
    exact R _ _ _ _ dX7_washesAs_111 (Nat.le_of_ble_eq_true rfl) ⟨_, _, h, rfl⟩
  by_cases c4 : x1 = (4 : Int32)
  · have h := h.2.2.2.2.1 c4
    refine st_tableIn G 75 (off := 74) dX7_washesAs_1 (by rw [c4]; decide) (by rw [c4]; decide) (by rw [c4]; rfl) rfl ?_
    refine st_aload_n G 76 rfl 0 rfl dX7_washesAs_75 rfl ?_
    refine st_bipush G 78 rfl (50 : Int32) (by decide) dX7_washesAs_76 ?_
    refine st_cVv G lk_X7_243 (c_X7_starts g.l g.D g.X q_t q_t_s q_t_k q_t_laid q_t_errors q_t_step q_t_named q_t_pile q_t_sums1 q_t_parts1 q_t_trace q_t_bits q_t_sizes q_t_number q_t_aside c_images c_at c_open c_steps c_use c_traced c_speaks c_isParted c_trace (50 : Int32) _ h) (rmk_X7_washesAs_X7_starts d) 81 rfl [0, 1] rfl (by decide) 0 7 rfl rfl rfl (Nat.le_of_ble_eq_true rfl) rfl dX7_washesAs_78 (fun w hq => ?_)
    obtain ⟨c_traced_78, c_trace_78, h, rfl⟩ := hq
    refine st_wp (ws' := [(q_t, .inr (7, [.ref q_t_s, .ref q_t_k, .ref q_t_laid, .int c_images, .ref q_t_errors, .int c_at, .int c_open, .int c_steps, .int c_use, .ref q_t_step, .ref q_t_named, .ref q_t_pile, .ref q_t_sums1, .ref q_t_parts1, .int c_traced_78, .ref q_t_trace, .int c_speaks, .int c_isParted, .ref q_t_bits, .ref q_t_sizes, .ref q_t_number, .ref q_t_aside])), (q_t_trace, .inl (g.X.cI, 30, .inl c_trace_78))]) 2 [] (by decide) rfl rfl (by rfl) [] (by rfl) rfl ?_
    refine st_aload_n G 82 rfl 0 rfl dX7_washesAs_81 rfl ?_
    refine st_iconst G 83 rfl (4 : Int32) (by decide) dX7_washesAs_82 ?_
    refine st_cSio G lk_X7_175 (c_X7_above g.l g.D g.X (4 : Int32) _ h) (rmk_X7_washesAs_X7_above d) 86 rfl [] rfl (by decide) rfl (Nat.le_of_ble_eq_true rfl) rfl dX7_washesAs_83 (fun r_83 h => ?_)
    refine st_iload_n G 87 rfl 2 rfl dX7_washesAs_86 rfl ?_
    refine st_cVi G lk_X7_247 (hF_X7_washesAs q_t q_t_s q_t_k q_t_laid q_t_errors q_t_step q_t_named q_t_pile q_t_sums1 q_t_parts1 q_t_trace q_t_bits q_t_sizes q_t_number q_t_aside c_images c_at c_open c_steps c_use c_traced_78 c_speaks c_isParted c_trace_78 r_83 x2 _ h) (rmk_X7_washesAs_rec d (by decide)) 90 rfl [0, 1] rfl (by decide) 0 7 rfl rfl rfl (Nat.le_of_ble_eq_true rfl) rfl dX7_washesAs_87 (fun r_87 w hq => ?_)
    obtain ⟨c_traced_87, c_trace_87, h, rfl⟩ := hq
    refine st_wp (ws' := [(q_t, .inr (7, [.ref q_t_s, .ref q_t_k, .ref q_t_laid, .int c_images, .ref q_t_errors, .int c_at, .int c_open, .int c_steps, .int c_use, .ref q_t_step, .ref q_t_named, .ref q_t_pile, .ref q_t_sums1, .ref q_t_parts1, .int c_traced_87, .ref q_t_trace, .int c_speaks, .int c_isParted, .ref q_t_bits, .ref q_t_sizes, .ref q_t_number, .ref q_t_aside])), (q_t_trace, .inl (g.X.cI, 30, .inl c_trace_87))]) 2 [] (by decide) rfl rfl (by rfl) [] (by rfl) rfl ?_
    refine st_iconst G 91 rfl (3 : Int32) (by decide) dX7_washesAs_90 ?_
    refine st_imul G 92 rfl dX7_washesAs_91 ?_
    exact R _ _ _ _ dX7_washesAs_92 (Nat.le_of_ble_eq_true rfl) ⟨_, _, h, rfl⟩
  by_cases c5 : x1 = (5 : Int32)
  · have h := h.2.2.2.2.2.1 c5
    refine st_tableIn G 102 (off := 101) dX7_washesAs_1 (by rw [c5]; decide) (by rw [c5]; decide) (by rw [c5]; rfl) rfl ?_
    refine st_aload_n G 103 rfl 0 rfl dX7_washesAs_102 rfl ?_
    refine st_iload_n G 104 rfl 1 rfl dX7_washesAs_103 rfl ?_
    refine st_cSio G lk_X7_175 (c_X7_above g.l g.D g.X x1 _ h) (rmk_X7_washesAs_X7_above d) 107 rfl [] rfl (by decide) rfl (Nat.le_of_ble_eq_true rfl) rfl dX7_washesAs_104 (fun r_104 h => ?_)
    refine st_iload_n G 108 rfl 2 rfl dX7_washesAs_107 rfl ?_
    refine st_cVi G lk_X7_247 (hF_X7_washesAs q_t q_t_s q_t_k q_t_laid q_t_errors q_t_step q_t_named q_t_pile q_t_sums1 q_t_parts1 q_t_trace q_t_bits q_t_sizes q_t_number q_t_aside c_images c_at c_open c_steps c_use c_traced c_speaks c_isParted c_trace r_104 x2 _ h) (rmk_X7_washesAs_rec d (by decide)) 111 rfl [0, 1] rfl (by decide) 0 7 rfl rfl rfl (Nat.le_of_ble_eq_true rfl) rfl dX7_washesAs_108 (fun r_108 w hq => ?_)
    obtain ⟨c_traced_108, c_trace_108, h, rfl⟩ := hq
    refine st_wp (ws' := [(q_t, .inr (7, [.ref q_t_s, .ref q_t_k, .ref q_t_laid, .int c_images, .ref q_t_errors, .int c_at, .int c_open, .int c_steps, .int c_use, .ref q_t_step, .ref q_t_named, .ref q_t_pile, .ref q_t_sums1, .ref q_t_parts1, .int c_traced_108, .ref q_t_trace, .int c_speaks, .int c_isParted, .ref q_t_bits, .ref q_t_sizes, .ref q_t_number, .ref q_t_aside])), (q_t_trace, .inl (g.X.cI, 30, .inl c_trace_108))]) 2 [] (by decide) rfl rfl (by rfl) [] (by rfl) rfl ?_
    exact R _ _ _ _ dX7_washesAs_111 (Nat.le_of_ble_eq_true rfl) ⟨_, _, h, rfl⟩
  by_cases c6 : x1 = (6 : Int32)
  · have h := h.2.2.2.2.2.2.1 c6
    refine st_tableIn G 93 (off := 92) dX7_washesAs_1 (by rw [c6]; decide) (by rw [c6]; decide) (by rw [c6]; rfl) rfl ?_
    refine st_aload_n G 94 rfl 0 rfl dX7_washesAs_93 rfl ?_
    refine st_bipush G 96 rfl (70 : Int32) (by decide) dX7_washesAs_94 ?_
    refine st_cVv G lk_X7_243 (c_X7_starts g.l g.D g.X q_t q_t_s q_t_k q_t_laid q_t_errors q_t_step q_t_named q_t_pile q_t_sums1 q_t_parts1 q_t_trace q_t_bits q_t_sizes q_t_number q_t_aside c_images c_at c_open c_steps c_use c_traced c_speaks c_isParted c_trace (70 : Int32) _ h) (rmk_X7_washesAs_X7_starts d) 99 rfl [0, 1] rfl (by decide) 0 7 rfl rfl rfl (Nat.le_of_ble_eq_true rfl) rfl dX7_washesAs_96 (fun w hq => ?_)
    obtain ⟨c_traced_96, c_trace_96, h, rfl⟩ := hq
    refine st_wp (ws' := [(q_t, .inr (7, [.ref q_t_s, .ref q_t_k, .ref q_t_laid, .int c_images, .ref q_t_errors, .int c_at, .int c_open, .int c_steps, .int c_use, .ref q_t_step, .ref q_t_named, .ref q_t_pile, .ref q_t_sums1, .ref q_t_parts1, .int c_traced_96, .ref q_t_trace, .int c_speaks, .int c_isParted, .ref q_t_bits, .ref q_t_sizes, .ref q_t_number, .ref q_t_aside])), (q_t_trace, .inl (g.X.cI, 30, .inl c_trace_96))]) 2 [] (by decide) rfl rfl (by rfl) [] (by rfl) rfl ?_
    refine st_bipush G 101 rfl (9 : Int32) (by decide) dX7_washesAs_99 ?_
    exact R _ _ _ _ dX7_washesAs_101 (Nat.le_of_ble_eq_true rfl) ⟨_, _, h, rfl⟩
  have h := h.2.2.2.2.2.2.2 c0 c1 c2 c3 c4 c5 c6
  refine st_tableOut G 102 dX7_washesAs_1 (by have w0 := ne_toInt (n := 0) c0; have w1 := ne_toInt (n := 1) c1; have w2 := ne_toInt (n := 2) c2; have w3 := ne_toInt (n := 3) c3; have w4 := ne_toInt (n := 4) c4; have w5 := ne_toInt (n := 5) c5; have w6 := ne_toInt (n := 6) c6; omega) rfl ?_
  refine st_aload_n G 103 rfl 0 rfl dX7_washesAs_102 rfl ?_
  refine st_iload_n G 104 rfl 1 rfl dX7_washesAs_103 rfl ?_
  refine st_cSio G lk_X7_175 (c_X7_above g.l g.D g.X x1 _ h) (rmk_X7_washesAs_X7_above d) 107 rfl [] rfl (by decide) rfl (Nat.le_of_ble_eq_true rfl) rfl dX7_washesAs_104 (fun r_104 h => ?_)
  refine st_iload_n G 108 rfl 2 rfl dX7_washesAs_107 rfl ?_
  refine st_cVi G lk_X7_247 (hF_X7_washesAs q_t q_t_s q_t_k q_t_laid q_t_errors q_t_step q_t_named q_t_pile q_t_sums1 q_t_parts1 q_t_trace q_t_bits q_t_sizes q_t_number q_t_aside c_images c_at c_open c_steps c_use c_traced c_speaks c_isParted c_trace r_104 x2 _ h) (rmk_X7_washesAs_rec d (by decide)) 111 rfl [0, 1] rfl (by decide) 0 7 rfl rfl rfl (Nat.le_of_ble_eq_true rfl) rfl dX7_washesAs_108 (fun r_108 w hq => ?_)
  obtain ⟨c_traced_108, c_trace_108, h, rfl⟩ := hq
  refine st_wp (ws' := [(q_t, .inr (7, [.ref q_t_s, .ref q_t_k, .ref q_t_laid, .int c_images, .ref q_t_errors, .int c_at, .int c_open, .int c_steps, .int c_use, .ref q_t_step, .ref q_t_named, .ref q_t_pile, .ref q_t_sums1, .ref q_t_parts1, .int c_traced_108, .ref q_t_trace, .int c_speaks, .int c_isParted, .ref q_t_bits, .ref q_t_sizes, .ref q_t_number, .ref q_t_aside])), (q_t_trace, .inl (g.X.cI, 30, .inl c_trace_108))]) 2 [] (by decide) rfl rfl (by rfl) [] (by rfl) rfl ?_
  exact R _ _ _ _ dX7_washesAs_111 (Nat.le_of_ble_eq_true rfl) ⟨_, _, h, rfl⟩
set_option maxRecDepth 100000 in
set_option maxHeartbeats 4000000 in
theorem cg_X7_washesAs (l : Launch) (D : va_G) (X : XT) : ∀ d : Nat, (∀ (q_t q_t_s q_t_k q_t_laid q_t_errors q_t_step q_t_named q_t_pile q_t_sums1 q_t_parts1 q_t_trace q_t_bits q_t_sizes q_t_number q_t_aside : Nat) (c_images : Int32) (c_at : Int32) (c_open : Int32) (c_steps : Int32) (c_use : Int32) (c_traced : Int32) (c_speaks : Int32) (c_isParted : Int32) (c_trace : Nat → Int32) (x1 : Int32) (x2 : Int32) (Q : Int32 → (Int32) → (Nat → Int32) → Prop), wp_X7_washesAs d x1 x2 c_traced c_speaks c_trace Q → CTi l D X yX7_washesAs cX7_washesAs 3 .int (rm_X7_washesAs d) [.ref q_t, .int x1, .int x2] [(q_t, .inr (7, [.ref q_t_s, .ref q_t_k, .ref q_t_laid, .int c_images, .ref q_t_errors, .int c_at, .int c_open, .int c_steps, .int c_use, .ref q_t_step, .ref q_t_named, .ref q_t_pile, .ref q_t_sums1, .ref q_t_parts1, .int c_traced, .ref q_t_trace, .int c_speaks, .int c_isParted, .ref q_t_bits, .ref q_t_sizes, .ref q_t_number, .ref q_t_aside])), (q_t_trace, .inl (X.cI, 30, .inl c_trace))] (fun (r : Int32) w => ∃ (c_traced' : Int32) (c_trace' : Nat → Int32), Q r c_traced' c_trace' ∧ w = [(q_t, .inr (7, [.ref q_t_s, .ref q_t_k, .ref q_t_laid, .int c_images, .ref q_t_errors, .int c_at, .int c_open, .int c_steps, .int c_use, .ref q_t_step, .ref q_t_named, .ref q_t_pile, .ref q_t_sums1, .ref q_t_parts1, .int c_traced', .ref q_t_trace, .int c_speaks, .int c_isParted, .ref q_t_bits, .ref q_t_sizes, .ref q_t_number, .ref q_t_aside])), (q_t_trace, .inl (X.cI, 30, .inl c_trace'))])) := by
  intro d
  induction d with
  | zero => (intros; rename_i h; exact False.elim h)
  | succ d ih =>
    · intro q_t q_t_s q_t_k q_t_laid q_t_errors q_t_step q_t_named q_t_pile q_t_sums1 q_t_parts1 q_t_trace q_t_bits q_t_sizes q_t_number q_t_aside c_images c_at c_open c_steps c_use c_traced c_speaks c_isParted c_trace x1 x2 Q h
      exact ct_i (by decide) (Nat.le_of_ble_eq_true rfl) (fun g hl hD hX G R => by subst hl; subst hD; subst hX; exact b_X7_washesAs_e G R ih h)
set_option maxRecDepth 100000 in
set_option maxHeartbeats 4000000 in
theorem c_X7_washesAs (d : Nat) (l : Launch) (D : va_G) (X : XT) (q_t q_t_s q_t_k q_t_laid q_t_errors q_t_step q_t_named q_t_pile q_t_sums1 q_t_parts1 q_t_trace q_t_bits q_t_sizes q_t_number q_t_aside : Nat) (c_images : Int32) (c_at : Int32) (c_open : Int32) (c_steps : Int32) (c_use : Int32) (c_traced : Int32) (c_speaks : Int32) (c_isParted : Int32) (c_trace : Nat → Int32) (x1 : Int32) (x2 : Int32) (Q : Int32 → (Int32) → (Nat → Int32) → Prop) (h : wp_X7_washesAs d x1 x2 c_traced c_speaks c_trace Q) : CTi l D X yX7_washesAs cX7_washesAs 3 .int (rm_X7_washesAs d) [.ref q_t, .int x1, .int x2] [(q_t, .inr (7, [.ref q_t_s, .ref q_t_k, .ref q_t_laid, .int c_images, .ref q_t_errors, .int c_at, .int c_open, .int c_steps, .int c_use, .ref q_t_step, .ref q_t_named, .ref q_t_pile, .ref q_t_sums1, .ref q_t_parts1, .int c_traced, .ref q_t_trace, .int c_speaks, .int c_isParted, .ref q_t_bits, .ref q_t_sizes, .ref q_t_number, .ref q_t_aside])), (q_t_trace, .inl (X.cI, 30, .inl c_trace))] (fun (r : Int32) w => ∃ (c_traced' : Int32) (c_trace' : Nat → Int32), Q r c_traced' c_trace' ∧ w = [(q_t, .inr (7, [.ref q_t_s, .ref q_t_k, .ref q_t_laid, .int c_images, .ref q_t_errors, .int c_at, .int c_open, .int c_steps, .int c_use, .ref q_t_step, .ref q_t_named, .ref q_t_pile, .ref q_t_sums1, .ref q_t_parts1, .int c_traced', .ref q_t_trace, .int c_speaks, .int c_isParted, .ref q_t_bits, .ref q_t_sizes, .ref q_t_number, .ref q_t_aside])), (q_t_trace, .inl (X.cI, 30, .inl c_trace'))]) :=
  (cg_X7_washesAs l D X d) q_t q_t_s q_t_k q_t_laid q_t_errors q_t_step q_t_named q_t_pile q_t_sums1 q_t_parts1 q_t_trace q_t_bits q_t_sizes q_t_number q_t_aside c_images c_at c_open c_steps c_use c_traced c_speaks c_isParted c_trace x1 x2 Q h
set_option maxRecDepth 100000 in
set_option maxHeartbeats 4000000 in
theorem b_X7_wringsAs_e {g : GT} {d : Nat} {F_X7_wringsAs : Int32 → Int32 → (Int32) → (Int32) → (Nat → Int32) → (Nat → Int32) → (Int32 → (Int32) → (Nat → Int32) → Prop) → Prop} (G : GOOD g RX7 cX7_wringsAs 3 (rm_X7_wringsAs (d + 1))) {q_t q_t_s q_t_k q_t_laid q_t_errors q_t_step q_t_named q_t_pile q_t_sums1 q_t_parts1 q_t_trace q_t_bits q_t_sizes q_t_number q_t_aside : Nat} {c_images : Int32} {c_at : Int32} {c_open : Int32} {c_steps : Int32} {c_use : Int32} {c_traced : Int32} {c_speaks : Int32} {c_isParted : Int32} {c_s : Nat → Int32} {c_trace : Nat → Int32} {x1 : Int32} {x2 : Int32} {Q : Int32 → (Int32) → (Nat → Int32) → Prop} (R : RETi g cX7_wringsAs 3 (fun (r : Int32) w => ∃ (c_traced' : Int32) (c_trace' : Nat → Int32), Q r c_traced' c_trace' ∧ w = [(q_t, .inr (7, [.ref q_t_s, .ref q_t_k, .ref q_t_laid, .int c_images, .ref q_t_errors, .int c_at, .int c_open, .int c_steps, .int c_use, .ref q_t_step, .ref q_t_named, .ref q_t_pile, .ref q_t_sums1, .ref q_t_parts1, .int c_traced', .ref q_t_trace, .int c_speaks, .int c_isParted, .ref q_t_bits, .ref q_t_sizes, .ref q_t_number, .ref q_t_aside])), (q_t_s, .inl (g.X.cI, 476, .inl c_s)), (q_t_trace, .inl (g.X.cI, 30, .inl c_trace'))])) (hF_X7_wringsAs : ∀ (q_t q_t_s q_t_k q_t_laid q_t_errors q_t_step q_t_named q_t_pile q_t_sums1 q_t_parts1 q_t_trace q_t_bits q_t_sizes q_t_number q_t_aside : Nat) (c_images : Int32) (c_at : Int32) (c_open : Int32) (c_steps : Int32) (c_use : Int32) (c_traced : Int32) (c_speaks : Int32) (c_isParted : Int32) (c_s : Nat → Int32) (c_trace : Nat → Int32) (x1 : Int32) (x2 : Int32) (Q : Int32 → (Int32) → (Nat → Int32) → Prop), F_X7_wringsAs x1 x2 c_traced c_speaks c_s c_trace Q → CTi g.l g.D g.X yX7_wringsAs cX7_wringsAs 3 .int (rm_X7_wringsAs d) [.ref q_t, .int x1, .int x2] [(q_t, .inr (7, [.ref q_t_s, .ref q_t_k, .ref q_t_laid, .int c_images, .ref q_t_errors, .int c_at, .int c_open, .int c_steps, .int c_use, .ref q_t_step, .ref q_t_named, .ref q_t_pile, .ref q_t_sums1, .ref q_t_parts1, .int c_traced, .ref q_t_trace, .int c_speaks, .int c_isParted, .ref q_t_bits, .ref q_t_sizes, .ref q_t_number, .ref q_t_aside])), (q_t_s, .inl (g.X.cI, 476, .inl c_s)), (q_t_trace, .inl (g.X.cI, 30, .inl c_trace))] (fun (r : Int32) w => ∃ (c_traced' : Int32) (c_trace' : Nat → Int32), Q r c_traced' c_trace' ∧ w = [(q_t, .inr (7, [.ref q_t_s, .ref q_t_k, .ref q_t_laid, .int c_images, .ref q_t_errors, .int c_at, .int c_open, .int c_steps, .int c_use, .ref q_t_step, .ref q_t_named, .ref q_t_pile, .ref q_t_sums1, .ref q_t_parts1, .int c_traced', .ref q_t_trace, .int c_speaks, .int c_isParted, .ref q_t_bits, .ref q_t_sizes, .ref q_t_number, .ref q_t_aside])), (q_t_s, .inl (g.X.cI, 476, .inl c_s)), (q_t_trace, .inl (g.X.cI, 30, .inl c_trace'))])) (h : ws_X7_wringsAs F_X7_wringsAs x1 x2 c_traced c_speaks c_s c_trace Q) : ST g 0 0 0 [(0, .ref q_t), (1, .int x1), (2, .int x2)] [] [(q_t, .inr (7, [.ref q_t_s, .ref q_t_k, .ref q_t_laid, .int c_images, .ref q_t_errors, .int c_at, .int c_open, .int c_steps, .int c_use, .ref q_t_step, .ref q_t_named, .ref q_t_pile, .ref q_t_sums1, .ref q_t_parts1, .int c_traced, .ref q_t_trace, .int c_speaks, .int c_isParted, .ref q_t_bits, .ref q_t_sizes, .ref q_t_number, .ref q_t_aside])), (q_t_s, .inl (g.X.cI, 476, .inl c_s)), (q_t_trace, .inl (g.X.cI, 30, .inl c_trace))] := by
  unfold ws_X7_wringsAs at h
  refine st_iload_n G 1 rfl 1 rfl dX7_wringsAs_0 rfl ?_
  by_cases c0 : x1 = (0 : Int32)
  · have h := h.1 c0
    refine st_tableIn G 44 (off := 43) dX7_wringsAs_1 (by rw [c0]; decide) (by rw [c0]; decide) (by rw [c0]; rfl) rfl ?_
    refine st_aload_n G 45 rfl 0 rfl dX7_wringsAs_44 rfl ?_
    refine st_bipush G 47 rfl (11 : Int32) (by decide) dX7_wringsAs_45 ?_
    refine st_cVv G lk_X7_243 (c_X7_starts g.l g.D g.X q_t q_t_s q_t_k q_t_laid q_t_errors q_t_step q_t_named q_t_pile q_t_sums1 q_t_parts1 q_t_trace q_t_bits q_t_sizes q_t_number q_t_aside c_images c_at c_open c_steps c_use c_traced c_speaks c_isParted c_trace (11 : Int32) _ h) (rmk_X7_wringsAs_X7_starts d) 50 rfl [0, 2] rfl (by decide) 0 7 rfl rfl rfl (Nat.le_of_ble_eq_true rfl) rfl dX7_wringsAs_47 (fun w hq => ?_)
    obtain ⟨c_traced_47, c_trace_47, h, rfl⟩ := hq
    refine st_wp (ws' := [(q_t, .inr (7, [.ref q_t_s, .ref q_t_k, .ref q_t_laid, .int c_images, .ref q_t_errors, .int c_at, .int c_open, .int c_steps, .int c_use, .ref q_t_step, .ref q_t_named, .ref q_t_pile, .ref q_t_sums1, .ref q_t_parts1, .int c_traced_47, .ref q_t_trace, .int c_speaks, .int c_isParted, .ref q_t_bits, .ref q_t_sizes, .ref q_t_number, .ref q_t_aside])), (q_t_s, .inl (g.X.cI, 476, .inl c_s)), (q_t_trace, .inl (g.X.cI, 30, .inl c_trace_47))]) 3 [1] (by decide) rfl rfl (by rfl) [(q_t_s, .inl (g.X.cI, 476, .inl c_s))] (by rfl) rfl ?_
    refine st_aload_n G 51 rfl 0 rfl dX7_wringsAs_50 rfl ?_
    refine st_aload_n G 52 rfl 0 rfl dX7_wringsAs_51 rfl ?_
    refine st_cVio G lk_X7_250 (c_X7_kindNow g.l g.D g.X q_t q_t_s q_t_k q_t_laid q_t_errors q_t_step q_t_named q_t_pile q_t_sums1 q_t_parts1 q_t_trace q_t_bits q_t_sizes q_t_number q_t_aside c_images c_at c_open c_steps c_use c_traced_47 c_speaks c_isParted c_s _ h) (rmk_X7_wringsAs_X7_kindNow d) 55 rfl [0, 1] rfl (by decide) 0 7 rfl rfl rfl (Nat.le_of_ble_eq_true rfl) rfl dX7_wringsAs_52 (fun r_52 h => ?_)
    refine st_iload_n G 56 rfl 2 rfl dX7_wringsAs_55 rfl ?_
    refine st_cVi G lk_X7_247 (c_X7_washesAs 64 g.l g.D g.X q_t q_t_s q_t_k q_t_laid q_t_errors q_t_step q_t_named q_t_pile q_t_sums1 q_t_parts1 q_t_trace q_t_bits q_t_sizes q_t_number q_t_aside c_images c_at c_open c_steps c_use c_traced_47 c_speaks c_isParted c_trace_47 r_52 x2 _ h) (rmk_X7_wringsAs_X7_washesAs d) 59 rfl [0, 2] rfl (by decide) 0 7 rfl rfl rfl (Nat.le_of_ble_eq_true rfl) rfl dX7_wringsAs_56 (fun r_56 w hq => ?_)
    obtain ⟨c_traced_56, c_trace_56, h, rfl⟩ := hq
    refine st_wp (ws' := [(q_t, .inr (7, [.ref q_t_s, .ref q_t_k, .ref q_t_laid, .int c_images, .ref q_t_errors, .int c_at, .int c_open, .int c_steps, .int c_use, .ref q_t_step, .ref q_t_named, .ref q_t_pile, .ref q_t_sums1, .ref q_t_parts1, .int c_traced_56, .ref q_t_trace, .int c_speaks, .int c_isParted, .ref q_t_bits, .ref q_t_sizes, .ref q_t_number, .ref q_t_aside])), (q_t_s, .inl (g.X.cI, 476, .inl c_s)), (q_t_trace, .inl (g.X.cI, 30, .inl c_trace_56))]) 3 [1] (by decide) rfl rfl (by rfl) [(q_t_s, .inl (g.X.cI, 476, .inl c_s))] (by rfl) rfl ?_
    refine st_iconst G 60 rfl (2 : Int32) (by decide) dX7_wringsAs_59 ?_
    refine st_imul G 61 rfl dX7_wringsAs_60 ?_
    exact R _ _ _ _ dX7_wringsAs_61 (Nat.le_of_ble_eq_true rfl) ⟨_, _, h, rfl⟩
  by_cases c1 : x1 = (1 : Int32)
  · have h := h.2.1 c1
    refine st_tableIn G 120 (off := 119) dX7_wringsAs_1 (by rw [c1]; decide) (by rw [c1]; decide) (by rw [c1]; rfl) rfl ?_
    refine st_aload_n G 121 rfl 0 rfl dX7_wringsAs_120 rfl ?_
    refine st_iload_n G 122 rfl 1 rfl dX7_wringsAs_121 rfl ?_
    refine st_cSio G lk_X7_175 (c_X7_above g.l g.D g.X x1 _ h) (rmk_X7_wringsAs_X7_above d) 125 rfl [] rfl (by decide) rfl (Nat.le_of_ble_eq_true rfl) rfl dX7_wringsAs_122 (fun r_122 h => ?_)
    refine st_iload_n G 126 rfl 2 rfl dX7_wringsAs_125 rfl ?_
    refine st_cVi G lk_X7_253 (hF_X7_wringsAs q_t q_t_s q_t_k q_t_laid q_t_errors q_t_step q_t_named q_t_pile q_t_sums1 q_t_parts1 q_t_trace q_t_bits q_t_sizes q_t_number q_t_aside c_images c_at c_open c_steps c_use c_traced c_speaks c_isParted c_s c_trace r_122 x2 _ h) (rmk_X7_wringsAs_rec d (by decide)) 129 rfl [0, 1, 2] rfl (by decide) 0 7 rfl rfl rfl (Nat.le_of_ble_eq_true rfl) rfl dX7_wringsAs_126 (fun r_126 w hq => ?_)
    obtain ⟨c_traced_126, c_trace_126, h, rfl⟩ := hq
    refine st_wp (ws' := [(q_t, .inr (7, [.ref q_t_s, .ref q_t_k, .ref q_t_laid, .int c_images, .ref q_t_errors, .int c_at, .int c_open, .int c_steps, .int c_use, .ref q_t_step, .ref q_t_named, .ref q_t_pile, .ref q_t_sums1, .ref q_t_parts1, .int c_traced_126, .ref q_t_trace, .int c_speaks, .int c_isParted, .ref q_t_bits, .ref q_t_sizes, .ref q_t_number, .ref q_t_aside])), (q_t_s, .inl (g.X.cI, 476, .inl c_s)), (q_t_trace, .inl (g.X.cI, 30, .inl c_trace_126))]) 3 [] (by decide) rfl rfl (by rfl) [] (by rfl) rfl ?_
    exact R _ _ _ _ dX7_wringsAs_129 (Nat.le_of_ble_eq_true rfl) ⟨_, _, h, rfl⟩
  by_cases c2 : x1 = (2 : Int32)
  · have h := h.2.2.1 c2
    refine st_tableIn G 62 (off := 61) dX7_wringsAs_1 (by rw [c2]; decide) (by rw [c2]; decide) (by rw [c2]; rfl) rfl ?_
    refine st_aload_n G 63 rfl 0 rfl dX7_wringsAs_62 rfl ?_
    refine st_bipush G 65 rfl (30 : Int32) (by decide) dX7_wringsAs_63 ?_
    refine st_cVv G lk_X7_243 (c_X7_starts g.l g.D g.X q_t q_t_s q_t_k q_t_laid q_t_errors q_t_step q_t_named q_t_pile q_t_sums1 q_t_parts1 q_t_trace q_t_bits q_t_sizes q_t_number q_t_aside c_images c_at c_open c_steps c_use c_traced c_speaks c_isParted c_trace (30 : Int32) _ h) (rmk_X7_wringsAs_X7_starts d) 68 rfl [0, 2] rfl (by decide) 0 7 rfl rfl rfl (Nat.le_of_ble_eq_true rfl) rfl dX7_wringsAs_65 (fun w hq => ?_)
    obtain ⟨c_traced_65, c_trace_65, h, rfl⟩ := hq
    refine st_wp (ws' := [(q_t, .inr (7, [.ref q_t_s, .ref q_t_k, .ref q_t_laid, .int c_images, .ref q_t_errors, .int c_at, .int c_open, .int c_steps, .int c_use, .ref q_t_step, .ref q_t_named, .ref q_t_pile, .ref q_t_sums1, .ref q_t_parts1, .int c_traced_65, .ref q_t_trace, .int c_speaks, .int c_isParted, .ref q_t_bits, .ref q_t_sizes, .ref q_t_number, .ref q_t_aside])), (q_t_s, .inl (g.X.cI, 476, .inl c_s)), (q_t_trace, .inl (g.X.cI, 30, .inl c_trace_65))]) 3 [1] (by decide) rfl rfl (by rfl) [(q_t_s, .inl (g.X.cI, 476, .inl c_s))] (by rfl) rfl ?_
    refine st_iconst G 69 rfl (0 : Int32) (by decide) dX7_wringsAs_68 ?_
    refine st_aload_n G 70 rfl 0 rfl dX7_wringsAs_69 rfl ?_
    refine st_iconst G 71 rfl (2 : Int32) (by decide) dX7_wringsAs_70 ?_
    refine st_cSio G lk_X7_175 (c_X7_above g.l g.D g.X (2 : Int32) _ h) (rmk_X7_wringsAs_X7_above d) 74 rfl [] rfl (by decide) rfl (Nat.le_of_ble_eq_true rfl) rfl dX7_wringsAs_71 (fun r_71 h => ?_)
    refine st_iload_n G 75 rfl 2 rfl dX7_wringsAs_74 rfl ?_
    refine st_cVi G lk_X7_253 (hF_X7_wringsAs q_t q_t_s q_t_k q_t_laid q_t_errors q_t_step q_t_named q_t_pile q_t_sums1 q_t_parts1 q_t_trace q_t_bits q_t_sizes q_t_number q_t_aside c_images c_at c_open c_steps c_use c_traced_65 c_speaks c_isParted c_s c_trace_65 r_71 x2 _ h) (rmk_X7_wringsAs_rec d (by decide)) 78 rfl [0, 1, 2] rfl (by decide) 0 7 rfl rfl rfl (Nat.le_of_ble_eq_true rfl) rfl dX7_wringsAs_75 (fun r_75 w hq => ?_)
    obtain ⟨c_traced_75, c_trace_75, h, rfl⟩ := hq
    refine st_wp (ws' := [(q_t, .inr (7, [.ref q_t_s, .ref q_t_k, .ref q_t_laid, .int c_images, .ref q_t_errors, .int c_at, .int c_open, .int c_steps, .int c_use, .ref q_t_step, .ref q_t_named, .ref q_t_pile, .ref q_t_sums1, .ref q_t_parts1, .int c_traced_75, .ref q_t_trace, .int c_speaks, .int c_isParted, .ref q_t_bits, .ref q_t_sizes, .ref q_t_number, .ref q_t_aside])), (q_t_s, .inl (g.X.cI, 476, .inl c_s)), (q_t_trace, .inl (g.X.cI, 30, .inl c_trace_75))]) 3 [] (by decide) rfl rfl (by rfl) [] (by rfl) rfl ?_
    refine st_isub G 79 rfl dX7_wringsAs_78 ?_
    exact R _ _ _ _ dX7_wringsAs_79 (Nat.le_of_ble_eq_true rfl) ⟨_, _, h, rfl⟩
  by_cases c3 : x1 = (3 : Int32)
  · have h := h.2.2.2.1 c3
    refine st_tableIn G 120 (off := 119) dX7_wringsAs_1 (by rw [c3]; decide) (by rw [c3]; decide) (by rw [c3]; rfl) rfl ?_
    refine st_aload_n G 121 rfl 0 rfl dX7_wringsAs_120 rfl ?_
    refine st_iload_n G 122 rfl 1 rfl dX7_wringsAs_121 rfl ?_
    refine st_cSio G lk_X7_175 (c_X7_above g.l g.D g.X x1 _ h) (rmk_X7_wringsAs_X7_above d) 125 rfl [] rfl (by decide) rfl (Nat.le_of_ble_eq_true rfl) rfl dX7_wringsAs_122 (fun r_122 h => ?_)
    refine st_iload_n G 126 rfl 2 rfl dX7_wringsAs_125 rfl ?_
    refine st_cVi G lk_X7_253 (hF_X7_wringsAs q_t q_t_s q_t_k q_t_laid q_t_errors q_t_step q_t_named q_t_pile q_t_sums1 q_t_parts1 q_t_trace q_t_bits q_t_sizes q_t_number q_t_aside c_images c_at c_open c_steps c_use c_traced c_speaks c_isParted c_s c_trace r_122 x2 _ h) (rmk_X7_wringsAs_rec d (by decide)) 129 rfl [0, 1, 2] rfl (by decide) 0 7 rfl rfl rfl (Nat.le_of_ble_eq_true rfl) rfl dX7_wringsAs_126 (fun r_126 w hq => ?_)
    obtain ⟨c_traced_126, c_trace_126, h, rfl⟩ := hq
    refine st_wp (ws' := [(q_t, .inr (7, [.ref q_t_s, .ref q_t_k, .ref q_t_laid, .int c_images, .ref q_t_errors, .int c_at, .int c_open, .int c_steps, .int c_use, .ref q_t_step, .ref q_t_named, .ref q_t_pile, .ref q_t_sums1, .ref q_t_parts1, .int c_traced_126, .ref q_t_trace, .int c_speaks, .int c_isParted, .ref q_t_bits, .ref q_t_sizes, .ref q_t_number, .ref q_t_aside])), (q_t_s, .inl (g.X.cI, 476, .inl c_s)), (q_t_trace, .inl (g.X.cI, 30, .inl c_trace_126))]) 3 [] (by decide) rfl rfl (by rfl) [] (by rfl) rfl ?_
    exact R _ _ _ _ dX7_wringsAs_129 (Nat.le_of_ble_eq_true rfl) ⟨_, _, h, rfl⟩
  by_cases c4 : x1 = (4 : Int32)
  · have h := h.2.2.2.2.1 c4
    refine st_tableIn G 120 (off := 119) dX7_wringsAs_1 (by rw [c4]; decide) (by rw [c4]; decide) (by rw [c4]; rfl) rfl ?_
    refine st_aload_n G 121 rfl 0 rfl dX7_wringsAs_120 rfl ?_
    refine st_iload_n G 122 rfl 1 rfl dX7_wringsAs_121 rfl ?_
    refine st_cSio G lk_X7_175 (c_X7_above g.l g.D g.X x1 _ h) (rmk_X7_wringsAs_X7_above d) 125 rfl [] rfl (by decide) rfl (Nat.le_of_ble_eq_true rfl) rfl dX7_wringsAs_122 (fun r_122 h => ?_)
    refine st_iload_n G 126 rfl 2 rfl dX7_wringsAs_125 rfl ?_
    refine st_cVi G lk_X7_253 (hF_X7_wringsAs q_t q_t_s q_t_k q_t_laid q_t_errors q_t_step q_t_named q_t_pile q_t_sums1 q_t_parts1 q_t_trace q_t_bits q_t_sizes q_t_number q_t_aside c_images c_at c_open c_steps c_use c_traced c_speaks c_isParted c_s c_trace r_122 x2 _ h) (rmk_X7_wringsAs_rec d (by decide)) 129 rfl [0, 1, 2] rfl (by decide) 0 7 rfl rfl rfl (Nat.le_of_ble_eq_true rfl) rfl dX7_wringsAs_126 (fun r_126 w hq => ?_)
    obtain ⟨c_traced_126, c_trace_126, h, rfl⟩ := hq
    refine st_wp (ws' := [(q_t, .inr (7, [.ref q_t_s, .ref q_t_k, .ref q_t_laid, .int c_images, .ref q_t_errors, .int c_at, .int c_open, .int c_steps, .int c_use, .ref q_t_step, .ref q_t_named, .ref q_t_pile, .ref q_t_sums1, .ref q_t_parts1, .int c_traced_126, .ref q_t_trace, .int c_speaks, .int c_isParted, .ref q_t_bits, .ref q_t_sizes, .ref q_t_number, .ref q_t_aside])), (q_t_s, .inl (g.X.cI, 476, .inl c_s)), (q_t_trace, .inl (g.X.cI, 30, .inl c_trace_126))]) 3 [] (by decide) rfl rfl (by rfl) [] (by rfl) rfl ?_
    exact R _ _ _ _ dX7_wringsAs_129 (Nat.le_of_ble_eq_true rfl) ⟨_, _, h, rfl⟩
  by_cases c5 : x1 = (5 : Int32)
  · have h := h.2.2.2.2.2.1 c5
    refine st_tableIn G 80 (off := 79) dX7_wringsAs_1 (by rw [c5]; decide) (by rw [c5]; decide) (by rw [c5]; rfl) rfl ?_
    refine st_aload_n G 81 rfl 0 rfl dX7_wringsAs_80 rfl ?_
    refine st_bipush G 83 rfl (60 : Int32) (by decide) dX7_wringsAs_81 ?_
    refine st_cVv G lk_X7_243 (c_X7_starts g.l g.D g.X q_t q_t_s q_t_k q_t_laid q_t_errors q_t_step q_t_named q_t_pile q_t_sums1 q_t_parts1 q_t_trace q_t_bits q_t_sizes q_t_number q_t_aside c_images c_at c_open c_steps c_use c_traced c_speaks c_isParted c_trace (60 : Int32) _ h) (rmk_X7_wringsAs_X7_starts d) 86 rfl [0, 2] rfl (by decide) 0 7 rfl rfl rfl (Nat.le_of_ble_eq_true rfl) rfl dX7_wringsAs_83 (fun w hq => ?_)
    obtain ⟨c_traced_83, c_trace_83, h, rfl⟩ := hq
    refine st_wp (ws' := [(q_t, .inr (7, [.ref q_t_s, .ref q_t_k, .ref q_t_laid, .int c_images, .ref q_t_errors, .int c_at, .int c_open, .int c_steps, .int c_use, .ref q_t_step, .ref q_t_named, .ref q_t_pile, .ref q_t_sums1, .ref q_t_parts1, .int c_traced_83, .ref q_t_trace, .int c_speaks, .int c_isParted, .ref q_t_bits, .ref q_t_sizes, .ref q_t_number, .ref q_t_aside])), (q_t_s, .inl (g.X.cI, 476, .inl c_s)), (q_t_trace, .inl (g.X.cI, 30, .inl c_trace_83))]) 3 [1] (by decide) rfl rfl (by rfl) [(q_t_s, .inl (g.X.cI, 476, .inl c_s))] (by rfl) rfl ?_
    refine st_aload_n G 87 rfl 0 rfl dX7_wringsAs_86 rfl ?_
    refine st_iconst G 88 rfl (5 : Int32) (by decide) dX7_wringsAs_87 ?_
    refine st_cSio G lk_X7_175 (c_X7_above g.l g.D g.X (5 : Int32) _ h) (rmk_X7_wringsAs_X7_above d) 91 rfl [] rfl (by decide) rfl (Nat.le_of_ble_eq_true rfl) rfl dX7_wringsAs_88 (fun r_88 h => ?_)
    refine st_iload_n G 92 rfl 2 rfl dX7_wringsAs_91 rfl ?_
    refine st_iconst G 93 rfl (1 : Int32) (by decide) dX7_wringsAs_92 ?_
    refine st_iadd G 94 rfl dX7_wringsAs_93 ?_
    refine st_cVi G lk_X7_253 (hF_X7_wringsAs q_t q_t_s q_t_k q_t_laid q_t_errors q_t_step q_t_named q_t_pile q_t_sums1 q_t_parts1 q_t_trace q_t_bits q_t_sizes q_t_number q_t_aside c_images c_at c_open c_steps c_use c_traced_83 c_speaks c_isParted c_s c_trace_83 r_88 (x2 + (1 : Int32)) _ h) (rmk_X7_wringsAs_rec d (by decide)) 97 rfl [0, 1, 2] rfl (by decide) 0 7 rfl rfl rfl (Nat.le_of_ble_eq_true rfl) rfl dX7_wringsAs_94 (fun r_94 w hq => ?_)
    obtain ⟨c_traced_94, c_trace_94, h, rfl⟩ := hq
    refine st_wp (ws' := [(q_t, .inr (7, [.ref q_t_s, .ref q_t_k, .ref q_t_laid, .int c_images, .ref q_t_errors, .int c_at, .int c_open, .int c_steps, .int c_use, .ref q_t_step, .ref q_t_named, .ref q_t_pile, .ref q_t_sums1, .ref q_t_parts1, .int c_traced_94, .ref q_t_trace, .int c_speaks, .int c_isParted, .ref q_t_bits, .ref q_t_sizes, .ref q_t_number, .ref q_t_aside])), (q_t_s, .inl (g.X.cI, 476, .inl c_s)), (q_t_trace, .inl (g.X.cI, 30, .inl c_trace_94))]) 3 [] (by decide) rfl rfl (by rfl) [] (by rfl) rfl ?_
    exact R _ _ _ _ dX7_wringsAs_97 (Nat.le_of_ble_eq_true rfl) ⟨_, _, h, rfl⟩
  by_cases c6 : x1 = (6 : Int32)
  · have h := h.2.2.2.2.2.2.1 c6
    refine st_tableIn G 98 (off := 97) dX7_wringsAs_1 (by rw [c6]; decide) (by rw [c6]; decide) (by rw [c6]; rfl) rfl ?_
    refine st_aload_n G 99 rfl 0 rfl dX7_wringsAs_98 rfl ?_
    refine st_bipush G 101 rfl (71 : Int32) (by decide) dX7_wringsAs_99 ?_
    refine st_cVv G lk_X7_243 (c_X7_starts g.l g.D g.X q_t q_t_s q_t_k q_t_laid q_t_errors q_t_step q_t_named q_t_pile q_t_sums1 q_t_parts1 q_t_trace q_t_bits q_t_sizes q_t_number q_t_aside c_images c_at c_open c_steps c_use c_traced c_speaks c_isParted c_trace (71 : Int32) _ h) (rmk_X7_wringsAs_X7_starts d) 104 rfl [0, 2] rfl (by decide) 0 7 rfl rfl rfl (Nat.le_of_ble_eq_true rfl) rfl dX7_wringsAs_101 (fun w hq => ?_)
    obtain ⟨c_traced_101, c_trace_101, h, rfl⟩ := hq
    refine st_wp (ws' := [(q_t, .inr (7, [.ref q_t_s, .ref q_t_k, .ref q_t_laid, .int c_images, .ref q_t_errors, .int c_at, .int c_open, .int c_steps, .int c_use, .ref q_t_step, .ref q_t_named, .ref q_t_pile, .ref q_t_sums1, .ref q_t_parts1, .int c_traced_101, .ref q_t_trace, .int c_speaks, .int c_isParted, .ref q_t_bits, .ref q_t_sizes, .ref q_t_number, .ref q_t_aside])), (q_t_s, .inl (g.X.cI, 476, .inl c_s)), (q_t_trace, .inl (g.X.cI, 30, .inl c_trace_101))]) 3 [1] (by decide) rfl rfl (by rfl) [(q_t_s, .inl (g.X.cI, 476, .inl c_s))] (by rfl) rfl ?_
    refine st_aload_n G 105 rfl 0 rfl dX7_wringsAs_104 rfl ?_
    refine st_bipush G 107 rfl (6 : Int32) (by decide) dX7_wringsAs_105 ?_
    refine st_cSio G lk_X7_175 (c_X7_above g.l g.D g.X (6 : Int32) _ h) (rmk_X7_wringsAs_X7_above d) 110 rfl [] rfl (by decide) rfl (Nat.le_of_ble_eq_true rfl) rfl dX7_wringsAs_107 (fun r_107 h => ?_)
    refine st_iload_n G 111 rfl 2 rfl dX7_wringsAs_110 rfl ?_
    refine st_cVi G lk_X7_253 (hF_X7_wringsAs q_t q_t_s q_t_k q_t_laid q_t_errors q_t_step q_t_named q_t_pile q_t_sums1 q_t_parts1 q_t_trace q_t_bits q_t_sizes q_t_number q_t_aside c_images c_at c_open c_steps c_use c_traced_101 c_speaks c_isParted c_s c_trace_101 r_107 x2 _ h) (rmk_X7_wringsAs_rec d (by decide)) 114 rfl [0, 1, 2] rfl (by decide) 0 7 rfl rfl rfl (Nat.le_of_ble_eq_true rfl) rfl dX7_wringsAs_111 (fun r_111 w hq => ?_)
    obtain ⟨c_traced_111, c_trace_111, h, rfl⟩ := hq
    refine st_wp (ws' := [(q_t, .inr (7, [.ref q_t_s, .ref q_t_k, .ref q_t_laid, .int c_images, .ref q_t_errors, .int c_at, .int c_open, .int c_steps, .int c_use, .ref q_t_step, .ref q_t_named, .ref q_t_pile, .ref q_t_sums1, .ref q_t_parts1, .int c_traced_111, .ref q_t_trace, .int c_speaks, .int c_isParted, .ref q_t_bits, .ref q_t_sizes, .ref q_t_number, .ref q_t_aside])), (q_t_s, .inl (g.X.cI, 476, .inl c_s)), (q_t_trace, .inl (g.X.cI, 30, .inl c_trace_111))]) 3 [] (by decide) rfl rfl (by rfl) [] (by rfl) rfl ?_
    refine st_aload_n G 115 rfl 0 rfl dX7_wringsAs_114 rfl ?_
    refine st_cVio G lk_X7_256 (c_X7_mNow g.l g.D g.X q_t q_t_s q_t_k q_t_laid q_t_errors q_t_step q_t_named q_t_pile q_t_sums1 q_t_parts1 q_t_trace q_t_bits q_t_sizes q_t_number q_t_aside c_images c_at c_open c_steps c_use c_traced_111 c_speaks c_isParted c_s _ h) (rmk_X7_wringsAs_X7_mNow d) 118 rfl [0, 1] rfl (by decide) 0 7 rfl rfl rfl (Nat.le_of_ble_eq_true rfl) rfl dX7_wringsAs_115 (fun r_115 h => ?_)
    refine st_iadd G 119 rfl dX7_wringsAs_118 ?_
    exact R _ _ _ _ dX7_wringsAs_119 (Nat.le_of_ble_eq_true rfl) ⟨_, _, h, rfl⟩
  have h := h.2.2.2.2.2.2.2 c0 c1 c2 c3 c4 c5 c6
  refine st_tableOut G 120 dX7_wringsAs_1 (by have w0 := ne_toInt (n := 0) c0; have w1 := ne_toInt (n := 1) c1; have w2 := ne_toInt (n := 2) c2; have w3 := ne_toInt (n := 3) c3; have w4 := ne_toInt (n := 4) c4; have w5 := ne_toInt (n := 5) c5; have w6 := ne_toInt (n := 6) c6; omega) rfl ?_
  refine st_aload_n G 121 rfl 0 rfl dX7_wringsAs_120 rfl ?_
  refine st_iload_n G 122 rfl 1 rfl dX7_wringsAs_121 rfl ?_
  refine st_cSio G lk_X7_175 (c_X7_above g.l g.D g.X x1 _ h) (rmk_X7_wringsAs_X7_above d) 125 rfl [] rfl (by decide) rfl (Nat.le_of_ble_eq_true rfl) rfl dX7_wringsAs_122 (fun r_122 h => ?_)
  refine st_iload_n G 126 rfl 2 rfl dX7_wringsAs_125 rfl ?_
  refine st_cVi G lk_X7_253 (hF_X7_wringsAs q_t q_t_s q_t_k q_t_laid q_t_errors q_t_step q_t_named q_t_pile q_t_sums1 q_t_parts1 q_t_trace q_t_bits q_t_sizes q_t_number q_t_aside c_images c_at c_open c_steps c_use c_traced c_speaks c_isParted c_s c_trace r_122 x2 _ h) (rmk_X7_wringsAs_rec d (by decide)) 129 rfl [0, 1, 2] rfl (by decide) 0 7 rfl rfl rfl (Nat.le_of_ble_eq_true rfl) rfl dX7_wringsAs_126 (fun r_126 w hq => ?_)
  obtain ⟨c_traced_126, c_trace_126, h, rfl⟩ := hq
  refine st_wp (ws' := [(q_t, .inr (7, [.ref q_t_s, .ref q_t_k, .ref q_t_laid, .int c_images, .ref q_t_errors, .int c_at, .int c_open, .int c_steps, .int c_use, .ref q_t_step, .ref q_t_named, .ref q_t_pile, .ref q_t_sums1, .ref q_t_parts1, .int c_traced_126, .ref q_t_trace, .int c_speaks, .int c_isParted, .ref q_t_bits, .ref q_t_sizes, .ref q_t_number, .ref q_t_aside])), (q_t_s, .inl (g.X.cI, 476, .inl c_s)), (q_t_trace, .inl (g.X.cI, 30, .inl c_trace_126))]) 3 [] (by decide) rfl rfl (by rfl) [] (by rfl) rfl ?_
  exact R _ _ _ _ dX7_wringsAs_129 (Nat.le_of_ble_eq_true rfl) ⟨_, _, h, rfl⟩
set_option maxRecDepth 100000 in
set_option maxHeartbeats 4000000 in
theorem cg_X7_wringsAs (l : Launch) (D : va_G) (X : XT) : ∀ d : Nat, (∀ (q_t q_t_s q_t_k q_t_laid q_t_errors q_t_step q_t_named q_t_pile q_t_sums1 q_t_parts1 q_t_trace q_t_bits q_t_sizes q_t_number q_t_aside : Nat) (c_images : Int32) (c_at : Int32) (c_open : Int32) (c_steps : Int32) (c_use : Int32) (c_traced : Int32) (c_speaks : Int32) (c_isParted : Int32) (c_s : Nat → Int32) (c_trace : Nat → Int32) (x1 : Int32) (x2 : Int32) (Q : Int32 → (Int32) → (Nat → Int32) → Prop), wp_X7_wringsAs d x1 x2 c_traced c_speaks c_s c_trace Q → CTi l D X yX7_wringsAs cX7_wringsAs 3 .int (rm_X7_wringsAs d) [.ref q_t, .int x1, .int x2] [(q_t, .inr (7, [.ref q_t_s, .ref q_t_k, .ref q_t_laid, .int c_images, .ref q_t_errors, .int c_at, .int c_open, .int c_steps, .int c_use, .ref q_t_step, .ref q_t_named, .ref q_t_pile, .ref q_t_sums1, .ref q_t_parts1, .int c_traced, .ref q_t_trace, .int c_speaks, .int c_isParted, .ref q_t_bits, .ref q_t_sizes, .ref q_t_number, .ref q_t_aside])), (q_t_s, .inl (X.cI, 476, .inl c_s)), (q_t_trace, .inl (X.cI, 30, .inl c_trace))] (fun (r : Int32) w => ∃ (c_traced' : Int32) (c_trace' : Nat → Int32), Q r c_traced' c_trace' ∧ w = [(q_t, .inr (7, [.ref q_t_s, .ref q_t_k, .ref q_t_laid, .int c_images, .ref q_t_errors, .int c_at, .int c_open, .int c_steps, .int c_use, .ref q_t_step, .ref q_t_named, .ref q_t_pile, .ref q_t_sums1, .ref q_t_parts1, .int c_traced', .ref q_t_trace, .int c_speaks, .int c_isParted, .ref q_t_bits, .ref q_t_sizes, .ref q_t_number, .ref q_t_aside])), (q_t_s, .inl (X.cI, 476, .inl c_s)), (q_t_trace, .inl (X.cI, 30, .inl c_trace'))])) := by
  intro d
  induction d with
  | zero => (intros; rename_i h; exact False.elim h)
  | succ d ih =>
    · intro q_t q_t_s q_t_k q_t_laid q_t_errors q_t_step q_t_named q_t_pile q_t_sums1 q_t_parts1 q_t_trace q_t_bits q_t_sizes q_t_number q_t_aside c_images c_at c_open c_steps c_use c_traced c_speaks c_isParted c_s c_trace x1 x2 Q h
      exact ct_i (by decide) (Nat.le_of_ble_eq_true rfl) (fun g hl hD hX G R => by subst hl; subst hD; subst hX; exact b_X7_wringsAs_e G R ih h)
set_option maxRecDepth 100000 in
set_option maxHeartbeats 4000000 in
theorem c_X7_wringsAs (d : Nat) (l : Launch) (D : va_G) (X : XT) (q_t q_t_s q_t_k q_t_laid q_t_errors q_t_step q_t_named q_t_pile q_t_sums1 q_t_parts1 q_t_trace q_t_bits q_t_sizes q_t_number q_t_aside : Nat) (c_images : Int32) (c_at : Int32) (c_open : Int32) (c_steps : Int32) (c_use : Int32) (c_traced : Int32) (c_speaks : Int32) (c_isParted : Int32) (c_s : Nat → Int32) (c_trace : Nat → Int32) (x1 : Int32) (x2 : Int32) (Q : Int32 → (Int32) → (Nat → Int32) → Prop) (h : wp_X7_wringsAs d x1 x2 c_traced c_speaks c_s c_trace Q) : CTi l D X yX7_wringsAs cX7_wringsAs 3 .int (rm_X7_wringsAs d) [.ref q_t, .int x1, .int x2] [(q_t, .inr (7, [.ref q_t_s, .ref q_t_k, .ref q_t_laid, .int c_images, .ref q_t_errors, .int c_at, .int c_open, .int c_steps, .int c_use, .ref q_t_step, .ref q_t_named, .ref q_t_pile, .ref q_t_sums1, .ref q_t_parts1, .int c_traced, .ref q_t_trace, .int c_speaks, .int c_isParted, .ref q_t_bits, .ref q_t_sizes, .ref q_t_number, .ref q_t_aside])), (q_t_s, .inl (X.cI, 476, .inl c_s)), (q_t_trace, .inl (X.cI, 30, .inl c_trace))] (fun (r : Int32) w => ∃ (c_traced' : Int32) (c_trace' : Nat → Int32), Q r c_traced' c_trace' ∧ w = [(q_t, .inr (7, [.ref q_t_s, .ref q_t_k, .ref q_t_laid, .int c_images, .ref q_t_errors, .int c_at, .int c_open, .int c_steps, .int c_use, .ref q_t_step, .ref q_t_named, .ref q_t_pile, .ref q_t_sums1, .ref q_t_parts1, .int c_traced', .ref q_t_trace, .int c_speaks, .int c_isParted, .ref q_t_bits, .ref q_t_sizes, .ref q_t_number, .ref q_t_aside])), (q_t_s, .inl (X.cI, 476, .inl c_s)), (q_t_trace, .inl (X.cI, 30, .inl c_trace'))]) :=
  (cg_X7_wringsAs l D X d) q_t q_t_s q_t_k q_t_laid q_t_errors q_t_step q_t_named q_t_pile q_t_sums1 q_t_parts1 q_t_trace q_t_bits q_t_sizes q_t_number q_t_aside c_images c_at c_open c_steps c_use c_traced c_speaks c_isParted c_s c_trace x1 x2 Q h
set_option maxRecDepth 100000 in
set_option maxHeartbeats 4000000 in
theorem b_X7_airsAs_e {g : GT} {d : Nat} {F_X7_airsAs : Int32 → Int32 → (Int32) → (Int32) → (Nat → Int32) → (Nat → Int32) → (Int32 → (Int32) → (Nat → Int32) → Prop) → Prop} (G : GOOD g RX7 cX7_airsAs 3 (rm_X7_airsAs (d + 1))) {q_t q_t_s q_t_k q_t_laid q_t_errors q_t_step q_t_named q_t_pile q_t_sums1 q_t_parts1 q_t_trace q_t_bits q_t_sizes q_t_number q_t_aside : Nat} {c_images : Int32} {c_at : Int32} {c_open : Int32} {c_steps : Int32} {c_use : Int32} {c_traced : Int32} {c_speaks : Int32} {c_isParted : Int32} {c_s : Nat → Int32} {c_trace : Nat → Int32} {x1 : Int32} {x2 : Int32} {Q : Int32 → (Int32) → (Nat → Int32) → Prop} (R : RETi g cX7_airsAs 3 (fun (r : Int32) w => ∃ (c_traced' : Int32) (c_trace' : Nat → Int32), Q r c_traced' c_trace' ∧ w = [(q_t, .inr (7, [.ref q_t_s, .ref q_t_k, .ref q_t_laid, .int c_images, .ref q_t_errors, .int c_at, .int c_open, .int c_steps, .int c_use, .ref q_t_step, .ref q_t_named, .ref q_t_pile, .ref q_t_sums1, .ref q_t_parts1, .int c_traced', .ref q_t_trace, .int c_speaks, .int c_isParted, .ref q_t_bits, .ref q_t_sizes, .ref q_t_number, .ref q_t_aside])), (q_t_s, .inl (g.X.cI, 476, .inl c_s)), (q_t_trace, .inl (g.X.cI, 30, .inl c_trace'))])) (hF_X7_airsAs : ∀ (q_t q_t_s q_t_k q_t_laid q_t_errors q_t_step q_t_named q_t_pile q_t_sums1 q_t_parts1 q_t_trace q_t_bits q_t_sizes q_t_number q_t_aside : Nat) (c_images : Int32) (c_at : Int32) (c_open : Int32) (c_steps : Int32) (c_use : Int32) (c_traced : Int32) (c_speaks : Int32) (c_isParted : Int32) (c_s : Nat → Int32) (c_trace : Nat → Int32) (x1 : Int32) (x2 : Int32) (Q : Int32 → (Int32) → (Nat → Int32) → Prop), F_X7_airsAs x1 x2 c_traced c_speaks c_s c_trace Q → CTi g.l g.D g.X yX7_airsAs cX7_airsAs 3 .int (rm_X7_airsAs d) [.ref q_t, .int x1, .int x2] [(q_t, .inr (7, [.ref q_t_s, .ref q_t_k, .ref q_t_laid, .int c_images, .ref q_t_errors, .int c_at, .int c_open, .int c_steps, .int c_use, .ref q_t_step, .ref q_t_named, .ref q_t_pile, .ref q_t_sums1, .ref q_t_parts1, .int c_traced, .ref q_t_trace, .int c_speaks, .int c_isParted, .ref q_t_bits, .ref q_t_sizes, .ref q_t_number, .ref q_t_aside])), (q_t_s, .inl (g.X.cI, 476, .inl c_s)), (q_t_trace, .inl (g.X.cI, 30, .inl c_trace))] (fun (r : Int32) w => ∃ (c_traced' : Int32) (c_trace' : Nat → Int32), Q r c_traced' c_trace' ∧ w = [(q_t, .inr (7, [.ref q_t_s, .ref q_t_k, .ref q_t_laid, .int c_images, .ref q_t_errors, .int c_at, .int c_open, .int c_steps, .int c_use, .ref q_t_step, .ref q_t_named, .ref q_t_pile, .ref q_t_sums1, .ref q_t_parts1, .int c_traced', .ref q_t_trace, .int c_speaks, .int c_isParted, .ref q_t_bits, .ref q_t_sizes, .ref q_t_number, .ref q_t_aside])), (q_t_s, .inl (g.X.cI, 476, .inl c_s)), (q_t_trace, .inl (g.X.cI, 30, .inl c_trace'))])) (h : ws_X7_airsAs F_X7_airsAs x1 x2 c_traced c_speaks c_s c_trace Q) : ST g 0 0 0 [(0, .ref q_t), (1, .int x1), (2, .int x2)] [] [(q_t, .inr (7, [.ref q_t_s, .ref q_t_k, .ref q_t_laid, .int c_images, .ref q_t_errors, .int c_at, .int c_open, .int c_steps, .int c_use, .ref q_t_step, .ref q_t_named, .ref q_t_pile, .ref q_t_sums1, .ref q_t_parts1, .int c_traced, .ref q_t_trace, .int c_speaks, .int c_isParted, .ref q_t_bits, .ref q_t_sizes, .ref q_t_number, .ref q_t_aside])), (q_t_s, .inl (g.X.cI, 476, .inl c_s)), (q_t_trace, .inl (g.X.cI, 30, .inl c_trace))] := by
  unfold ws_X7_airsAs at h
  refine st_iload_n G 1 rfl 1 rfl dX7_airsAs_0 rfl ?_
  by_cases c0 : x1 = (0 : Int32)
  · have h := h.1 c0
    refine st_tableIn G 36 (off := 35) dX7_airsAs_1 (by rw [c0]; decide) (by rw [c0]; decide) (by rw [c0]; rfl) rfl ?_
    refine st_aload_n G 37 rfl 0 rfl dX7_airsAs_36 rfl ?_
    refine st_bipush G 39 rfl (12 : Int32) (by decide) dX7_airsAs_37 ?_
    refine st_cVv G lk_X7_243 (c_X7_starts g.l g.D g.X q_t q_t_s q_t_k q_t_laid q_t_errors q_t_step q_t_named q_t_pile q_t_sums1 q_t_parts1 q_t_trace q_t_bits q_t_sizes q_t_number q_t_aside c_images c_at c_open c_steps c_use c_traced c_speaks c_isParted c_trace (12 : Int32) _ h) (rmk_X7_airsAs_X7_starts d) 42 rfl [0, 2] rfl (by decide) 0 7 rfl rfl rfl (Nat.le_of_ble_eq_true rfl) rfl dX7_airsAs_39 (fun w hq => ?_)
    obtain ⟨c_traced_39, c_trace_39, h, rfl⟩ := hq
    refine st_wp (ws' := [(q_t, .inr (7, [.ref q_t_s, .ref q_t_k, .ref q_t_laid, .int c_images, .ref q_t_errors, .int c_at, .int c_open, .int c_steps, .int c_use, .ref q_t_step, .ref q_t_named, .ref q_t_pile, .ref q_t_sums1, .ref q_t_parts1, .int c_traced_39, .ref q_t_trace, .int c_speaks, .int c_isParted, .ref q_t_bits, .ref q_t_sizes, .ref q_t_number, .ref q_t_aside])), (q_t_s, .inl (g.X.cI, 476, .inl c_s)), (q_t_trace, .inl (g.X.cI, 30, .inl c_trace_39))]) 3 [1] (by decide) rfl rfl (by rfl) [(q_t_s, .inl (g.X.cI, 476, .inl c_s))] (by rfl) rfl ?_
    refine st_aload_n G 43 rfl 0 rfl dX7_airsAs_42 rfl ?_
    refine st_aload_n G 44 rfl 0 rfl dX7_airsAs_43 rfl ?_
    refine st_cVio G lk_X7_250 (c_X7_kindNow g.l g.D g.X q_t q_t_s q_t_k q_t_laid q_t_errors q_t_step q_t_named q_t_pile q_t_sums1 q_t_parts1 q_t_trace q_t_bits q_t_sizes q_t_number q_t_aside c_images c_at c_open c_steps c_use c_traced_39 c_speaks c_isParted c_s _ h) (rmk_X7_airsAs_X7_kindNow d) 47 rfl [0, 1] rfl (by decide) 0 7 rfl rfl rfl (Nat.le_of_ble_eq_true rfl) rfl dX7_airsAs_44 (fun r_44 h => ?_)
    refine st_iload_n G 48 rfl 2 rfl dX7_airsAs_47 rfl ?_
    refine st_cVi G lk_X7_253 (c_X7_wringsAs 64 g.l g.D g.X q_t q_t_s q_t_k q_t_laid q_t_errors q_t_step q_t_named q_t_pile q_t_sums1 q_t_parts1 q_t_trace q_t_bits q_t_sizes q_t_number q_t_aside c_images c_at c_open c_steps c_use c_traced_39 c_speaks c_isParted c_s c_trace_39 r_44 x2 _ h) (rmk_X7_airsAs_X7_wringsAs d) 51 rfl [0, 1, 2] rfl (by decide) 0 7 rfl rfl rfl (Nat.le_of_ble_eq_true rfl) rfl dX7_airsAs_48 (fun r_48 w hq => ?_)
    obtain ⟨c_traced_48, c_trace_48, h, rfl⟩ := hq
    refine st_wp (ws' := [(q_t, .inr (7, [.ref q_t_s, .ref q_t_k, .ref q_t_laid, .int c_images, .ref q_t_errors, .int c_at, .int c_open, .int c_steps, .int c_use, .ref q_t_step, .ref q_t_named, .ref q_t_pile, .ref q_t_sums1, .ref q_t_parts1, .int c_traced_48, .ref q_t_trace, .int c_speaks, .int c_isParted, .ref q_t_bits, .ref q_t_sizes, .ref q_t_number, .ref q_t_aside])), (q_t_s, .inl (g.X.cI, 476, .inl c_s)), (q_t_trace, .inl (g.X.cI, 30, .inl c_trace_48))]) 3 [] (by decide) rfl rfl (by rfl) [] (by rfl) rfl ?_
    refine st_aload_n G 52 rfl 0 rfl dX7_airsAs_51 rfl ?_
    refine st_cVio G lk_X7_256 (c_X7_mNow g.l g.D g.X q_t q_t_s q_t_k q_t_laid q_t_errors q_t_step q_t_named q_t_pile q_t_sums1 q_t_parts1 q_t_trace q_t_bits q_t_sizes q_t_number q_t_aside c_images c_at c_open c_steps c_use c_traced_48 c_speaks c_isParted c_s _ h) (rmk_X7_airsAs_X7_mNow d) 55 rfl [0, 1] rfl (by decide) 0 7 rfl rfl rfl (Nat.le_of_ble_eq_true rfl) rfl dX7_airsAs_52 (fun r_52 h => ?_)
    refine st_isub G 56 rfl dX7_airsAs_55 ?_
    exact R _ _ _ _ dX7_airsAs_56 (Nat.le_of_ble_eq_true rfl) ⟨_, _, h, rfl⟩
  by_cases c1 : x1 = (1 : Int32)
  · have h := h.2.1 c1
    refine st_tableIn G 96 (off := 95) dX7_airsAs_1 (by rw [c1]; decide) (by rw [c1]; decide) (by rw [c1]; rfl) rfl ?_
    refine st_aload_n G 97 rfl 0 rfl dX7_airsAs_96 rfl ?_
    refine st_iload_n G 98 rfl 1 rfl dX7_airsAs_97 rfl ?_
    refine st_cSio G lk_X7_175 (c_X7_above g.l g.D g.X x1 _ h) (rmk_X7_airsAs_X7_above d) 101 rfl [] rfl (by decide) rfl (Nat.le_of_ble_eq_true rfl) rfl dX7_airsAs_98 (fun r_98 h => ?_)
    refine st_iload_n G 102 rfl 2 rfl dX7_airsAs_101 rfl ?_
    refine st_cVi G lk_X7_259 (hF_X7_airsAs q_t q_t_s q_t_k q_t_laid q_t_errors q_t_step q_t_named q_t_pile q_t_sums1 q_t_parts1 q_t_trace q_t_bits q_t_sizes q_t_number q_t_aside c_images c_at c_open c_steps c_use c_traced c_speaks c_isParted c_s c_trace r_98 x2 _ h) (rmk_X7_airsAs_rec d (by decide)) 105 rfl [0, 1, 2] rfl (by decide) 0 7 rfl rfl rfl (Nat.le_of_ble_eq_true rfl) rfl dX7_airsAs_102 (fun r_102 w hq => ?_)
    obtain ⟨c_traced_102, c_trace_102, h, rfl⟩ := hq
    refine st_wp (ws' := [(q_t, .inr (7, [.ref q_t_s, .ref q_t_k, .ref q_t_laid, .int c_images, .ref q_t_errors, .int c_at, .int c_open, .int c_steps, .int c_use, .ref q_t_step, .ref q_t_named, .ref q_t_pile, .ref q_t_sums1, .ref q_t_parts1, .int c_traced_102, .ref q_t_trace, .int c_speaks, .int c_isParted, .ref q_t_bits, .ref q_t_sizes, .ref q_t_number, .ref q_t_aside])), (q_t_s, .inl (g.X.cI, 476, .inl c_s)), (q_t_trace, .inl (g.X.cI, 30, .inl c_trace_102))]) 3 [] (by decide) rfl rfl (by rfl) [] (by rfl) rfl ?_
    exact R _ _ _ _ dX7_airsAs_105 (Nat.le_of_ble_eq_true rfl) ⟨_, _, h, rfl⟩
  by_cases c2 : x1 = (2 : Int32)
  · have h := h.2.2.1 c2
    refine st_tableIn G 96 (off := 95) dX7_airsAs_1 (by rw [c2]; decide) (by rw [c2]; decide) (by rw [c2]; rfl) rfl ?_
    refine st_aload_n G 97 rfl 0 rfl dX7_airsAs_96 rfl ?_
    refine st_iload_n G 98 rfl 1 rfl dX7_airsAs_97 rfl ?_
    refine st_cSio G lk_X7_175 (c_X7_above g.l g.D g.X x1 _ h) (rmk_X7_airsAs_X7_above d) 101 rfl [] rfl (by decide) rfl (Nat.le_of_ble_eq_true rfl) rfl dX7_airsAs_98 (fun r_98 h => ?_)
    refine st_iload_n G 102 rfl 2 rfl dX7_airsAs_101 rfl ?_
    refine st_cVi G lk_X7_259 (hF_X7_airsAs q_t q_t_s q_t_k q_t_laid q_t_errors q_t_step q_t_named q_t_pile q_t_sums1 q_t_parts1 q_t_trace q_t_bits q_t_sizes q_t_number q_t_aside c_images c_at c_open c_steps c_use c_traced c_speaks c_isParted c_s c_trace r_98 x2 _ h) (rmk_X7_airsAs_rec d (by decide)) 105 rfl [0, 1, 2] rfl (by decide) 0 7 rfl rfl rfl (Nat.le_of_ble_eq_true rfl) rfl dX7_airsAs_102 (fun r_102 w hq => ?_)
    obtain ⟨c_traced_102, c_trace_102, h, rfl⟩ := hq
    refine st_wp (ws' := [(q_t, .inr (7, [.ref q_t_s, .ref q_t_k, .ref q_t_laid, .int c_images, .ref q_t_errors, .int c_at, .int c_open, .int c_steps, .int c_use, .ref q_t_step, .ref q_t_named, .ref q_t_pile, .ref q_t_sums1, .ref q_t_parts1, .int c_traced_102, .ref q_t_trace, .int c_speaks, .int c_isParted, .ref q_t_bits, .ref q_t_sizes, .ref q_t_number, .ref q_t_aside])), (q_t_s, .inl (g.X.cI, 476, .inl c_s)), (q_t_trace, .inl (g.X.cI, 30, .inl c_trace_102))]) 3 [] (by decide) rfl rfl (by rfl) [] (by rfl) rfl ?_
    exact R _ _ _ _ dX7_airsAs_105 (Nat.le_of_ble_eq_true rfl) ⟨_, _, h, rfl⟩
  by_cases c3 : x1 = (3 : Int32)
  · have h := h.2.2.2.1 c3
    refine st_tableIn G 57 (off := 56) dX7_airsAs_1 (by rw [c3]; decide) (by rw [c3]; decide) (by rw [c3]; rfl) rfl ?_
    refine st_aload_n G 58 rfl 0 rfl dX7_airsAs_57 rfl ?_
    refine st_bipush G 60 rfl (40 : Int32) (by decide) dX7_airsAs_58 ?_
    refine st_cVv G lk_X7_243 (c_X7_starts g.l g.D g.X q_t q_t_s q_t_k q_t_laid q_t_errors q_t_step q_t_named q_t_pile q_t_sums1 q_t_parts1 q_t_trace q_t_bits q_t_sizes q_t_number q_t_aside c_images c_at c_open c_steps c_use c_traced c_speaks c_isParted c_trace (40 : Int32) _ h) (rmk_X7_airsAs_X7_starts d) 63 rfl [0, 2] rfl (by decide) 0 7 rfl rfl rfl (Nat.le_of_ble_eq_true rfl) rfl dX7_airsAs_60 (fun w hq => ?_)
    obtain ⟨c_traced_60, c_trace_60, h, rfl⟩ := hq
    refine st_wp (ws' := [(q_t, .inr (7, [.ref q_t_s, .ref q_t_k, .ref q_t_laid, .int c_images, .ref q_t_errors, .int c_at, .int c_open, .int c_steps, .int c_use, .ref q_t_step, .ref q_t_named, .ref q_t_pile, .ref q_t_sums1, .ref q_t_parts1, .int c_traced_60, .ref q_t_trace, .int c_speaks, .int c_isParted, .ref q_t_bits, .ref q_t_sizes, .ref q_t_number, .ref q_t_aside])), (q_t_s, .inl (g.X.cI, 476, .inl c_s)), (q_t_trace, .inl (g.X.cI, 30, .inl c_trace_60))]) 3 [1] (by decide) rfl rfl (by rfl) [(q_t_s, .inl (g.X.cI, 476, .inl c_s))] (by rfl) rfl ?_
    refine st_aload_n G 64 rfl 0 rfl dX7_airsAs_63 rfl ?_
    refine st_iconst G 65 rfl (3 : Int32) (by decide) dX7_airsAs_64 ?_
    refine st_cSio G lk_X7_175 (c_X7_above g.l g.D g.X (3 : Int32) _ h) (rmk_X7_airsAs_X7_above d) 68 rfl [] rfl (by decide) rfl (Nat.le_of_ble_eq_true rfl) rfl dX7_airsAs_65 (fun r_65 h => ?_)
    refine st_iload_n G 69 rfl 2 rfl dX7_airsAs_68 rfl ?_
    refine st_iconst G 70 rfl (2 : Int32) (by decide) dX7_airsAs_69 ?_
    refine st_idiv G 71 rfl (by decide) dX7_airsAs_70 ?_
    refine st_cVi G lk_X7_259 (hF_X7_airsAs q_t q_t_s q_t_k q_t_laid q_t_errors q_t_step q_t_named q_t_pile q_t_sums1 q_t_parts1 q_t_trace q_t_bits q_t_sizes q_t_number q_t_aside c_images c_at c_open c_steps c_use c_traced_60 c_speaks c_isParted c_s c_trace_60 r_65 (x2 / (2 : Int32)) _ h) (rmk_X7_airsAs_rec d (by decide)) 74 rfl [0, 1, 2] rfl (by decide) 0 7 rfl rfl rfl (Nat.le_of_ble_eq_true rfl) rfl dX7_airsAs_71 (fun r_71 w hq => ?_)
    obtain ⟨c_traced_71, c_trace_71, h, rfl⟩ := hq
    refine st_wp (ws' := [(q_t, .inr (7, [.ref q_t_s, .ref q_t_k, .ref q_t_laid, .int c_images, .ref q_t_errors, .int c_at, .int c_open, .int c_steps, .int c_use, .ref q_t_step, .ref q_t_named, .ref q_t_pile, .ref q_t_sums1, .ref q_t_parts1, .int c_traced_71, .ref q_t_trace, .int c_speaks, .int c_isParted, .ref q_t_bits, .ref q_t_sizes, .ref q_t_number, .ref q_t_aside])), (q_t_s, .inl (g.X.cI, 476, .inl c_s)), (q_t_trace, .inl (g.X.cI, 30, .inl c_trace_71))]) 3 [] (by decide) rfl rfl (by rfl) [] (by rfl) rfl ?_
    exact R _ _ _ _ dX7_airsAs_74 (Nat.le_of_ble_eq_true rfl) ⟨_, _, h, rfl⟩
  by_cases c4 : x1 = (4 : Int32)
  · have h := h.2.2.2.2.1 c4
    refine st_tableIn G 75 (off := 74) dX7_airsAs_1 (by rw [c4]; decide) (by rw [c4]; decide) (by rw [c4]; rfl) rfl ?_
    refine st_aload_n G 76 rfl 0 rfl dX7_airsAs_75 rfl ?_
    refine st_bipush G 78 rfl (51 : Int32) (by decide) dX7_airsAs_76 ?_
    refine st_cVv G lk_X7_243 (c_X7_starts g.l g.D g.X q_t q_t_s q_t_k q_t_laid q_t_errors q_t_step q_t_named q_t_pile q_t_sums1 q_t_parts1 q_t_trace q_t_bits q_t_sizes q_t_number q_t_aside c_images c_at c_open c_steps c_use c_traced c_speaks c_isParted c_trace (51 : Int32) _ h) (rmk_X7_airsAs_X7_starts d) 81 rfl [0, 2] rfl (by decide) 0 7 rfl rfl rfl (Nat.le_of_ble_eq_true rfl) rfl dX7_airsAs_78 (fun w hq => ?_)
    obtain ⟨c_traced_78, c_trace_78, h, rfl⟩ := hq
    refine st_wp (ws' := [(q_t, .inr (7, [.ref q_t_s, .ref q_t_k, .ref q_t_laid, .int c_images, .ref q_t_errors, .int c_at, .int c_open, .int c_steps, .int c_use, .ref q_t_step, .ref q_t_named, .ref q_t_pile, .ref q_t_sums1, .ref q_t_parts1, .int c_traced_78, .ref q_t_trace, .int c_speaks, .int c_isParted, .ref q_t_bits, .ref q_t_sizes, .ref q_t_number, .ref q_t_aside])), (q_t_s, .inl (g.X.cI, 476, .inl c_s)), (q_t_trace, .inl (g.X.cI, 30, .inl c_trace_78))]) 3 [1] (by decide) rfl rfl (by rfl) [(q_t_s, .inl (g.X.cI, 476, .inl c_s))] (by rfl) rfl ?_
    refine st_aload_n G 82 rfl 0 rfl dX7_airsAs_81 rfl ?_
    refine st_iconst G 83 rfl (4 : Int32) (by decide) dX7_airsAs_82 ?_
    refine st_cSio G lk_X7_175 (c_X7_above g.l g.D g.X (4 : Int32) _ h) (rmk_X7_airsAs_X7_above d) 86 rfl [] rfl (by decide) rfl (Nat.le_of_ble_eq_true rfl) rfl dX7_airsAs_83 (fun r_83 h => ?_)
    refine st_iload_n G 87 rfl 2 rfl dX7_airsAs_86 rfl ?_
    refine st_cVi G lk_X7_259 (hF_X7_airsAs q_t q_t_s q_t_k q_t_laid q_t_errors q_t_step q_t_named q_t_pile q_t_sums1 q_t_parts1 q_t_trace q_t_bits q_t_sizes q_t_number q_t_aside c_images c_at c_open c_steps c_use c_traced_78 c_speaks c_isParted c_s c_trace_78 r_83 x2 _ h) (rmk_X7_airsAs_rec d (by decide)) 90 rfl [0, 1, 2] rfl (by decide) 0 7 rfl rfl rfl (Nat.le_of_ble_eq_true rfl) rfl dX7_airsAs_87 (fun r_87 w hq => ?_)
    obtain ⟨c_traced_87, c_trace_87, h, rfl⟩ := hq
    refine st_wp (ws' := [(q_t, .inr (7, [.ref q_t_s, .ref q_t_k, .ref q_t_laid, .int c_images, .ref q_t_errors, .int c_at, .int c_open, .int c_steps, .int c_use, .ref q_t_step, .ref q_t_named, .ref q_t_pile, .ref q_t_sums1, .ref q_t_parts1, .int c_traced_87, .ref q_t_trace, .int c_speaks, .int c_isParted, .ref q_t_bits, .ref q_t_sizes, .ref q_t_number, .ref q_t_aside])), (q_t_s, .inl (g.X.cI, 476, .inl c_s)), (q_t_trace, .inl (g.X.cI, 30, .inl c_trace_87))]) 3 [] (by decide) rfl rfl (by rfl) [] (by rfl) rfl ?_
    refine st_aload_n G 91 rfl 0 rfl dX7_airsAs_90 rfl ?_
    refine st_get G inX7 rfl 16 (by decide) wd_843 94 rfl 0 rfl rfl dX7_airsAs_91 ?_
    refine st_ixor G 95 rfl dX7_airsAs_94 ?_
    exact R _ _ _ _ dX7_airsAs_95 (Nat.le_of_ble_eq_true rfl) ⟨_, _, h, rfl⟩
  have h := h.2.2.2.2.2 c0 c1 c2 c3 c4
  refine st_tableOut G 96 dX7_airsAs_1 (by have w0 := ne_toInt (n := 0) c0; have w1 := ne_toInt (n := 1) c1; have w2 := ne_toInt (n := 2) c2; have w3 := ne_toInt (n := 3) c3; have w4 := ne_toInt (n := 4) c4; omega) rfl ?_
  refine st_aload_n G 97 rfl 0 rfl dX7_airsAs_96 rfl ?_
  refine st_iload_n G 98 rfl 1 rfl dX7_airsAs_97 rfl ?_
  refine st_cSio G lk_X7_175 (c_X7_above g.l g.D g.X x1 _ h) (rmk_X7_airsAs_X7_above d) 101 rfl [] rfl (by decide) rfl (Nat.le_of_ble_eq_true rfl) rfl dX7_airsAs_98 (fun r_98 h => ?_)
  refine st_iload_n G 102 rfl 2 rfl dX7_airsAs_101 rfl ?_
  refine st_cVi G lk_X7_259 (hF_X7_airsAs q_t q_t_s q_t_k q_t_laid q_t_errors q_t_step q_t_named q_t_pile q_t_sums1 q_t_parts1 q_t_trace q_t_bits q_t_sizes q_t_number q_t_aside c_images c_at c_open c_steps c_use c_traced c_speaks c_isParted c_s c_trace r_98 x2 _ h) (rmk_X7_airsAs_rec d (by decide)) 105 rfl [0, 1, 2] rfl (by decide) 0 7 rfl rfl rfl (Nat.le_of_ble_eq_true rfl) rfl dX7_airsAs_102 (fun r_102 w hq => ?_)
  obtain ⟨c_traced_102, c_trace_102, h, rfl⟩ := hq
  refine st_wp (ws' := [(q_t, .inr (7, [.ref q_t_s, .ref q_t_k, .ref q_t_laid, .int c_images, .ref q_t_errors, .int c_at, .int c_open, .int c_steps, .int c_use, .ref q_t_step, .ref q_t_named, .ref q_t_pile, .ref q_t_sums1, .ref q_t_parts1, .int c_traced_102, .ref q_t_trace, .int c_speaks, .int c_isParted, .ref q_t_bits, .ref q_t_sizes, .ref q_t_number, .ref q_t_aside])), (q_t_s, .inl (g.X.cI, 476, .inl c_s)), (q_t_trace, .inl (g.X.cI, 30, .inl c_trace_102))]) 3 [] (by decide) rfl rfl (by rfl) [] (by rfl) rfl ?_
  exact R _ _ _ _ dX7_airsAs_105 (Nat.le_of_ble_eq_true rfl) ⟨_, _, h, rfl⟩
set_option maxRecDepth 100000 in
set_option maxHeartbeats 4000000 in
theorem cg_X7_airsAs (l : Launch) (D : va_G) (X : XT) : ∀ d : Nat, (∀ (q_t q_t_s q_t_k q_t_laid q_t_errors q_t_step q_t_named q_t_pile q_t_sums1 q_t_parts1 q_t_trace q_t_bits q_t_sizes q_t_number q_t_aside : Nat) (c_images : Int32) (c_at : Int32) (c_open : Int32) (c_steps : Int32) (c_use : Int32) (c_traced : Int32) (c_speaks : Int32) (c_isParted : Int32) (c_s : Nat → Int32) (c_trace : Nat → Int32) (x1 : Int32) (x2 : Int32) (Q : Int32 → (Int32) → (Nat → Int32) → Prop), wp_X7_airsAs d x1 x2 c_traced c_speaks c_s c_trace Q → CTi l D X yX7_airsAs cX7_airsAs 3 .int (rm_X7_airsAs d) [.ref q_t, .int x1, .int x2] [(q_t, .inr (7, [.ref q_t_s, .ref q_t_k, .ref q_t_laid, .int c_images, .ref q_t_errors, .int c_at, .int c_open, .int c_steps, .int c_use, .ref q_t_step, .ref q_t_named, .ref q_t_pile, .ref q_t_sums1, .ref q_t_parts1, .int c_traced, .ref q_t_trace, .int c_speaks, .int c_isParted, .ref q_t_bits, .ref q_t_sizes, .ref q_t_number, .ref q_t_aside])), (q_t_s, .inl (X.cI, 476, .inl c_s)), (q_t_trace, .inl (X.cI, 30, .inl c_trace))] (fun (r : Int32) w => ∃ (c_traced' : Int32) (c_trace' : Nat → Int32), Q r c_traced' c_trace' ∧ w = [(q_t, .inr (7, [.ref q_t_s, .ref q_t_k, .ref q_t_laid, .int c_images, .ref q_t_errors, .int c_at, .int c_open, .int c_steps, .int c_use, .ref q_t_step, .ref q_t_named, .ref q_t_pile, .ref q_t_sums1, .ref q_t_parts1, .int c_traced', .ref q_t_trace, .int c_speaks, .int c_isParted, .ref q_t_bits, .ref q_t_sizes, .ref q_t_number, .ref q_t_aside])), (q_t_s, .inl (X.cI, 476, .inl c_s)), (q_t_trace, .inl (X.cI, 30, .inl c_trace'))])) := by
  intro d
  induction d with
  | zero => (intros; rename_i h; exact False.elim h)
  | succ d ih =>
    · intro q_t q_t_s q_t_k q_t_laid q_t_errors q_t_step q_t_named q_t_pile q_t_sums1 q_t_parts1 q_t_trace q_t_bits q_t_sizes q_t_number q_t_aside c_images c_at c_open c_steps c_use c_traced c_speaks c_isParted c_s c_trace x1 x2 Q h
      exact ct_i (by decide) (Nat.le_of_ble_eq_true rfl) (fun g hl hD hX G R => by subst hl; subst hD; subst hX; exact b_X7_airsAs_e G R ih h)
set_option maxRecDepth 100000 in
set_option maxHeartbeats 4000000 in
theorem c_X7_airsAs (d : Nat) (l : Launch) (D : va_G) (X : XT) (q_t q_t_s q_t_k q_t_laid q_t_errors q_t_step q_t_named q_t_pile q_t_sums1 q_t_parts1 q_t_trace q_t_bits q_t_sizes q_t_number q_t_aside : Nat) (c_images : Int32) (c_at : Int32) (c_open : Int32) (c_steps : Int32) (c_use : Int32) (c_traced : Int32) (c_speaks : Int32) (c_isParted : Int32) (c_s : Nat → Int32) (c_trace : Nat → Int32) (x1 : Int32) (x2 : Int32) (Q : Int32 → (Int32) → (Nat → Int32) → Prop) (h : wp_X7_airsAs d x1 x2 c_traced c_speaks c_s c_trace Q) : CTi l D X yX7_airsAs cX7_airsAs 3 .int (rm_X7_airsAs d) [.ref q_t, .int x1, .int x2] [(q_t, .inr (7, [.ref q_t_s, .ref q_t_k, .ref q_t_laid, .int c_images, .ref q_t_errors, .int c_at, .int c_open, .int c_steps, .int c_use, .ref q_t_step, .ref q_t_named, .ref q_t_pile, .ref q_t_sums1, .ref q_t_parts1, .int c_traced, .ref q_t_trace, .int c_speaks, .int c_isParted, .ref q_t_bits, .ref q_t_sizes, .ref q_t_number, .ref q_t_aside])), (q_t_s, .inl (X.cI, 476, .inl c_s)), (q_t_trace, .inl (X.cI, 30, .inl c_trace))] (fun (r : Int32) w => ∃ (c_traced' : Int32) (c_trace' : Nat → Int32), Q r c_traced' c_trace' ∧ w = [(q_t, .inr (7, [.ref q_t_s, .ref q_t_k, .ref q_t_laid, .int c_images, .ref q_t_errors, .int c_at, .int c_open, .int c_steps, .int c_use, .ref q_t_step, .ref q_t_named, .ref q_t_pile, .ref q_t_sums1, .ref q_t_parts1, .int c_traced', .ref q_t_trace, .int c_speaks, .int c_isParted, .ref q_t_bits, .ref q_t_sizes, .ref q_t_number, .ref q_t_aside])), (q_t_s, .inl (X.cI, 476, .inl c_s)), (q_t_trace, .inl (X.cI, 30, .inl c_trace'))]) :=
  (cg_X7_airsAs l D X d) q_t q_t_s q_t_k q_t_laid q_t_errors q_t_step q_t_named q_t_pile q_t_sums1 q_t_parts1 q_t_trace q_t_bits q_t_sizes q_t_number q_t_aside c_images c_at c_open c_steps c_use c_traced c_speaks c_isParted c_s c_trace x1 x2 Q h
set_option maxRecDepth 100000 in
set_option maxHeartbeats 4000000 in
theorem b_X7_partsAs_e {g : GT} {d : Nat} {F_X7_partsAs : Int32 → Int32 → (Int32) → (Int32) → (Int32) → (Nat → Int32) → (Nat → Int32) → (Int32 → (Int32) → (Int32) → (Nat → Int32) → Prop) → Prop} (G : GOOD g RX7 cX7_partsAs 5 (rm_X7_partsAs (d + 1))) {q_t q_t_s q_t_k q_t_laid q_t_errors q_t_step q_t_named q_t_pile q_t_sums1 q_t_parts1 q_t_trace q_t_bits q_t_sizes q_t_number q_t_aside : Nat} {c_images : Int32} {c_at : Int32} {c_open : Int32} {c_steps : Int32} {c_use : Int32} {c_traced : Int32} {c_speaks : Int32} {c_isParted : Int32} {c_s : Nat → Int32} {c_trace : Nat → Int32} {x1 : Int32} {x2 : Int32} {Q : Int32 → (Int32) → (Int32) → (Nat → Int32) → Prop} (R : RETi g cX7_partsAs 3 (fun (r : Int32) w => ∃ (c_traced' : Int32) (c_isParted' : Int32) (c_trace' : Nat → Int32), Q r c_traced' c_isParted' c_trace' ∧ w = [(q_t, .inr (7, [.ref q_t_s, .ref q_t_k, .ref q_t_laid, .int c_images, .ref q_t_errors, .int c_at, .int c_open, .int c_steps, .int c_use, .ref q_t_step, .ref q_t_named, .ref q_t_pile, .ref q_t_sums1, .ref q_t_parts1, .int c_traced', .ref q_t_trace, .int c_speaks, .int c_isParted', .ref q_t_bits, .ref q_t_sizes, .ref q_t_number, .ref q_t_aside])), (q_t_s, .inl (g.X.cI, 476, .inl c_s)), (q_t_trace, .inl (g.X.cI, 30, .inl c_trace'))])) (hF_X7_partsAs : ∀ (q_t q_t_s q_t_k q_t_laid q_t_errors q_t_step q_t_named q_t_pile q_t_sums1 q_t_parts1 q_t_trace q_t_bits q_t_sizes q_t_number q_t_aside : Nat) (c_images : Int32) (c_at : Int32) (c_open : Int32) (c_steps : Int32) (c_use : Int32) (c_traced : Int32) (c_speaks : Int32) (c_isParted : Int32) (c_s : Nat → Int32) (c_trace : Nat → Int32) (x1 : Int32) (x2 : Int32) (Q : Int32 → (Int32) → (Int32) → (Nat → Int32) → Prop), F_X7_partsAs x1 x2 c_traced c_speaks c_isParted c_s c_trace Q → CTi g.l g.D g.X yX7_partsAs cX7_partsAs 5 .int (rm_X7_partsAs d) [.ref q_t, .int x1, .int x2] [(q_t, .inr (7, [.ref q_t_s, .ref q_t_k, .ref q_t_laid, .int c_images, .ref q_t_errors, .int c_at, .int c_open, .int c_steps, .int c_use, .ref q_t_step, .ref q_t_named, .ref q_t_pile, .ref q_t_sums1, .ref q_t_parts1, .int c_traced, .ref q_t_trace, .int c_speaks, .int c_isParted, .ref q_t_bits, .ref q_t_sizes, .ref q_t_number, .ref q_t_aside])), (q_t_s, .inl (g.X.cI, 476, .inl c_s)), (q_t_trace, .inl (g.X.cI, 30, .inl c_trace))] (fun (r : Int32) w => ∃ (c_traced' : Int32) (c_isParted' : Int32) (c_trace' : Nat → Int32), Q r c_traced' c_isParted' c_trace' ∧ w = [(q_t, .inr (7, [.ref q_t_s, .ref q_t_k, .ref q_t_laid, .int c_images, .ref q_t_errors, .int c_at, .int c_open, .int c_steps, .int c_use, .ref q_t_step, .ref q_t_named, .ref q_t_pile, .ref q_t_sums1, .ref q_t_parts1, .int c_traced', .ref q_t_trace, .int c_speaks, .int c_isParted', .ref q_t_bits, .ref q_t_sizes, .ref q_t_number, .ref q_t_aside])), (q_t_s, .inl (g.X.cI, 476, .inl c_s)), (q_t_trace, .inl (g.X.cI, 30, .inl c_trace'))])) (h : ws_X7_partsAs F_X7_partsAs x1 x2 c_traced c_speaks c_isParted c_s c_trace Q) : ST g 0 0 0 [(0, .ref q_t), (1, .int x1), (2, .int x2)] [] [(q_t, .inr (7, [.ref q_t_s, .ref q_t_k, .ref q_t_laid, .int c_images, .ref q_t_errors, .int c_at, .int c_open, .int c_steps, .int c_use, .ref q_t_step, .ref q_t_named, .ref q_t_pile, .ref q_t_sums1, .ref q_t_parts1, .int c_traced, .ref q_t_trace, .int c_speaks, .int c_isParted, .ref q_t_bits, .ref q_t_sizes, .ref q_t_number, .ref q_t_aside])), (q_t_s, .inl (g.X.cI, 476, .inl c_s)), (q_t_trace, .inl (g.X.cI, 30, .inl c_trace))] := by
  unfold ws_X7_partsAs at h
  refine st_iload_n G 1 rfl 1 rfl dX7_partsAs_0 rfl ?_
  by_cases c0 : x1 = (0 : Int32)
  · have h := h.1 c0
    refine st_lookup G 28 (off := 27) dX7_partsAs_1 (by decide) (by rw [c0]; rfl) rfl ?_
    refine st_aload_n G 29 rfl 0 rfl dX7_partsAs_28 rfl ?_
    refine st_bipush G 31 rfl (13 : Int32) (by decide) dX7_partsAs_29 ?_
    refine st_cVv G lk_X7_243 (c_X7_starts g.l g.D g.X q_t q_t_s q_t_k q_t_laid q_t_errors q_t_step q_t_named q_t_pile q_t_sums1 q_t_parts1 q_t_trace q_t_bits q_t_sizes q_t_number q_t_aside c_images c_at c_open c_steps c_use c_traced c_speaks c_isParted c_trace (13 : Int32) _ h) (rmk_X7_partsAs_X7_starts d) 34 rfl [0, 2] rfl (by decide) 0 7 rfl rfl rfl (Nat.le_of_ble_eq_true rfl) rfl dX7_partsAs_31 (fun w hq => ?_)
    obtain ⟨c_traced_31, c_trace_31, h, rfl⟩ := hq
    refine st_wp (ws' := [(q_t, .inr (7, [.ref q_t_s, .ref q_t_k, .ref q_t_laid, .int c_images, .ref q_t_errors, .int c_at, .int c_open, .int c_steps, .int c_use, .ref q_t_step, .ref q_t_named, .ref q_t_pile, .ref q_t_sums1, .ref q_t_parts1, .int c_traced_31, .ref q_t_trace, .int c_speaks, .int c_isParted, .ref q_t_bits, .ref q_t_sizes, .ref q_t_number, .ref q_t_aside])), (q_t_s, .inl (g.X.cI, 476, .inl c_s)), (q_t_trace, .inl (g.X.cI, 30, .inl c_trace_31))]) 3 [1] (by decide) rfl rfl (by rfl) [(q_t_s, .inl (g.X.cI, 476, .inl c_s))] (by rfl) rfl ?_
    refine st_aload_n G 35 rfl 0 rfl dX7_partsAs_34 rfl ?_
    refine st_cVio G lk_X7_256 (c_X7_mNow g.l g.D g.X q_t q_t_s q_t_k q_t_laid q_t_errors q_t_step q_t_named q_t_pile q_t_sums1 q_t_parts1 q_t_trace q_t_bits q_t_sizes q_t_number q_t_aside c_images c_at c_open c_steps c_use c_traced_31 c_speaks c_isParted c_s _ h) (rmk_X7_partsAs_X7_mNow d) 38 rfl [0, 1] rfl (by decide) 0 7 rfl rfl rfl (Nat.le_of_ble_eq_true rfl) rfl dX7_partsAs_35 (fun r_35 h => ?_)
    refine st_aload_n G 39 rfl 0 rfl dX7_partsAs_38 rfl ?_
    refine st_get G inX7 rfl 16 (by decide) wd_843 42 rfl 0 rfl rfl dX7_partsAs_39 ?_
    refine st_isub G 43 rfl dX7_partsAs_42 ?_
    refine st_topi (fun x3_43 ex3_43 => ?_)
    have h := h x3_43 ex3_43
    refine st_istore_n G 44 rfl [(3, .int x3_43), (0, .ref q_t), (1, .int x1), (2, .int x2)] dX7_partsAs_43 rfl (by decide) rfl ?_
    refine st_aload_n G 45 rfl 1 rfl dX7_partsAs_44 rfl ?_
    refine st_iload_n G 46 rfl 0 rfl dX7_partsAs_45 rfl ?_
    refine st_if_ne G 53 49 rfl dX7_partsAs_46 rfl (fun c => ?_) (fun c => ?_)
    · have h := h.1 c
      refine st_iconst G 54 rfl (0 : Int32) (by decide) dX7_partsAs_53 ?_
      refine st_put G inX7 tyX7 tyX7_ok nmX7 rfl 17 (by decide) wd_844 rfl [(q_t, .inr (7, [.ref q_t_s, .ref q_t_k, .ref q_t_laid, .int c_images, .ref q_t_errors, .int c_at, .int c_open, .int c_steps, .int c_use, .ref q_t_step, .ref q_t_named, .ref q_t_pile, .ref q_t_sums1, .ref q_t_parts1, .int c_traced_31, .ref q_t_trace, .int c_speaks, .int (0 : Int32), .ref q_t_bits, .ref q_t_sizes, .ref q_t_number, .ref q_t_aside])), (q_t_s, .inl (g.X.cI, 476, .inl c_s)), (q_t_trace, .inl (g.X.cI, 30, .inl c_trace_31))] 57 rfl 0 rfl rfl rfl (Nat.le_of_ble_eq_true rfl) rfl dX7_partsAs_54 ?_
      refine st_iload_n G 58 rfl 0 rfl dX7_partsAs_57 rfl ?_
      refine st_if_ne G 65 61 rfl dX7_partsAs_58 rfl (fun c => ?_) (fun c => ?_)
      · have h := h.1 c
        refine st_iload_n G 66 rfl 0 rfl dX7_partsAs_65 rfl ?_
        refine st_iconst G 67 rfl (-1 : Int32) (by decide) dX7_partsAs_66 ?_
        refine st_icmp_ne G 75 70 rfl dX7_partsAs_67 rfl (fun c => ?_) (fun c => ?_)
        · have h := h.1 c
          refine st_iload_n G 76 rfl 3 rfl dX7_partsAs_75 rfl ?_
          refine st_iload_n G 77 rfl 0 rfl dX7_partsAs_76 rfl ?_
          obtain ⟨hne, h⟩ := h
          refine st_idiv G 78 rfl hne dX7_partsAs_77 ?_
          exact R _ _ _ _ dX7_partsAs_78 (Nat.le_of_ble_eq_true rfl) ⟨_, _, _, h, rfl⟩
        have h := h.2 c
        refine st_iload_n G 71 rfl 3 rfl dX7_partsAs_70 rfl ?_
        refine st_ineg G 72 rfl dX7_partsAs_71 ?_
        refine st_goto G 78 dX7_partsAs_72 rfl ?_
        exact R _ _ _ _ dX7_partsAs_78 (Nat.le_of_ble_eq_true rfl) ⟨_, _, _, h, rfl⟩
      have h := h.2 c
      refine st_iconst G 62 rfl (0 : Int32) (by decide) dX7_partsAs_61 ?_
      refine st_goto G 78 dX7_partsAs_62 rfl ?_
      exact R _ _ _ _ dX7_partsAs_78 (Nat.le_of_ble_eq_true rfl) ⟨_, _, _, h, rfl⟩
    have h := h.2 c
    refine st_iconst G 50 rfl (1 : Int32) (by decide) dX7_partsAs_49 ?_
    refine st_goto G 54 dX7_partsAs_50 rfl ?_
    refine st_put G inX7 tyX7 tyX7_ok nmX7 rfl 17 (by decide) wd_844 rfl [(q_t, .inr (7, [.ref q_t_s, .ref q_t_k, .ref q_t_laid, .int c_images, .ref q_t_errors, .int c_at, .int c_open, .int c_steps, .int c_use, .ref q_t_step, .ref q_t_named, .ref q_t_pile, .ref q_t_sums1, .ref q_t_parts1, .int c_traced_31, .ref q_t_trace, .int c_speaks, .int (1 : Int32), .ref q_t_bits, .ref q_t_sizes, .ref q_t_number, .ref q_t_aside])), (q_t_s, .inl (g.X.cI, 476, .inl c_s)), (q_t_trace, .inl (g.X.cI, 30, .inl c_trace_31))] 57 rfl 0 rfl rfl rfl (Nat.le_of_ble_eq_true rfl) rfl dX7_partsAs_54 ?_
    refine st_iload_n G 58 rfl 0 rfl dX7_partsAs_57 rfl ?_
    refine st_if_ne G 65 61 rfl dX7_partsAs_58 rfl (fun c => ?_) (fun c => ?_)
    · have h := h.1 c
      refine st_iload_n G 66 rfl 0 rfl dX7_partsAs_65 rfl ?_
      refine st_iconst G 67 rfl (-1 : Int32) (by decide) dX7_partsAs_66 ?_
      refine st_icmp_ne G 75 70 rfl dX7_partsAs_67 rfl (fun c => ?_) (fun c => ?_)
      · have h := h.1 c
        refine st_iload_n G 76 rfl 3 rfl dX7_partsAs_75 rfl ?_
        refine st_iload_n G 77 rfl 0 rfl dX7_partsAs_76 rfl ?_
        obtain ⟨hne, h⟩ := h
        refine st_idiv G 78 rfl hne dX7_partsAs_77 ?_
        exact R _ _ _ _ dX7_partsAs_78 (Nat.le_of_ble_eq_true rfl) ⟨_, _, _, h, rfl⟩
      have h := h.2 c
      refine st_iload_n G 71 rfl 3 rfl dX7_partsAs_70 rfl ?_
      refine st_ineg G 72 rfl dX7_partsAs_71 ?_
      refine st_goto G 78 dX7_partsAs_72 rfl ?_
      exact R _ _ _ _ dX7_partsAs_78 (Nat.le_of_ble_eq_true rfl) ⟨_, _, _, h, rfl⟩
    have h := h.2 c
    refine st_iconst G 62 rfl (0 : Int32) (by decide) dX7_partsAs_61 ?_
    refine st_goto G 78 dX7_partsAs_62 rfl ?_
    exact R _ _ _ _ dX7_partsAs_78 (Nat.le_of_ble_eq_true rfl) ⟨_, _, _, h, rfl⟩
  by_cases c1 : x1 = (1 : Int32)
  · have h := h.2.1 c1
    refine st_lookup G 79 (off := 78) dX7_partsAs_1 (by decide) (by rw [c1]; rfl) rfl ?_
    refine st_aload_n G 80 rfl 0 rfl dX7_partsAs_79 rfl ?_
    refine st_bipush G 82 rfl (21 : Int32) (by decide) dX7_partsAs_80 ?_
    refine st_cVv G lk_X7_243 (c_X7_starts g.l g.D g.X q_t q_t_s q_t_k q_t_laid q_t_errors q_t_step q_t_named q_t_pile q_t_sums1 q_t_parts1 q_t_trace q_t_bits q_t_sizes q_t_number q_t_aside c_images c_at c_open c_steps c_use c_traced c_speaks c_isParted c_trace (21 : Int32) _ h) (rmk_X7_partsAs_X7_starts d) 85 rfl [0, 2] rfl (by decide) 0 7 rfl rfl rfl (Nat.le_of_ble_eq_true rfl) rfl dX7_partsAs_82 (fun w hq => ?_)
    obtain ⟨c_traced_82, c_trace_82, h, rfl⟩ := hq
    refine st_wp (ws' := [(q_t, .inr (7, [.ref q_t_s, .ref q_t_k, .ref q_t_laid, .int c_images, .ref q_t_errors, .int c_at, .int c_open, .int c_steps, .int c_use, .ref q_t_step, .ref q_t_named, .ref q_t_pile, .ref q_t_sums1, .ref q_t_parts1, .int c_traced_82, .ref q_t_trace, .int c_speaks, .int c_isParted, .ref q_t_bits, .ref q_t_sizes, .ref q_t_number, .ref q_t_aside])), (q_t_s, .inl (g.X.cI, 476, .inl c_s)), (q_t_trace, .inl (g.X.cI, 30, .inl c_trace_82))]) 3 [1] (by decide) rfl rfl (by rfl) [(q_t_s, .inl (g.X.cI, 476, .inl c_s))] (by rfl) rfl ?_
    refine st_aload_n G 86 rfl 0 rfl dX7_partsAs_85 rfl ?_
    refine st_iconst G 87 rfl (1 : Int32) (by decide) dX7_partsAs_86 ?_
    refine st_cSio G lk_X7_175 (c_X7_above g.l g.D g.X (1 : Int32) _ h) (rmk_X7_partsAs_X7_above d) 90 rfl [] rfl (by decide) rfl (Nat.le_of_ble_eq_true rfl) rfl dX7_partsAs_87 (fun r_87 h => ?_)
    refine st_iload_n G 91 rfl 2 rfl dX7_partsAs_90 rfl ?_
    refine st_cVi G lk_X7_266 (hF_X7_partsAs q_t q_t_s q_t_k q_t_laid q_t_errors q_t_step q_t_named q_t_pile q_t_sums1 q_t_parts1 q_t_trace q_t_bits q_t_sizes q_t_number q_t_aside c_images c_at c_open c_steps c_use c_traced_82 c_speaks c_isParted c_s c_trace_82 r_87 x2 _ h) (rmk_X7_partsAs_rec d (by decide)) 94 rfl [0, 1, 2] rfl (by decide) 0 7 rfl rfl rfl (Nat.le_of_ble_eq_true rfl) rfl dX7_partsAs_91 (fun r_91 w hq => ?_)
    obtain ⟨c_traced_91, c_isParted_91, c_trace_91, h, rfl⟩ := hq
    refine st_wp (ws' := [(q_t, .inr (7, [.ref q_t_s, .ref q_t_k, .ref q_t_laid, .int c_images, .ref q_t_errors, .int c_at, .int c_open, .int c_steps, .int c_use, .ref q_t_step, .ref q_t_named, .ref q_t_pile, .ref q_t_sums1, .ref q_t_parts1, .int c_traced_91, .ref q_t_trace, .int c_speaks, .int c_isParted_91, .ref q_t_bits, .ref q_t_sizes, .ref q_t_number, .ref q_t_aside])), (q_t_s, .inl (g.X.cI, 476, .inl c_s)), (q_t_trace, .inl (g.X.cI, 30, .inl c_trace_91))]) 3 [] (by decide) rfl rfl (by rfl) [] (by rfl) rfl ?_
    refine st_istore G 96 rfl [(4, .int r_91), (0, .ref q_t), (1, .int x1), (2, .int x2)] dX7_partsAs_94 (by decide) rfl ?_
    refine st_aload_n G 97 rfl 1 rfl dX7_partsAs_96 rfl ?_
    refine st_get G inX7 rfl 17 (by decide) wd_844 100 rfl 0 rfl rfl dX7_partsAs_97 ?_
    refine st_if_eq G 107 103 rfl dX7_partsAs_100 rfl (fun c => ?_) (fun c => ?_)
    · have h := h.1 c
      refine st_iload G 109 rfl 0 rfl dX7_partsAs_107 ?_
      refine st_aload_n G 110 rfl 1 rfl dX7_partsAs_109 rfl ?_
      refine st_aload_n G 111 rfl 1 rfl dX7_partsAs_110 rfl ?_
      refine st_cVio G lk_X7_250 (c_X7_kindNow g.l g.D g.X q_t q_t_s q_t_k q_t_laid q_t_errors q_t_step q_t_named q_t_pile q_t_sums1 q_t_parts1 q_t_trace q_t_bits q_t_sizes q_t_number q_t_aside c_images c_at c_open c_steps c_use c_traced_91 c_speaks c_isParted_91 c_s _ h) (rmk_X7_partsAs_X7_kindNow d) 114 rfl [0, 1] rfl (by decide) 0 7 rfl rfl rfl (Nat.le_of_ble_eq_true rfl) rfl dX7_partsAs_111 (fun r_111 h => ?_)
      refine st_iconst G 115 rfl (1 : Int32) (by decide) dX7_partsAs_114 ?_
      refine st_cVi G lk_X7_253 (c_X7_wringsAs 64 g.l g.D g.X q_t q_t_s q_t_k q_t_laid q_t_errors q_t_step q_t_named q_t_pile q_t_sums1 q_t_parts1 q_t_trace q_t_bits q_t_sizes q_t_number q_t_aside c_images c_at c_open c_steps c_use c_traced_91 c_speaks c_isParted_91 c_s c_trace_91 r_111 (1 : Int32) _ h) (rmk_X7_partsAs_X7_wringsAs d) 118 rfl [0, 1, 2] rfl (by decide) 0 7 rfl rfl rfl (Nat.le_of_ble_eq_true rfl) rfl dX7_partsAs_115 (fun r_115 w hq => ?_)
      obtain ⟨c_traced_115, c_trace_115, h, rfl⟩ := hq
      refine st_wp (ws' := [(q_t, .inr (7, [.ref q_t_s, .ref q_t_k, .ref q_t_laid, .int c_images, .ref q_t_errors, .int c_at, .int c_open, .int c_steps, .int c_use, .ref q_t_step, .ref q_t_named, .ref q_t_pile, .ref q_t_sums1, .ref q_t_parts1, .int c_traced_115, .ref q_t_trace, .int c_speaks, .int c_isParted_91, .ref q_t_bits, .ref q_t_sizes, .ref q_t_number, .ref q_t_aside])), (q_t_s, .inl (g.X.cI, 476, .inl c_s)), (q_t_trace, .inl (g.X.cI, 30, .inl c_trace_115))]) 3 [] (by decide) rfl rfl (by rfl) [] (by rfl) rfl ?_
      refine st_iadd G 119 rfl dX7_partsAs_118 ?_
      exact R _ _ _ _ dX7_partsAs_119 (Nat.le_of_ble_eq_true rfl) ⟨_, _, _, h, rfl⟩
    have h := h.2 c
    refine st_iconst G 104 rfl (0 : Int32) (by decide) dX7_partsAs_103 ?_
    refine st_goto G 119 dX7_partsAs_104 rfl ?_
    exact R _ _ _ _ dX7_partsAs_119 (Nat.le_of_ble_eq_true rfl) ⟨_, _, _, h, rfl⟩
  have h := h.2.2 c0 c1
  refine st_lookup G 120 (off := 119) dX7_partsAs_1 (by decide) (by have w0 := ne_toInt (n := 0) c0; have w1 := ne_toInt (n := 1) c1; simp only [Op.lookupswitch.offset]; rw [if_neg (Ne.symm w0), if_neg (Ne.symm w1)]) rfl ?_
  refine st_aload_n G 121 rfl 0 rfl dX7_partsAs_120 rfl ?_
  refine st_iload_n G 122 rfl 1 rfl dX7_partsAs_121 rfl ?_
  refine st_cSio G lk_X7_175 (c_X7_above g.l g.D g.X x1 _ h) (rmk_X7_partsAs_X7_above d) 125 rfl [] rfl (by decide) rfl (Nat.le_of_ble_eq_true rfl) rfl dX7_partsAs_122 (fun r_122 h => ?_)
  refine st_iload_n G 126 rfl 2 rfl dX7_partsAs_125 rfl ?_
  refine st_cVi G lk_X7_266 (hF_X7_partsAs q_t q_t_s q_t_k q_t_laid q_t_errors q_t_step q_t_named q_t_pile q_t_sums1 q_t_parts1 q_t_trace q_t_bits q_t_sizes q_t_number q_t_aside c_images c_at c_open c_steps c_use c_traced c_speaks c_isParted c_s c_trace r_122 x2 _ h) (rmk_X7_partsAs_rec d (by decide)) 129 rfl [0, 1, 2] rfl (by decide) 0 7 rfl rfl rfl (Nat.le_of_ble_eq_true rfl) rfl dX7_partsAs_126 (fun r_126 w hq => ?_)
  obtain ⟨c_traced_126, c_isParted_126, c_trace_126, h, rfl⟩ := hq
  refine st_wp (ws' := [(q_t, .inr (7, [.ref q_t_s, .ref q_t_k, .ref q_t_laid, .int c_images, .ref q_t_errors, .int c_at, .int c_open, .int c_steps, .int c_use, .ref q_t_step, .ref q_t_named, .ref q_t_pile, .ref q_t_sums1, .ref q_t_parts1, .int c_traced_126, .ref q_t_trace, .int c_speaks, .int c_isParted_126, .ref q_t_bits, .ref q_t_sizes, .ref q_t_number, .ref q_t_aside])), (q_t_s, .inl (g.X.cI, 476, .inl c_s)), (q_t_trace, .inl (g.X.cI, 30, .inl c_trace_126))]) 3 [] (by decide) rfl rfl (by rfl) [] (by rfl) rfl ?_
  exact R _ _ _ _ dX7_partsAs_129 (Nat.le_of_ble_eq_true rfl) ⟨_, _, _, h, rfl⟩
set_option maxRecDepth 100000 in
set_option maxHeartbeats 4000000 in
theorem cg_X7_partsAs (l : Launch) (D : va_G) (X : XT) : ∀ d : Nat, (∀ (q_t q_t_s q_t_k q_t_laid q_t_errors q_t_step q_t_named q_t_pile q_t_sums1 q_t_parts1 q_t_trace q_t_bits q_t_sizes q_t_number q_t_aside : Nat) (c_images : Int32) (c_at : Int32) (c_open : Int32) (c_steps : Int32) (c_use : Int32) (c_traced : Int32) (c_speaks : Int32) (c_isParted : Int32) (c_s : Nat → Int32) (c_trace : Nat → Int32) (x1 : Int32) (x2 : Int32) (Q : Int32 → (Int32) → (Int32) → (Nat → Int32) → Prop), wp_X7_partsAs d x1 x2 c_traced c_speaks c_isParted c_s c_trace Q → CTi l D X yX7_partsAs cX7_partsAs 5 .int (rm_X7_partsAs d) [.ref q_t, .int x1, .int x2] [(q_t, .inr (7, [.ref q_t_s, .ref q_t_k, .ref q_t_laid, .int c_images, .ref q_t_errors, .int c_at, .int c_open, .int c_steps, .int c_use, .ref q_t_step, .ref q_t_named, .ref q_t_pile, .ref q_t_sums1, .ref q_t_parts1, .int c_traced, .ref q_t_trace, .int c_speaks, .int c_isParted, .ref q_t_bits, .ref q_t_sizes, .ref q_t_number, .ref q_t_aside])), (q_t_s, .inl (X.cI, 476, .inl c_s)), (q_t_trace, .inl (X.cI, 30, .inl c_trace))] (fun (r : Int32) w => ∃ (c_traced' : Int32) (c_isParted' : Int32) (c_trace' : Nat → Int32), Q r c_traced' c_isParted' c_trace' ∧ w = [(q_t, .inr (7, [.ref q_t_s, .ref q_t_k, .ref q_t_laid, .int c_images, .ref q_t_errors, .int c_at, .int c_open, .int c_steps, .int c_use, .ref q_t_step, .ref q_t_named, .ref q_t_pile, .ref q_t_sums1, .ref q_t_parts1, .int c_traced', .ref q_t_trace, .int c_speaks, .int c_isParted', .ref q_t_bits, .ref q_t_sizes, .ref q_t_number, .ref q_t_aside])), (q_t_s, .inl (X.cI, 476, .inl c_s)), (q_t_trace, .inl (X.cI, 30, .inl c_trace'))])) := by
  intro d
  induction d with
  | zero => (intros; rename_i h; exact False.elim h)
  | succ d ih =>
    · intro q_t q_t_s q_t_k q_t_laid q_t_errors q_t_step q_t_named q_t_pile q_t_sums1 q_t_parts1 q_t_trace q_t_bits q_t_sizes q_t_number q_t_aside c_images c_at c_open c_steps c_use c_traced c_speaks c_isParted c_s c_trace x1 x2 Q h
      exact ct_i (by decide) (Nat.le_of_ble_eq_true rfl) (fun g hl hD hX G R => by subst hl; subst hD; subst hX; exact b_X7_partsAs_e G R ih h)
set_option maxRecDepth 100000 in
set_option maxHeartbeats 4000000 in
theorem c_X7_partsAs (d : Nat) (l : Launch) (D : va_G) (X : XT) (q_t q_t_s q_t_k q_t_laid q_t_errors q_t_step q_t_named q_t_pile q_t_sums1 q_t_parts1 q_t_trace q_t_bits q_t_sizes q_t_number q_t_aside : Nat) (c_images : Int32) (c_at : Int32) (c_open : Int32) (c_steps : Int32) (c_use : Int32) (c_traced : Int32) (c_speaks : Int32) (c_isParted : Int32) (c_s : Nat → Int32) (c_trace : Nat → Int32) (x1 : Int32) (x2 : Int32) (Q : Int32 → (Int32) → (Int32) → (Nat → Int32) → Prop) (h : wp_X7_partsAs d x1 x2 c_traced c_speaks c_isParted c_s c_trace Q) : CTi l D X yX7_partsAs cX7_partsAs 5 .int (rm_X7_partsAs d) [.ref q_t, .int x1, .int x2] [(q_t, .inr (7, [.ref q_t_s, .ref q_t_k, .ref q_t_laid, .int c_images, .ref q_t_errors, .int c_at, .int c_open, .int c_steps, .int c_use, .ref q_t_step, .ref q_t_named, .ref q_t_pile, .ref q_t_sums1, .ref q_t_parts1, .int c_traced, .ref q_t_trace, .int c_speaks, .int c_isParted, .ref q_t_bits, .ref q_t_sizes, .ref q_t_number, .ref q_t_aside])), (q_t_s, .inl (X.cI, 476, .inl c_s)), (q_t_trace, .inl (X.cI, 30, .inl c_trace))] (fun (r : Int32) w => ∃ (c_traced' : Int32) (c_isParted' : Int32) (c_trace' : Nat → Int32), Q r c_traced' c_isParted' c_trace' ∧ w = [(q_t, .inr (7, [.ref q_t_s, .ref q_t_k, .ref q_t_laid, .int c_images, .ref q_t_errors, .int c_at, .int c_open, .int c_steps, .int c_use, .ref q_t_step, .ref q_t_named, .ref q_t_pile, .ref q_t_sums1, .ref q_t_parts1, .int c_traced', .ref q_t_trace, .int c_speaks, .int c_isParted', .ref q_t_bits, .ref q_t_sizes, .ref q_t_number, .ref q_t_aside])), (q_t_s, .inl (X.cI, 476, .inl c_s)), (q_t_trace, .inl (X.cI, 30, .inl c_trace'))]) :=
  (cg_X7_partsAs l D X d) q_t q_t_s q_t_k q_t_laid q_t_errors q_t_step q_t_named q_t_pile q_t_sums1 q_t_parts1 q_t_trace q_t_bits q_t_sizes q_t_number q_t_aside c_images c_at c_open c_steps c_use c_traced c_speaks c_isParted c_s c_trace x1 x2 Q h
set_option maxRecDepth 100000 in
set_option maxHeartbeats 4000000 in
theorem b_X7_voice_95 {g : GT} (G : GOOD g RX7 cX7_voice 6 rm_X7_voice) {q_t q_t_s q_t_k q_t_laid q_t_errors q_t_step q_t_named q_t_pile q_t_sums1 q_t_parts1 q_t_trace q_t_bits q_t_sizes q_t_number q_t_aside : Nat} {c_images : Int32} {c_at : Int32} {c_open : Int32} {c_steps : Int32} {c_use : Int32} {c_s : Nat → Int32} {Q : Int32 → (Int32) → (Int32) → (Int32) → (Nat → Int32) → (Nat → Int32) → Prop} (R : RETi g cX7_voice 4 (fun (r : Int32) w => ∃ (c_traced' : Int32) (c_speaks' : Int32) (c_isParted' : Int32) (c_errors' : Nat → Int32) (c_trace' : Nat → Int32), Q r c_traced' c_speaks' c_isParted' c_errors' c_trace' ∧ w = [(q_t, .inr (7, [.ref q_t_s, .ref q_t_k, .ref q_t_laid, .int c_images, .ref q_t_errors, .int c_at, .int c_open, .int c_steps, .int c_use, .ref q_t_step, .ref q_t_named, .ref q_t_pile, .ref q_t_sums1, .ref q_t_parts1, .int c_traced', .ref q_t_trace, .int c_speaks', .int c_isParted', .ref q_t_bits, .ref q_t_sizes, .ref q_t_number, .ref q_t_aside])), (q_t_s, .inl (g.X.cI, 476, .inl c_s)), (q_t_errors, .inl (g.X.cI, 7, .inl c_errors')), (q_t_trace, .inl (g.X.cI, 30, .inl c_trace'))])) {s0 : Int32} {c_traced : Int32} {c_speaks : Int32} {c_isParted : Int32} {c_errors : Nat → Int32} {c_trace : Nat → Int32} (h : wp_X7_voice_b95 Q c_s s0 c_traced c_speaks c_isParted c_errors c_trace) : ST g 0 0 95 [(0, .ref q_t)] [.int s0] [(q_t, .inr (7, [.ref q_t_s, .ref q_t_k, .ref q_t_laid, .int c_images, .ref q_t_errors, .int c_at, .int c_open, .int c_steps, .int c_use, .ref q_t_step, .ref q_t_named, .ref q_t_pile, .ref q_t_sums1, .ref q_t_parts1, .int c_traced, .ref q_t_trace, .int c_speaks, .int c_isParted, .ref q_t_bits, .ref q_t_sizes, .ref q_t_number, .ref q_t_aside])), (q_t_s, .inl (g.X.cI, 476, .inl c_s)), (q_t_errors, .inl (g.X.cI, 7, .inl c_errors)), (q_t_trace, .inl (g.X.cI, 30, .inl c_trace))] := by
  unfold wp_X7_voice_b95 at h
  refine st_istore G 97 rfl [(5, .int s0), (0, .ref q_t)] dX7_voice_95 (by decide) rfl ?_
  refine st_aload_n G 98 rfl 1 rfl dX7_voice_97 rfl ?_
  refine st_get G inX7 rfl 17 (by decide) wd_844 101 rfl 0 rfl rfl dX7_voice_98 ?_
  refine st_if_eq G 113 104 rfl dX7_voice_101 rfl (fun c => ?_) (fun c => ?_)
  · have h := h.1 c
    refine st_iload G 115 rfl 0 rfl dX7_voice_113 ?_
    exact R _ _ _ _ dX7_voice_115 (Nat.le_of_ble_eq_true rfl) ⟨_, _, _, _, _, h, rfl⟩
  have h := h.2 c
  refine st_aload_n G 105 rfl 1 rfl dX7_voice_104 rfl ?_
  refine st_bipush G 107 rfl (6 : Int32) (by decide) dX7_voice_105 ?_
  refine st_cVi G lk_X7_65 (c_X7_error g.l g.D g.X q_t q_t_s q_t_k q_t_laid q_t_errors q_t_step q_t_named q_t_pile q_t_sums1 q_t_parts1 q_t_trace q_t_bits q_t_sizes q_t_number q_t_aside c_images c_at c_open c_steps c_use c_traced c_speaks c_isParted c_errors (6 : Int32) _ h) ⟨rfl, rfl, ⟨Nat.le_of_ble_eq_true rfl, Nat.le_of_ble_eq_true rfl⟩, Nat.zero_le _, Nat.zero_le _⟩ 110 rfl [0, 2] rfl (by decide) 0 7 rfl rfl rfl (Nat.le_of_ble_eq_true rfl) rfl dX7_voice_107 (fun r_107 w hq => ?_)
  obtain ⟨c_errors_107, h, rfl⟩ := hq
  refine st_wp (ws' := [(q_t, .inr (7, [.ref q_t_s, .ref q_t_k, .ref q_t_laid, .int c_images, .ref q_t_errors, .int c_at, .int c_open, .int c_steps, .int c_use, .ref q_t_step, .ref q_t_named, .ref q_t_pile, .ref q_t_sums1, .ref q_t_parts1, .int c_traced, .ref q_t_trace, .int c_speaks, .int c_isParted, .ref q_t_bits, .ref q_t_sizes, .ref q_t_number, .ref q_t_aside])), (q_t_s, .inl (g.X.cI, 476, .inl c_s)), (q_t_errors, .inl (g.X.cI, 7, .inl c_errors_107)), (q_t_trace, .inl (g.X.cI, 30, .inl c_trace))]) 4 [1, 3] (by decide) rfl rfl (by rfl) [(q_t_s, .inl (g.X.cI, 476, .inl c_s)), (q_t_trace, .inl (g.X.cI, 30, .inl c_trace))] (by rfl) rfl ?_
  refine st_goto G 115 dX7_voice_110 rfl ?_
  exact R _ _ _ _ dX7_voice_115 (Nat.le_of_ble_eq_true rfl) ⟨_, _, _, _, _, h, rfl⟩
set_option maxRecDepth 100000 in
set_option maxHeartbeats 4000000 in
theorem b_X7_voice_e {g : GT} (G : GOOD g RX7 cX7_voice 6 rm_X7_voice) {q_t q_t_s q_t_k q_t_laid q_t_errors q_t_step q_t_named q_t_pile q_t_sums1 q_t_parts1 q_t_trace q_t_bits q_t_sizes q_t_number q_t_aside : Nat} {c_images : Int32} {c_at : Int32} {c_open : Int32} {c_steps : Int32} {c_use : Int32} {c_traced : Int32} {c_speaks : Int32} {c_isParted : Int32} {c_s : Nat → Int32} {c_errors : Nat → Int32} {c_trace : Nat → Int32} {x1 : Int32} {x2 : Int32} {x3 : Int32} {Q : Int32 → (Int32) → (Int32) → (Int32) → (Nat → Int32) → (Nat → Int32) → Prop} (R : RETi g cX7_voice 4 (fun (r : Int32) w => ∃ (c_traced' : Int32) (c_speaks' : Int32) (c_isParted' : Int32) (c_errors' : Nat → Int32) (c_trace' : Nat → Int32), Q r c_traced' c_speaks' c_isParted' c_errors' c_trace' ∧ w = [(q_t, .inr (7, [.ref q_t_s, .ref q_t_k, .ref q_t_laid, .int c_images, .ref q_t_errors, .int c_at, .int c_open, .int c_steps, .int c_use, .ref q_t_step, .ref q_t_named, .ref q_t_pile, .ref q_t_sums1, .ref q_t_parts1, .int c_traced', .ref q_t_trace, .int c_speaks', .int c_isParted', .ref q_t_bits, .ref q_t_sizes, .ref q_t_number, .ref q_t_aside])), (q_t_s, .inl (g.X.cI, 476, .inl c_s)), (q_t_errors, .inl (g.X.cI, 7, .inl c_errors')), (q_t_trace, .inl (g.X.cI, 30, .inl c_trace'))])) (h : wp_X7_voice x1 x2 x3 c_traced c_speaks c_isParted c_s c_errors c_trace Q) : ST g 0 0 0 [(0, .ref q_t), (1, .int x1), (2, .int x2), (3, .int x3)] [] [(q_t, .inr (7, [.ref q_t_s, .ref q_t_k, .ref q_t_laid, .int c_images, .ref q_t_errors, .int c_at, .int c_open, .int c_steps, .int c_use, .ref q_t_step, .ref q_t_named, .ref q_t_pile, .ref q_t_sums1, .ref q_t_parts1, .int c_traced, .ref q_t_trace, .int c_speaks, .int c_isParted, .ref q_t_bits, .ref q_t_sizes, .ref q_t_number, .ref q_t_aside])), (q_t_s, .inl (g.X.cI, 476, .inl c_s)), (q_t_errors, .inl (g.X.cI, 7, .inl c_errors)), (q_t_trace, .inl (g.X.cI, 30, .inl c_trace))] := by
  unfold wp_X7_voice at h
  refine st_aload_n G 1 rfl 0 rfl dX7_voice_0 rfl ?_
  refine st_iload_n G 2 rfl 1 rfl dX7_voice_1 rfl ?_
  refine st_cVio G lk_X7_156 (c_X7_isPerson g.l g.D g.X q_t q_t_s q_t_k q_t_laid q_t_errors q_t_step q_t_named q_t_pile q_t_sums1 q_t_parts1 q_t_trace q_t_bits q_t_sizes q_t_number q_t_aside c_images c_at c_open c_steps c_use c_traced c_speaks c_isParted c_s x1 _ h) ⟨rfl, rfl, ⟨Nat.le_of_ble_eq_true rfl, Nat.le_of_ble_eq_true rfl⟩, Nat.zero_le _, Nat.zero_le _⟩ 5 rfl [0, 1] rfl (by decide) 0 7 rfl rfl rfl (Nat.le_of_ble_eq_true rfl) rfl dX7_voice_2 (fun r_2 h => ?_)
  refine st_if_eq G 17 8 rfl dX7_voice_5 rfl (fun c => ?_) (fun c => ?_)
  · have h := h.1 c
    refine st_aload_n G 18 rfl 0 rfl dX7_voice_17 rfl ?_
    refine st_iconst G 19 rfl (1 : Int32) (by decide) dX7_voice_18 ?_
    refine st_cVi G lk_X7_65 (c_X7_error g.l g.D g.X q_t q_t_s q_t_k q_t_laid q_t_errors q_t_step q_t_named q_t_pile q_t_sums1 q_t_parts1 q_t_trace q_t_bits q_t_sizes q_t_number q_t_aside c_images c_at c_open c_steps c_use c_traced c_speaks c_isParted c_errors (1 : Int32) _ h) ⟨rfl, rfl, ⟨Nat.le_of_ble_eq_true rfl, Nat.le_of_ble_eq_true rfl⟩, Nat.zero_le _, Nat.zero_le _⟩ 22 rfl [0, 2] rfl (by decide) 0 7 rfl rfl rfl (Nat.le_of_ble_eq_true rfl) rfl dX7_voice_19 (fun r_19 w hq => ?_)
    obtain ⟨c_errors_19, h, rfl⟩ := hq
    refine st_wp (ws' := [(q_t, .inr (7, [.ref q_t_s, .ref q_t_k, .ref q_t_laid, .int c_images, .ref q_t_errors, .int c_at, .int c_open, .int c_steps, .int c_use, .ref q_t_step, .ref q_t_named, .ref q_t_pile, .ref q_t_sums1, .ref q_t_parts1, .int c_traced, .ref q_t_trace, .int c_speaks, .int c_isParted, .ref q_t_bits, .ref q_t_sizes, .ref q_t_number, .ref q_t_aside])), (q_t_s, .inl (g.X.cI, 476, .inl c_s)), (q_t_errors, .inl (g.X.cI, 7, .inl c_errors_19)), (q_t_trace, .inl (g.X.cI, 30, .inl c_trace))]) 4 [1, 3] (by decide) rfl rfl (by rfl) [(q_t_s, .inl (g.X.cI, 476, .inl c_s)), (q_t_trace, .inl (g.X.cI, 30, .inl c_trace))] (by rfl) rfl ?_
    exact R _ _ _ _ dX7_voice_22 (Nat.le_of_ble_eq_true rfl) ⟨_, _, _, _, _, h, rfl⟩
  have h := h.2 c
  refine st_iload_n G 9 rfl 2 rfl dX7_voice_8 rfl ?_
  refine st_iconst G 10 rfl (0 : Int32) (by decide) dX7_voice_9 ?_
  refine st_iconst G 11 rfl (3 : Int32) (by decide) dX7_voice_10 ?_
  refine st_cSio G lk_X7_53 (c_X7_in g.l g.D g.X x2 (0 : Int32) (3 : Int32) _ h) ⟨rfl, rfl, ⟨Nat.le_of_ble_eq_true rfl, Nat.le_of_ble_eq_true rfl⟩, Nat.zero_le _, Nat.zero_le _⟩ 14 rfl [] rfl (by decide) rfl (Nat.le_of_ble_eq_true rfl) rfl dX7_voice_11 (fun r_11 h => ?_)
  refine st_if_ne G 23 17 rfl dX7_voice_14 rfl (fun c => ?_) (fun c => ?_)
  · have h := h.1 c
    refine st_aload_n G 24 rfl 0 rfl dX7_voice_23 rfl ?_
    refine st_iconst G 25 rfl (0 : Int32) (by decide) dX7_voice_24 ?_
    refine st_put G inX7 tyX7 tyX7_ok nmX7 rfl 14 (by decide) wd_842 rfl [(q_t, .inr (7, [.ref q_t_s, .ref q_t_k, .ref q_t_laid, .int c_images, .ref q_t_errors, .int c_at, .int c_open, .int c_steps, .int c_use, .ref q_t_step, .ref q_t_named, .ref q_t_pile, .ref q_t_sums1, .ref q_t_parts1, .int (0 : Int32), .ref q_t_trace, .int c_speaks, .int c_isParted, .ref q_t_bits, .ref q_t_sizes, .ref q_t_number, .ref q_t_aside])), (q_t_s, .inl (g.X.cI, 476, .inl c_s)), (q_t_errors, .inl (g.X.cI, 7, .inl c_errors)), (q_t_trace, .inl (g.X.cI, 30, .inl c_trace))] 28 rfl 0 rfl rfl rfl (Nat.le_of_ble_eq_true rfl) rfl dX7_voice_25 ?_
    refine st_aload_n G 29 rfl 0 rfl dX7_voice_28 rfl ?_
    refine st_iload_n G 30 rfl 1 rfl dX7_voice_29 rfl ?_
    refine st_put G inX7 tyX7 tyX7_ok nmX7 rfl 16 (by decide) wd_843 rfl [(q_t, .inr (7, [.ref q_t_s, .ref q_t_k, .ref q_t_laid, .int c_images, .ref q_t_errors, .int c_at, .int c_open, .int c_steps, .int c_use, .ref q_t_step, .ref q_t_named, .ref q_t_pile, .ref q_t_sums1, .ref q_t_parts1, .int (0 : Int32), .ref q_t_trace, .int x1, .int c_isParted, .ref q_t_bits, .ref q_t_sizes, .ref q_t_number, .ref q_t_aside])), (q_t_s, .inl (g.X.cI, 476, .inl c_s)), (q_t_errors, .inl (g.X.cI, 7, .inl c_errors)), (q_t_trace, .inl (g.X.cI, 30, .inl c_trace))] 33 rfl 0 rfl rfl rfl (Nat.le_of_ble_eq_true rfl) rfl dX7_voice_30 ?_
    refine st_aload_n G 34 rfl 0 rfl dX7_voice_33 rfl ?_
    refine st_iconst G 35 rfl (0 : Int32) (by decide) dX7_voice_34 ?_
    refine st_put G inX7 tyX7 tyX7_ok nmX7 rfl 17 (by decide) wd_844 rfl [(q_t, .inr (7, [.ref q_t_s, .ref q_t_k, .ref q_t_laid, .int c_images, .ref q_t_errors, .int c_at, .int c_open, .int c_steps, .int c_use, .ref q_t_step, .ref q_t_named, .ref q_t_pile, .ref q_t_sums1, .ref q_t_parts1, .int (0 : Int32), .ref q_t_trace, .int x1, .int (0 : Int32), .ref q_t_bits, .ref q_t_sizes, .ref q_t_number, .ref q_t_aside])), (q_t_s, .inl (g.X.cI, 476, .inl c_s)), (q_t_errors, .inl (g.X.cI, 7, .inl c_errors)), (q_t_trace, .inl (g.X.cI, 30, .inl c_trace))] 38 rfl 0 rfl rfl rfl (Nat.le_of_ble_eq_true rfl) rfl dX7_voice_35 ?_
    refine st_aload_n G 39 rfl 0 rfl dX7_voice_38 rfl ?_
    refine st_cVio G lk_X7_250 (c_X7_kindNow g.l g.D g.X q_t q_t_s q_t_k q_t_laid q_t_errors q_t_step q_t_named q_t_pile q_t_sums1 q_t_parts1 q_t_trace q_t_bits q_t_sizes q_t_number q_t_aside c_images c_at c_open c_steps c_use (0 : Int32) x1 (0 : Int32) c_s _ h) ⟨rfl, rfl, ⟨Nat.le_of_ble_eq_true rfl, Nat.le_of_ble_eq_true rfl⟩, Nat.zero_le _, Nat.zero_le _⟩ 42 rfl [0, 1] rfl (by decide) 0 7 rfl rfl rfl (Nat.le_of_ble_eq_true rfl) rfl dX7_voice_39 (fun r_39 h => ?_)
    refine st_istore G 44 rfl [(4, .int r_39), (0, .ref q_t), (1, .int x1), (2, .int x2), (3, .int x3)] dX7_voice_42 (by decide) rfl ?_
    refine st_iload_n G 45 rfl 3 rfl dX7_voice_44 rfl ?_
    refine st_if_ne G 58 48 rfl dX7_voice_45 rfl (fun c => ?_) (fun c => ?_)
    · have h := h.1 c
      refine st_iload_n G 59 rfl 3 rfl dX7_voice_58 rfl ?_
      refine st_iconst G 60 rfl (1 : Int32) (by decide) dX7_voice_59 ?_
      refine st_icmp_ne G 73 63 rfl dX7_voice_60 rfl (fun c => ?_) (fun c => ?_)
      · have h := h.1 c
        refine st_iload_n G 74 rfl 3 rfl dX7_voice_73 rfl ?_
        refine st_iconst G 75 rfl (2 : Int32) (by decide) dX7_voice_74 ?_
        refine st_icmp_ne G 88 78 rfl dX7_voice_75 rfl (fun c => ?_) (fun c => ?_)
        · have h := h.1 c
          refine st_aload_n G 89 rfl 1 rfl dX7_voice_88 rfl ?_
          refine st_iload G 91 rfl 0 rfl dX7_voice_89 ?_
          refine st_iload_n G 92 rfl 4 rfl dX7_voice_91 rfl ?_
          refine st_cVi G lk_X7_266 (c_X7_partsAs 64 g.l g.D g.X q_t q_t_s q_t_k q_t_laid q_t_errors q_t_step q_t_named q_t_pile q_t_sums1 q_t_parts1 q_t_trace q_t_bits q_t_sizes q_t_number q_t_aside c_images c_at c_open c_steps c_use (0 : Int32) x1 (0 : Int32) c_s c_trace r_39 x3 _ h) ⟨rfl, rfl, ⟨Nat.le_of_ble_eq_true rfl, Nat.le_of_ble_eq_true rfl⟩, Nat.zero_le _, Nat.zero_le _⟩ 95 rfl [0, 1, 3] rfl (by decide) 0 7 rfl rfl rfl (Nat.le_of_ble_eq_true rfl) rfl dX7_voice_92 (fun r_92 w hq => ?_)
          obtain ⟨c_traced_92, c_isParted_92, c_trace_92, h, rfl⟩ := hq
          refine st_wp (ws' := [(q_t, .inr (7, [.ref q_t_s, .ref q_t_k, .ref q_t_laid, .int c_images, .ref q_t_errors, .int c_at, .int c_open, .int c_steps, .int c_use, .ref q_t_step, .ref q_t_named, .ref q_t_pile, .ref q_t_sums1, .ref q_t_parts1, .int c_traced_92, .ref q_t_trace, .int x1, .int c_isParted_92, .ref q_t_bits, .ref q_t_sizes, .ref q_t_number, .ref q_t_aside])), (q_t_s, .inl (g.X.cI, 476, .inl c_s)), (q_t_errors, .inl (g.X.cI, 7, .inl c_errors)), (q_t_trace, .inl (g.X.cI, 30, .inl c_trace_92))]) 4 [2] (by decide) rfl rfl (by rfl) [(q_t_errors, .inl (g.X.cI, 7, .inl c_errors))] (by rfl) rfl ?_
          refine st_L (L' := [(0, .ref q_t)]) [1] rfl ?_
          exact b_X7_voice_95 G R h
        have h := h.2 c
        refine st_aload_n G 79 rfl 1 rfl dX7_voice_78 rfl ?_
        refine st_iload G 81 rfl 0 rfl dX7_voice_79 ?_
        refine st_iload_n G 82 rfl 4 rfl dX7_voice_81 rfl ?_
        refine st_cVi G lk_X7_259 (c_X7_airsAs 64 g.l g.D g.X q_t q_t_s q_t_k q_t_laid q_t_errors q_t_step q_t_named q_t_pile q_t_sums1 q_t_parts1 q_t_trace q_t_bits q_t_sizes q_t_number q_t_aside c_images c_at c_open c_steps c_use (0 : Int32) x1 (0 : Int32) c_s c_trace r_39 x3 _ h) ⟨rfl, rfl, ⟨Nat.le_of_ble_eq_true rfl, Nat.le_of_ble_eq_true rfl⟩, Nat.zero_le _, Nat.zero_le _⟩ 85 rfl [0, 1, 3] rfl (by decide) 0 7 rfl rfl rfl (Nat.le_of_ble_eq_true rfl) rfl dX7_voice_82 (fun r_82 w hq => ?_)
        obtain ⟨c_traced_82, c_trace_82, h, rfl⟩ := hq
        refine st_wp (ws' := [(q_t, .inr (7, [.ref q_t_s, .ref q_t_k, .ref q_t_laid, .int c_images, .ref q_t_errors, .int c_at, .int c_open, .int c_steps, .int c_use, .ref q_t_step, .ref q_t_named, .ref q_t_pile, .ref q_t_sums1, .ref q_t_parts1, .int c_traced_82, .ref q_t_trace, .int x1, .int (0 : Int32), .ref q_t_bits, .ref q_t_sizes, .ref q_t_number, .ref q_t_aside])), (q_t_s, .inl (g.X.cI, 476, .inl c_s)), (q_t_errors, .inl (g.X.cI, 7, .inl c_errors)), (q_t_trace, .inl (g.X.cI, 30, .inl c_trace_82))]) 4 [2] (by decide) rfl rfl (by rfl) [(q_t_errors, .inl (g.X.cI, 7, .inl c_errors))] (by rfl) rfl ?_
        refine st_goto G 95 dX7_voice_85 rfl ?_
        refine st_L (L' := [(0, .ref q_t)]) [1] rfl ?_
        exact b_X7_voice_95 G R h
      have h := h.2 c
      refine st_aload_n G 64 rfl 1 rfl dX7_voice_63 rfl ?_
      refine st_iload G 66 rfl 0 rfl dX7_voice_64 ?_
      refine st_iload_n G 67 rfl 4 rfl dX7_voice_66 rfl ?_
      refine st_cVi G lk_X7_253 (c_X7_wringsAs 64 g.l g.D g.X q_t q_t_s q_t_k q_t_laid q_t_errors q_t_step q_t_named q_t_pile q_t_sums1 q_t_parts1 q_t_trace q_t_bits q_t_sizes q_t_number q_t_aside c_images c_at c_open c_steps c_use (0 : Int32) x1 (0 : Int32) c_s c_trace r_39 x3 _ h) ⟨rfl, rfl, ⟨Nat.le_of_ble_eq_true rfl, Nat.le_of_ble_eq_true rfl⟩, Nat.zero_le _, Nat.zero_le _⟩ 70 rfl [0, 1, 3] rfl (by decide) 0 7 rfl rfl rfl (Nat.le_of_ble_eq_true rfl) rfl dX7_voice_67 (fun r_67 w hq => ?_)
      obtain ⟨c_traced_67, c_trace_67, h, rfl⟩ := hq
      refine st_wp (ws' := [(q_t, .inr (7, [.ref q_t_s, .ref q_t_k, .ref q_t_laid, .int c_images, .ref q_t_errors, .int c_at, .int c_open, .int c_steps, .int c_use, .ref q_t_step, .ref q_t_named, .ref q_t_pile, .ref q_t_sums1, .ref q_t_parts1, .int c_traced_67, .ref q_t_trace, .int x1, .int (0 : Int32), .ref q_t_bits, .ref q_t_sizes, .ref q_t_number, .ref q_t_aside])), (q_t_s, .inl (g.X.cI, 476, .inl c_s)), (q_t_errors, .inl (g.X.cI, 7, .inl c_errors)), (q_t_trace, .inl (g.X.cI, 30, .inl c_trace_67))]) 4 [2] (by decide) rfl rfl (by rfl) [(q_t_errors, .inl (g.X.cI, 7, .inl c_errors))] (by rfl) rfl ?_
      refine st_goto G 95 dX7_voice_70 rfl ?_
      refine st_L (L' := [(0, .ref q_t)]) [1] rfl ?_
      exact b_X7_voice_95 G R h
    have h := h.2 c
    refine st_aload_n G 49 rfl 1 rfl dX7_voice_48 rfl ?_
    refine st_iload G 51 rfl 0 rfl dX7_voice_49 ?_
    refine st_iload_n G 52 rfl 4 rfl dX7_voice_51 rfl ?_
    refine st_cVi G lk_X7_247 (c_X7_washesAs 64 g.l g.D g.X q_t q_t_s q_t_k q_t_laid q_t_errors q_t_step q_t_named q_t_pile q_t_sums1 q_t_parts1 q_t_trace q_t_bits q_t_sizes q_t_number q_t_aside c_images c_at c_open c_steps c_use (0 : Int32) x1 (0 : Int32) c_trace r_39 x3 _ h) ⟨rfl, rfl, ⟨Nat.le_of_ble_eq_true rfl, Nat.le_of_ble_eq_true rfl⟩, Nat.zero_le _, Nat.zero_le _⟩ 55 rfl [0, 3] rfl (by decide) 0 7 rfl rfl rfl (Nat.le_of_ble_eq_true rfl) rfl dX7_voice_52 (fun r_52 w hq => ?_)
    obtain ⟨c_traced_52, c_trace_52, h, rfl⟩ := hq
    refine st_wp (ws' := [(q_t, .inr (7, [.ref q_t_s, .ref q_t_k, .ref q_t_laid, .int c_images, .ref q_t_errors, .int c_at, .int c_open, .int c_steps, .int c_use, .ref q_t_step, .ref q_t_named, .ref q_t_pile, .ref q_t_sums1, .ref q_t_parts1, .int c_traced_52, .ref q_t_trace, .int x1, .int (0 : Int32), .ref q_t_bits, .ref q_t_sizes, .ref q_t_number, .ref q_t_aside])), (q_t_s, .inl (g.X.cI, 476, .inl c_s)), (q_t_errors, .inl (g.X.cI, 7, .inl c_errors)), (q_t_trace, .inl (g.X.cI, 30, .inl c_trace_52))]) 4 [1, 2] (by decide) rfl rfl (by rfl) [(q_t_s, .inl (g.X.cI, 476, .inl c_s)), (q_t_errors, .inl (g.X.cI, 7, .inl c_errors))] (by rfl) rfl ?_
    refine st_goto G 95 dX7_voice_55 rfl ?_
    refine st_L (L' := [(0, .ref q_t)]) [1] rfl ?_
    exact b_X7_voice_95 G R h
  have h := h.2 c
  refine st_aload_n G 18 rfl 0 rfl dX7_voice_17 rfl ?_
  refine st_iconst G 19 rfl (1 : Int32) (by decide) dX7_voice_18 ?_
  refine st_cVi G lk_X7_65 (c_X7_error g.l g.D g.X q_t q_t_s q_t_k q_t_laid q_t_errors q_t_step q_t_named q_t_pile q_t_sums1 q_t_parts1 q_t_trace q_t_bits q_t_sizes q_t_number q_t_aside c_images c_at c_open c_steps c_use c_traced c_speaks c_isParted c_errors (1 : Int32) _ h) ⟨rfl, rfl, ⟨Nat.le_of_ble_eq_true rfl, Nat.le_of_ble_eq_true rfl⟩, Nat.zero_le _, Nat.zero_le _⟩ 22 rfl [0, 2] rfl (by decide) 0 7 rfl rfl rfl (Nat.le_of_ble_eq_true rfl) rfl dX7_voice_19 (fun r_19 w hq => ?_)
  obtain ⟨c_errors_19, h, rfl⟩ := hq
  refine st_wp (ws' := [(q_t, .inr (7, [.ref q_t_s, .ref q_t_k, .ref q_t_laid, .int c_images, .ref q_t_errors, .int c_at, .int c_open, .int c_steps, .int c_use, .ref q_t_step, .ref q_t_named, .ref q_t_pile, .ref q_t_sums1, .ref q_t_parts1, .int c_traced, .ref q_t_trace, .int c_speaks, .int c_isParted, .ref q_t_bits, .ref q_t_sizes, .ref q_t_number, .ref q_t_aside])), (q_t_s, .inl (g.X.cI, 476, .inl c_s)), (q_t_errors, .inl (g.X.cI, 7, .inl c_errors_19)), (q_t_trace, .inl (g.X.cI, 30, .inl c_trace))]) 4 [1, 3] (by decide) rfl rfl (by rfl) [(q_t_s, .inl (g.X.cI, 476, .inl c_s)), (q_t_trace, .inl (g.X.cI, 30, .inl c_trace))] (by rfl) rfl ?_
  exact R _ _ _ _ dX7_voice_22 (Nat.le_of_ble_eq_true rfl) ⟨_, _, _, _, _, h, rfl⟩
set_option maxRecDepth 100000 in
set_option maxHeartbeats 4000000 in
theorem c_X7_voice (l : Launch) (D : va_G) (X : XT) (q_t q_t_s q_t_k q_t_laid q_t_errors q_t_step q_t_named q_t_pile q_t_sums1 q_t_parts1 q_t_trace q_t_bits q_t_sizes q_t_number q_t_aside : Nat) (c_images : Int32) (c_at : Int32) (c_open : Int32) (c_steps : Int32) (c_use : Int32) (c_traced : Int32) (c_speaks : Int32) (c_isParted : Int32) (c_s : Nat → Int32) (c_errors : Nat → Int32) (c_trace : Nat → Int32) (x1 : Int32) (x2 : Int32) (x3 : Int32) (Q : Int32 → (Int32) → (Int32) → (Int32) → (Nat → Int32) → (Nat → Int32) → Prop) (h : wp_X7_voice x1 x2 x3 c_traced c_speaks c_isParted c_s c_errors c_trace Q) : CTi l D X yX7_voice cX7_voice 6 .int rm_X7_voice [.ref q_t, .int x1, .int x2, .int x3] [(q_t, .inr (7, [.ref q_t_s, .ref q_t_k, .ref q_t_laid, .int c_images, .ref q_t_errors, .int c_at, .int c_open, .int c_steps, .int c_use, .ref q_t_step, .ref q_t_named, .ref q_t_pile, .ref q_t_sums1, .ref q_t_parts1, .int c_traced, .ref q_t_trace, .int c_speaks, .int c_isParted, .ref q_t_bits, .ref q_t_sizes, .ref q_t_number, .ref q_t_aside])), (q_t_s, .inl (X.cI, 476, .inl c_s)), (q_t_errors, .inl (X.cI, 7, .inl c_errors)), (q_t_trace, .inl (X.cI, 30, .inl c_trace))] (fun (r : Int32) w => ∃ (c_traced' : Int32) (c_speaks' : Int32) (c_isParted' : Int32) (c_errors' : Nat → Int32) (c_trace' : Nat → Int32), Q r c_traced' c_speaks' c_isParted' c_errors' c_trace' ∧ w = [(q_t, .inr (7, [.ref q_t_s, .ref q_t_k, .ref q_t_laid, .int c_images, .ref q_t_errors, .int c_at, .int c_open, .int c_steps, .int c_use, .ref q_t_step, .ref q_t_named, .ref q_t_pile, .ref q_t_sums1, .ref q_t_parts1, .int c_traced', .ref q_t_trace, .int c_speaks', .int c_isParted', .ref q_t_bits, .ref q_t_sizes, .ref q_t_number, .ref q_t_aside])), (q_t_s, .inl (X.cI, 476, .inl c_s)), (q_t_errors, .inl (X.cI, 7, .inl c_errors')), (q_t_trace, .inl (X.cI, 30, .inl c_trace'))]) :=
  ct_i (by decide) (Nat.le_of_ble_eq_true rfl) (fun g hl hD hX G R => by subst hl; subst hD; subst hX; exact b_X7_voice_e G R h)
set_option maxRecDepth 100000 in
set_option maxHeartbeats 4000000 in
theorem b_X7_body_e {g : GT} (G : GOOD g RX7 cX7_body 2 rm_X7_body) {q_t q_t_s q_t_k q_t_laid q_t_errors q_t_step q_t_named q_t_pile q_t_sums1 q_t_parts1 q_t_trace q_t_bits q_t_sizes q_t_number q_t_aside : Nat} {c_images : Int32} {c_at : Int32} {c_open : Int32} {c_steps : Int32} {c_use : Int32} {c_traced : Int32} {c_speaks : Int32} {c_isParted : Int32} {c_errors : Nat → Int32} {c_trace : Nat → Int32} {x1 : Int32} {Q : Int32 → (Nat → Int32) → Prop} (R : RETi g cX7_body 3 (fun (r : Int32) w => ∃ (c_errors' : Nat → Int32), Q r c_errors' ∧ w = [(q_t, .inr (7, [.ref q_t_s, .ref q_t_k, .ref q_t_laid, .int c_images, .ref q_t_errors, .int c_at, .int c_open, .int c_steps, .int c_use, .ref q_t_step, .ref q_t_named, .ref q_t_pile, .ref q_t_sums1, .ref q_t_parts1, .int c_traced, .ref q_t_trace, .int c_speaks, .int c_isParted, .ref q_t_bits, .ref q_t_sizes, .ref q_t_number, .ref q_t_aside])), (q_t_errors, .inl (g.X.cI, 7, .inl c_errors')), (q_t_trace, .inl (g.X.cI, 30, .inl c_trace))])) (h : wp_X7_body x1 c_traced c_errors c_trace Q) : ST g 0 0 0 [(0, .ref q_t), (1, .int x1)] [] [(q_t, .inr (7, [.ref q_t_s, .ref q_t_k, .ref q_t_laid, .int c_images, .ref q_t_errors, .int c_at, .int c_open, .int c_steps, .int c_use, .ref q_t_step, .ref q_t_named, .ref q_t_pile, .ref q_t_sums1, .ref q_t_parts1, .int c_traced, .ref q_t_trace, .int c_speaks, .int c_isParted, .ref q_t_bits, .ref q_t_sizes, .ref q_t_number, .ref q_t_aside])), (q_t_errors, .inl (g.X.cI, 7, .inl c_errors)), (q_t_trace, .inl (g.X.cI, 30, .inl c_trace))] := by
  unfold wp_X7_body at h
  refine st_iload_n G 1 rfl 1 rfl dX7_body_0 rfl ?_
  refine st_iconst G 2 rfl (0 : Int32) (by decide) dX7_body_1 ?_
  refine st_aload_n G 3 rfl 0 rfl dX7_body_2 rfl ?_
  refine st_get G inX7 rfl 14 (by decide) wd_842 6 rfl 0 rfl rfl dX7_body_3 ?_
  refine st_iconst G 7 rfl (1 : Int32) (by decide) dX7_body_6 ?_
  refine st_isub G 8 rfl dX7_body_7 ?_
  refine st_cSio G lk_X7_53 (c_X7_in g.l g.D g.X x1 (0 : Int32) (c_traced - (1 : Int32)) _ h) ⟨rfl, rfl, ⟨Nat.le_of_ble_eq_true rfl, Nat.le_of_ble_eq_true rfl⟩, Nat.zero_le _, Nat.zero_le _⟩ 11 rfl [] rfl (by decide) rfl (Nat.le_of_ble_eq_true rfl) rfl dX7_body_8 (fun r_8 h => ?_)
  refine st_if_eq G 23 14 rfl dX7_body_11 rfl (fun c => ?_) (fun c => ?_)
  · have h := h.1 c
    refine st_aload_n G 24 rfl 0 rfl dX7_body_23 rfl ?_
    refine st_iconst G 25 rfl (2 : Int32) (by decide) dX7_body_24 ?_
    refine st_cVi G lk_X7_65 (c_X7_error g.l g.D g.X q_t q_t_s q_t_k q_t_laid q_t_errors q_t_step q_t_named q_t_pile q_t_sums1 q_t_parts1 q_t_trace q_t_bits q_t_sizes q_t_number q_t_aside c_images c_at c_open c_steps c_use c_traced c_speaks c_isParted c_errors (2 : Int32) _ h) ⟨rfl, rfl, ⟨Nat.le_of_ble_eq_true rfl, Nat.le_of_ble_eq_true rfl⟩, Nat.zero_le _, Nat.zero_le _⟩ 28 rfl [0, 1] rfl (by decide) 0 7 rfl rfl rfl (Nat.le_of_ble_eq_true rfl) rfl dX7_body_25 (fun r_25 w hq => ?_)
    obtain ⟨c_errors_25, h, rfl⟩ := hq
    refine st_wp (ws' := [(q_t, .inr (7, [.ref q_t_s, .ref q_t_k, .ref q_t_laid, .int c_images, .ref q_t_errors, .int c_at, .int c_open, .int c_steps, .int c_use, .ref q_t_step, .ref q_t_named, .ref q_t_pile, .ref q_t_sums1, .ref q_t_parts1, .int c_traced, .ref q_t_trace, .int c_speaks, .int c_isParted, .ref q_t_bits, .ref q_t_sizes, .ref q_t_number, .ref q_t_aside])), (q_t_errors, .inl (g.X.cI, 7, .inl c_errors_25)), (q_t_trace, .inl (g.X.cI, 30, .inl c_trace))]) 3 [2] (by decide) rfl rfl (by rfl) [(q_t_trace, .inl (g.X.cI, 30, .inl c_trace))] (by rfl) rfl ?_
    exact R _ _ _ _ dX7_body_28 (Nat.le_of_ble_eq_true rfl) ⟨_, h, rfl⟩
  have h := h.2 c
  refine st_aload_n G 15 rfl 0 rfl dX7_body_14 rfl ?_
  refine st_get G inX7 rfl 15 (by decide) wd_91 18 rfl 0 rfl rfl dX7_body_15 ?_
  refine st_iload_n G 19 rfl 1 rfl dX7_body_18 rfl ?_
  obtain ⟨hin, h⟩ := h
  refine st_iald G 20 rfl 2 rfl hin dX7_body_19 ?_
  refine st_goto G 28 dX7_body_20 rfl ?_
  exact R _ _ _ _ dX7_body_28 (Nat.le_of_ble_eq_true rfl) ⟨_, h, rfl⟩
set_option maxRecDepth 100000 in
set_option maxHeartbeats 4000000 in
theorem c_X7_body (l : Launch) (D : va_G) (X : XT) (q_t q_t_s q_t_k q_t_laid q_t_errors q_t_step q_t_named q_t_pile q_t_sums1 q_t_parts1 q_t_trace q_t_bits q_t_sizes q_t_number q_t_aside : Nat) (c_images : Int32) (c_at : Int32) (c_open : Int32) (c_steps : Int32) (c_use : Int32) (c_traced : Int32) (c_speaks : Int32) (c_isParted : Int32) (c_errors : Nat → Int32) (c_trace : Nat → Int32) (x1 : Int32) (Q : Int32 → (Nat → Int32) → Prop) (h : wp_X7_body x1 c_traced c_errors c_trace Q) : CTi l D X yX7_body cX7_body 2 .int rm_X7_body [.ref q_t, .int x1] [(q_t, .inr (7, [.ref q_t_s, .ref q_t_k, .ref q_t_laid, .int c_images, .ref q_t_errors, .int c_at, .int c_open, .int c_steps, .int c_use, .ref q_t_step, .ref q_t_named, .ref q_t_pile, .ref q_t_sums1, .ref q_t_parts1, .int c_traced, .ref q_t_trace, .int c_speaks, .int c_isParted, .ref q_t_bits, .ref q_t_sizes, .ref q_t_number, .ref q_t_aside])), (q_t_errors, .inl (X.cI, 7, .inl c_errors)), (q_t_trace, .inl (X.cI, 30, .inl c_trace))] (fun (r : Int32) w => ∃ (c_errors' : Nat → Int32), Q r c_errors' ∧ w = [(q_t, .inr (7, [.ref q_t_s, .ref q_t_k, .ref q_t_laid, .int c_images, .ref q_t_errors, .int c_at, .int c_open, .int c_steps, .int c_use, .ref q_t_step, .ref q_t_named, .ref q_t_pile, .ref q_t_sums1, .ref q_t_parts1, .int c_traced, .ref q_t_trace, .int c_speaks, .int c_isParted, .ref q_t_bits, .ref q_t_sizes, .ref q_t_number, .ref q_t_aside])), (q_t_errors, .inl (X.cI, 7, .inl c_errors')), (q_t_trace, .inl (X.cI, 30, .inl c_trace))]) :=
  ct_i (by decide) (Nat.le_of_ble_eq_true rfl) (fun g hl hD hX G R => by subst hl; subst hD; subst hX; exact b_X7_body_e G R h)
set_option maxRecDepth 100000 in
set_option maxHeartbeats 4000000 in
theorem b_X7_sheet_90 {g : GT} (G : GOOD g RX7 cX7_sheet 5 rm_X7_sheet) {q_t q_t_s q_t_k q_t_laid q_t_errors q_t_step q_t_named q_t_pile q_t_sums1 q_t_parts1 q_t_trace q_t_bits q_t_sizes q_t_number q_t_aside : Nat} {c_images : Int32} {c_at : Int32} {c_open : Int32} {c_steps : Int32} {c_use : Int32} {c_traced : Int32} {c_speaks : Int32} {c_isParted : Int32} {Q : Int32 → (Nat → Int32) → (Nat → Int32) → (Nat → Int32) → (Nat → Int32) → Prop} (R : RETi g cX7_sheet 5 (fun (r : Int32) w => ∃ (c_errors' : Nat → Int32) (c_bits' : Nat → Int32) (c_sizes' : Nat → Int32) (c_number' : Nat → Int32), Q r c_errors' c_bits' c_sizes' c_number' ∧ w = [(q_t, .inr (7, [.ref q_t_s, .ref q_t_k, .ref q_t_laid, .int c_images, .ref q_t_errors, .int c_at, .int c_open, .int c_steps, .int c_use, .ref q_t_step, .ref q_t_named, .ref q_t_pile, .ref q_t_sums1, .ref q_t_parts1, .int c_traced, .ref q_t_trace, .int c_speaks, .int c_isParted, .ref q_t_bits, .ref q_t_sizes, .ref q_t_number, .ref q_t_aside])), (q_t_errors, .inl (g.X.cI, 7, .inl c_errors')), (q_t_bits, .inl (g.X.cI, 4, .inl c_bits')), (q_t_sizes, .inl (g.X.cI, 4, .inl c_sizes')), (q_t_number, .inl (g.X.cI, 96, .inl c_number'))])) : ∀ (n : Nat) (x1 : Int32) (x4 : Int32) (c_errors : Nat → Int32) (c_bits : Nat → Int32) (c_sizes : Nat → Int32) (c_number : Nat → Int32), wp_X7_sheet_b90 Q n x1 x4 c_errors c_bits c_sizes c_number → ST g 0 0 90 [(0, .ref q_t), (1, .int x1), (4, .int x4)] [] [(q_t, .inr (7, [.ref q_t_s, .ref q_t_k, .ref q_t_laid, .int c_images, .ref q_t_errors, .int c_at, .int c_open, .int c_steps, .int c_use, .ref q_t_step, .ref q_t_named, .ref q_t_pile, .ref q_t_sums1, .ref q_t_parts1, .int c_traced, .ref q_t_trace, .int c_speaks, .int c_isParted, .ref q_t_bits, .ref q_t_sizes, .ref q_t_number, .ref q_t_aside])), (q_t_errors, .inl (g.X.cI, 7, .inl c_errors)), (q_t_bits, .inl (g.X.cI, 4, .inl c_bits)), (q_t_sizes, .inl (g.X.cI, 4, .inl c_sizes)), (q_t_number, .inl (g.X.cI, 96, .inl c_number))] := by
  intro n
  induction n with
  | zero => intro x1 x4 c_errors c_bits c_sizes c_number h; exact False.elim h
  | succ n hK90 =>
    intro x1 x4 c_errors c_bits c_sizes c_number h
    unfold wp_X7_sheet_b90 at h
    refine st_iload G 92 rfl 2 rfl dX7_sheet_90 ?_
    refine st_bipush G 94 rfl (24 : Int32) (by decide) dX7_sheet_92 ?_
    refine st_icmp_ge G 116 97 rfl dX7_sheet_94 rfl (fun c => ?_) (fun c => ?_)
    · have h := h.1 c
      refine st_iconst G 117 rfl (1 : Int32) (by decide) dX7_sheet_116 ?_
      exact R _ _ _ _ dX7_sheet_117 (Nat.le_of_ble_eq_true rfl) ⟨_, _, _, _, h, rfl⟩
    have h := h.2 c
    refine st_aload_n G 98 rfl 0 rfl dX7_sheet_97 rfl ?_
    refine st_get G inX7 rfl 20 (by decide) wd_94 101 rfl 0 rfl rfl dX7_sheet_98 ?_
    refine st_bipush G 103 rfl (24 : Int32) (by decide) dX7_sheet_101 ?_
    refine st_iload_n G 104 rfl 1 rfl dX7_sheet_103 rfl ?_
    refine st_imul G 105 rfl dX7_sheet_104 ?_
    refine st_iload G 107 rfl 2 rfl dX7_sheet_105 ?_
    refine st_iadd G 108 rfl dX7_sheet_107 ?_
    refine st_iconst G 109 rfl (0 : Int32) (by decide) dX7_sheet_108 ?_
    obtain ⟨hin, h⟩ := h
    obtain ⟨c_number_109, ec_number_109⟩ : ∃ y : Nat → Int32, y = upd c_number (((24 : Int32) * x1) + x4).toNatClampNeg (0 : Int32) := ⟨_, rfl⟩
    have h := h c_number_109 ec_number_109
    refine st_iast G [(q_t, .inr (7, [.ref q_t_s, .ref q_t_k, .ref q_t_laid, .int c_images, .ref q_t_errors, .int c_at, .int c_open, .int c_steps, .int c_use, .ref q_t_step, .ref q_t_named, .ref q_t_pile, .ref q_t_sums1, .ref q_t_parts1, .int c_traced, .ref q_t_trace, .int c_speaks, .int c_isParted, .ref q_t_bits, .ref q_t_sizes, .ref q_t_number, .ref q_t_aside])), (q_t_errors, .inl (g.X.cI, 7, .inl c_errors)), (q_t_bits, .inl (g.X.cI, 4, .inl c_bits)), (q_t_sizes, .inl (g.X.cI, 4, .inl c_sizes)), (q_t_number, .inl (g.X.cI, 96, .inl c_number_109))] 110 rfl 4 rfl hin (by subst ec_number_109; rfl) dX7_sheet_109 ?_
    obtain ⟨x4_110, ex4_110⟩ : ∃ y : Int32, y = (x4 + (1 : Int32)) := ⟨_, rfl⟩
    have h := h x4_110 ex4_110
    refine st_iinc G 113 rfl [(4, .int x4_110), (0, .ref q_t), (1, .int x1)] x4_110 2 rfl (by rw [ex4_110]; rfl) dX7_sheet_110 (by decide) rfl ?_
    refine st_goto G 90 dX7_sheet_113 rfl ?_
    refine st_L (L' := [(0, .ref q_t), (1, .int x1), (4, .int x4_110)]) [1, 2, 0] rfl ?_
    exact hK90 _ _ _ _ _ _ h
set_option maxRecDepth 100000 in
set_option maxHeartbeats 4000000 in
theorem b_X7_sheet_49 {g : GT} (G : GOOD g RX7 cX7_sheet 5 rm_X7_sheet) {q_t q_t_s q_t_k q_t_laid q_t_errors q_t_step q_t_named q_t_pile q_t_sums1 q_t_parts1 q_t_trace q_t_bits q_t_sizes q_t_number q_t_aside : Nat} {c_images : Int32} {c_at : Int32} {c_open : Int32} {c_steps : Int32} {c_use : Int32} {c_traced : Int32} {c_speaks : Int32} {c_isParted : Int32} {Q : Int32 → (Nat → Int32) → (Nat → Int32) → (Nat → Int32) → (Nat → Int32) → Prop} (R : RETi g cX7_sheet 5 (fun (r : Int32) w => ∃ (c_errors' : Nat → Int32) (c_bits' : Nat → Int32) (c_sizes' : Nat → Int32) (c_number' : Nat → Int32), Q r c_errors' c_bits' c_sizes' c_number' ∧ w = [(q_t, .inr (7, [.ref q_t_s, .ref q_t_k, .ref q_t_laid, .int c_images, .ref q_t_errors, .int c_at, .int c_open, .int c_steps, .int c_use, .ref q_t_step, .ref q_t_named, .ref q_t_pile, .ref q_t_sums1, .ref q_t_parts1, .int c_traced, .ref q_t_trace, .int c_speaks, .int c_isParted, .ref q_t_bits, .ref q_t_sizes, .ref q_t_number, .ref q_t_aside])), (q_t_errors, .inl (g.X.cI, 7, .inl c_errors')), (q_t_bits, .inl (g.X.cI, 4, .inl c_bits')), (q_t_sizes, .inl (g.X.cI, 4, .inl c_sizes')), (q_t_number, .inl (g.X.cI, 96, .inl c_number'))])) {x1 : Int32} {x2 : Int32} {x3 : Int32} {c_errors : Nat → Int32} {c_bits : Nat → Int32} {c_sizes : Nat → Int32} {c_number : Nat → Int32} (h : wp_X7_sheet_b49 Q x1 x2 x3 c_errors c_bits c_sizes c_number) : ST g 0 0 49 [(0, .ref q_t), (1, .int x1), (2, .int x2), (3, .int x3)] [] [(q_t, .inr (7, [.ref q_t_s, .ref q_t_k, .ref q_t_laid, .int c_images, .ref q_t_errors, .int c_at, .int c_open, .int c_steps, .int c_use, .ref q_t_step, .ref q_t_named, .ref q_t_pile, .ref q_t_sums1, .ref q_t_parts1, .int c_traced, .ref q_t_trace, .int c_speaks, .int c_isParted, .ref q_t_bits, .ref q_t_sizes, .ref q_t_number, .ref q_t_aside])), (q_t_errors, .inl (g.X.cI, 7, .inl c_errors)), (q_t_bits, .inl (g.X.cI, 4, .inl c_bits)), (q_t_sizes, .inl (g.X.cI, 4, .inl c_sizes)), (q_t_number, .inl (g.X.cI, 96, .inl c_number))] := by
  unfold wp_X7_sheet_b49 at h
  refine st_iload_n G 50 rfl 2 rfl dX7_sheet_49 rfl ?_
  refine st_if_eq G 65 53 rfl dX7_sheet_50 rfl (fun c => ?_) (fun c => ?_)
  · have h := h.1 c
    refine st_aload_n G 66 rfl 0 rfl dX7_sheet_65 rfl ?_
    refine st_get G inX7 rfl 18 (by decide) wd_92 69 rfl 0 rfl rfl dX7_sheet_66 ?_
    refine st_iload_n G 70 rfl 1 rfl dX7_sheet_69 rfl ?_
    refine st_iload_n G 71 rfl 2 rfl dX7_sheet_70 rfl ?_
    obtain ⟨hin, h⟩ := h
    obtain ⟨c_bits_71, ec_bits_71⟩ : ∃ y : Nat → Int32, y = upd c_bits x1.toNatClampNeg x2 := ⟨_, rfl⟩
    have h := h c_bits_71 ec_bits_71
    refine st_iast G [(q_t, .inr (7, [.ref q_t_s, .ref q_t_k, .ref q_t_laid, .int c_images, .ref q_t_errors, .int c_at, .int c_open, .int c_steps, .int c_use, .ref q_t_step, .ref q_t_named, .ref q_t_pile, .ref q_t_sums1, .ref q_t_parts1, .int c_traced, .ref q_t_trace, .int c_speaks, .int c_isParted, .ref q_t_bits, .ref q_t_sizes, .ref q_t_number, .ref q_t_aside])), (q_t_errors, .inl (g.X.cI, 7, .inl c_errors)), (q_t_bits, .inl (g.X.cI, 4, .inl c_bits_71)), (q_t_sizes, .inl (g.X.cI, 4, .inl c_sizes)), (q_t_number, .inl (g.X.cI, 96, .inl c_number))] 72 rfl 2 rfl hin (by subst ec_bits_71; rfl) dX7_sheet_71 ?_
    refine st_aload_n G 73 rfl 0 rfl dX7_sheet_72 rfl ?_
    refine st_get G inX7 rfl 19 (by decide) wd_93 76 rfl 0 rfl rfl dX7_sheet_73 ?_
    refine st_iload_n G 77 rfl 1 rfl dX7_sheet_76 rfl ?_
    refine st_iload_n G 78 rfl 2 rfl dX7_sheet_77 rfl ?_
    refine st_if_ne G 85 81 rfl dX7_sheet_78 rfl (fun c => ?_) (fun c => ?_)
    · have h := h.1 c
      refine st_iload_n G 86 rfl 3 rfl dX7_sheet_85 rfl ?_
      obtain ⟨hin, h⟩ := h
      obtain ⟨c_sizes_86, ec_sizes_86⟩ : ∃ y : Nat → Int32, y = upd c_sizes x1.toNatClampNeg x3 := ⟨_, rfl⟩
      have h := h c_sizes_86 ec_sizes_86
      refine st_iast G [(q_t, .inr (7, [.ref q_t_s, .ref q_t_k, .ref q_t_laid, .int c_images, .ref q_t_errors, .int c_at, .int c_open, .int c_steps, .int c_use, .ref q_t_step, .ref q_t_named, .ref q_t_pile, .ref q_t_sums1, .ref q_t_parts1, .int c_traced, .ref q_t_trace, .int c_speaks, .int c_isParted, .ref q_t_bits, .ref q_t_sizes, .ref q_t_number, .ref q_t_aside])), (q_t_errors, .inl (g.X.cI, 7, .inl c_errors)), (q_t_bits, .inl (g.X.cI, 4, .inl c_bits_71)), (q_t_sizes, .inl (g.X.cI, 4, .inl c_sizes_86)), (q_t_number, .inl (g.X.cI, 96, .inl c_number))] 87 rfl 3 rfl hin (by subst ec_sizes_86; rfl) dX7_sheet_86 ?_
      refine st_iconst G 88 rfl (0 : Int32) (by decide) dX7_sheet_87 ?_
      refine st_istore G 90 rfl [(4, .int (0 : Int32)), (0, .ref q_t), (1, .int x1), (2, .int x2), (3, .int x3)] dX7_sheet_88 (by decide) rfl ?_
      refine st_L (L' := [(0, .ref q_t), (1, .int x1), (4, .int (0 : Int32))]) [1, 2, 0] rfl ?_
      obtain ⟨n, h⟩ := h
      exact b_X7_sheet_90 G R n _ _ _ _ _ _ h
    have h := h.2 c
    refine st_iconst G 82 rfl (0 : Int32) (by decide) dX7_sheet_81 ?_
    refine st_goto G 86 dX7_sheet_82 rfl ?_
    obtain ⟨hin, h⟩ := h
    obtain ⟨c_sizes_86, ec_sizes_86⟩ : ∃ y : Nat → Int32, y = upd c_sizes x1.toNatClampNeg (0 : Int32) := ⟨_, rfl⟩
    have h := h c_sizes_86 ec_sizes_86
    refine st_iast G [(q_t, .inr (7, [.ref q_t_s, .ref q_t_k, .ref q_t_laid, .int c_images, .ref q_t_errors, .int c_at, .int c_open, .int c_steps, .int c_use, .ref q_t_step, .ref q_t_named, .ref q_t_pile, .ref q_t_sums1, .ref q_t_parts1, .int c_traced, .ref q_t_trace, .int c_speaks, .int c_isParted, .ref q_t_bits, .ref q_t_sizes, .ref q_t_number, .ref q_t_aside])), (q_t_errors, .inl (g.X.cI, 7, .inl c_errors)), (q_t_bits, .inl (g.X.cI, 4, .inl c_bits_71)), (q_t_sizes, .inl (g.X.cI, 4, .inl c_sizes_86)), (q_t_number, .inl (g.X.cI, 96, .inl c_number))] 87 rfl 3 rfl hin (by subst ec_sizes_86; rfl) dX7_sheet_86 ?_
    refine st_iconst G 88 rfl (0 : Int32) (by decide) dX7_sheet_87 ?_
    refine st_istore G 90 rfl [(4, .int (0 : Int32)), (0, .ref q_t), (1, .int x1), (2, .int x2), (3, .int x3)] dX7_sheet_88 (by decide) rfl ?_
    refine st_L (L' := [(0, .ref q_t), (1, .int x1), (4, .int (0 : Int32))]) [1, 2, 0] rfl ?_
    obtain ⟨n, h⟩ := h
    exact b_X7_sheet_90 G R n _ _ _ _ _ _ h
  have h := h.2 c
  refine st_iload_n G 54 rfl 3 rfl dX7_sheet_53 rfl ?_
  refine st_bipush G 56 rfl (24 : Int32) (by decide) dX7_sheet_54 ?_
  refine st_icmp_le G 65 59 rfl dX7_sheet_56 rfl (fun c => ?_) (fun c => ?_)
  · have h := h.1 c
    refine st_aload_n G 66 rfl 0 rfl dX7_sheet_65 rfl ?_
    refine st_get G inX7 rfl 18 (by decide) wd_92 69 rfl 0 rfl rfl dX7_sheet_66 ?_
    refine st_iload_n G 70 rfl 1 rfl dX7_sheet_69 rfl ?_
    refine st_iload_n G 71 rfl 2 rfl dX7_sheet_70 rfl ?_
    obtain ⟨hin, h⟩ := h
    obtain ⟨c_bits_71, ec_bits_71⟩ : ∃ y : Nat → Int32, y = upd c_bits x1.toNatClampNeg x2 := ⟨_, rfl⟩
    have h := h c_bits_71 ec_bits_71
    refine st_iast G [(q_t, .inr (7, [.ref q_t_s, .ref q_t_k, .ref q_t_laid, .int c_images, .ref q_t_errors, .int c_at, .int c_open, .int c_steps, .int c_use, .ref q_t_step, .ref q_t_named, .ref q_t_pile, .ref q_t_sums1, .ref q_t_parts1, .int c_traced, .ref q_t_trace, .int c_speaks, .int c_isParted, .ref q_t_bits, .ref q_t_sizes, .ref q_t_number, .ref q_t_aside])), (q_t_errors, .inl (g.X.cI, 7, .inl c_errors)), (q_t_bits, .inl (g.X.cI, 4, .inl c_bits_71)), (q_t_sizes, .inl (g.X.cI, 4, .inl c_sizes)), (q_t_number, .inl (g.X.cI, 96, .inl c_number))] 72 rfl 2 rfl hin (by subst ec_bits_71; rfl) dX7_sheet_71 ?_
    refine st_aload_n G 73 rfl 0 rfl dX7_sheet_72 rfl ?_
    refine st_get G inX7 rfl 19 (by decide) wd_93 76 rfl 0 rfl rfl dX7_sheet_73 ?_
    refine st_iload_n G 77 rfl 1 rfl dX7_sheet_76 rfl ?_
    refine st_iload_n G 78 rfl 2 rfl dX7_sheet_77 rfl ?_
    refine st_if_ne G 85 81 rfl dX7_sheet_78 rfl (fun c => ?_) (fun c => ?_)
    · have h := h.1 c
      refine st_iload_n G 86 rfl 3 rfl dX7_sheet_85 rfl ?_
      obtain ⟨hin, h⟩ := h
      obtain ⟨c_sizes_86, ec_sizes_86⟩ : ∃ y : Nat → Int32, y = upd c_sizes x1.toNatClampNeg x3 := ⟨_, rfl⟩
      have h := h c_sizes_86 ec_sizes_86
      refine st_iast G [(q_t, .inr (7, [.ref q_t_s, .ref q_t_k, .ref q_t_laid, .int c_images, .ref q_t_errors, .int c_at, .int c_open, .int c_steps, .int c_use, .ref q_t_step, .ref q_t_named, .ref q_t_pile, .ref q_t_sums1, .ref q_t_parts1, .int c_traced, .ref q_t_trace, .int c_speaks, .int c_isParted, .ref q_t_bits, .ref q_t_sizes, .ref q_t_number, .ref q_t_aside])), (q_t_errors, .inl (g.X.cI, 7, .inl c_errors)), (q_t_bits, .inl (g.X.cI, 4, .inl c_bits_71)), (q_t_sizes, .inl (g.X.cI, 4, .inl c_sizes_86)), (q_t_number, .inl (g.X.cI, 96, .inl c_number))] 87 rfl 3 rfl hin (by subst ec_sizes_86; rfl) dX7_sheet_86 ?_
      refine st_iconst G 88 rfl (0 : Int32) (by decide) dX7_sheet_87 ?_
      refine st_istore G 90 rfl [(4, .int (0 : Int32)), (0, .ref q_t), (1, .int x1), (2, .int x2), (3, .int x3)] dX7_sheet_88 (by decide) rfl ?_
      refine st_L (L' := [(0, .ref q_t), (1, .int x1), (4, .int (0 : Int32))]) [1, 2, 0] rfl ?_
      obtain ⟨n, h⟩ := h
      exact b_X7_sheet_90 G R n _ _ _ _ _ _ h
    have h := h.2 c
    refine st_iconst G 82 rfl (0 : Int32) (by decide) dX7_sheet_81 ?_
    refine st_goto G 86 dX7_sheet_82 rfl ?_
    obtain ⟨hin, h⟩ := h
    obtain ⟨c_sizes_86, ec_sizes_86⟩ : ∃ y : Nat → Int32, y = upd c_sizes x1.toNatClampNeg (0 : Int32) := ⟨_, rfl⟩
    have h := h c_sizes_86 ec_sizes_86
    refine st_iast G [(q_t, .inr (7, [.ref q_t_s, .ref q_t_k, .ref q_t_laid, .int c_images, .ref q_t_errors, .int c_at, .int c_open, .int c_steps, .int c_use, .ref q_t_step, .ref q_t_named, .ref q_t_pile, .ref q_t_sums1, .ref q_t_parts1, .int c_traced, .ref q_t_trace, .int c_speaks, .int c_isParted, .ref q_t_bits, .ref q_t_sizes, .ref q_t_number, .ref q_t_aside])), (q_t_errors, .inl (g.X.cI, 7, .inl c_errors)), (q_t_bits, .inl (g.X.cI, 4, .inl c_bits_71)), (q_t_sizes, .inl (g.X.cI, 4, .inl c_sizes_86)), (q_t_number, .inl (g.X.cI, 96, .inl c_number))] 87 rfl 3 rfl hin (by subst ec_sizes_86; rfl) dX7_sheet_86 ?_
    refine st_iconst G 88 rfl (0 : Int32) (by decide) dX7_sheet_87 ?_
    refine st_istore G 90 rfl [(4, .int (0 : Int32)), (0, .ref q_t), (1, .int x1), (2, .int x2), (3, .int x3)] dX7_sheet_88 (by decide) rfl ?_
    refine st_L (L' := [(0, .ref q_t), (1, .int x1), (4, .int (0 : Int32))]) [1, 2, 0] rfl ?_
    obtain ⟨n, h⟩ := h
    exact b_X7_sheet_90 G R n _ _ _ _ _ _ h
  have h := h.2 c
  refine st_aload_n G 60 rfl 0 rfl dX7_sheet_59 rfl ?_
  refine st_iconst G 61 rfl (1 : Int32) (by decide) dX7_sheet_60 ?_
  refine st_cVi G lk_X7_65 (c_X7_error g.l g.D g.X q_t q_t_s q_t_k q_t_laid q_t_errors q_t_step q_t_named q_t_pile q_t_sums1 q_t_parts1 q_t_trace q_t_bits q_t_sizes q_t_number q_t_aside c_images c_at c_open c_steps c_use c_traced c_speaks c_isParted c_errors (1 : Int32) _ h) ⟨rfl, rfl, ⟨Nat.le_of_ble_eq_true rfl, Nat.le_of_ble_eq_true rfl⟩, Nat.zero_le _, Nat.zero_le _⟩ 64 rfl [0, 1] rfl (by decide) 0 7 rfl rfl rfl (Nat.le_of_ble_eq_true rfl) rfl dX7_sheet_61 (fun r_61 w hq => ?_)
  obtain ⟨c_errors_61, h, rfl⟩ := hq
  refine st_wp (ws' := [(q_t, .inr (7, [.ref q_t_s, .ref q_t_k, .ref q_t_laid, .int c_images, .ref q_t_errors, .int c_at, .int c_open, .int c_steps, .int c_use, .ref q_t_step, .ref q_t_named, .ref q_t_pile, .ref q_t_sums1, .ref q_t_parts1, .int c_traced, .ref q_t_trace, .int c_speaks, .int c_isParted, .ref q_t_bits, .ref q_t_sizes, .ref q_t_number, .ref q_t_aside])), (q_t_errors, .inl (g.X.cI, 7, .inl c_errors_61)), (q_t_bits, .inl (g.X.cI, 4, .inl c_bits)), (q_t_sizes, .inl (g.X.cI, 4, .inl c_sizes)), (q_t_number, .inl (g.X.cI, 96, .inl c_number))]) 5 [2, 3, 4] (by decide) rfl rfl (by rfl) [(q_t_bits, .inl (g.X.cI, 4, .inl c_bits)), (q_t_sizes, .inl (g.X.cI, 4, .inl c_sizes)), (q_t_number, .inl (g.X.cI, 96, .inl c_number))] (by rfl) rfl ?_
  exact R _ _ _ _ dX7_sheet_64 (Nat.le_of_ble_eq_true rfl) ⟨_, _, _, _, h, rfl⟩
set_option maxRecDepth 100000 in
set_option maxHeartbeats 4000000 in
theorem b_X7_sheet_35 {g : GT} (G : GOOD g RX7 cX7_sheet 5 rm_X7_sheet) {q_t q_t_s q_t_k q_t_laid q_t_errors q_t_step q_t_named q_t_pile q_t_sums1 q_t_parts1 q_t_trace q_t_bits q_t_sizes q_t_number q_t_aside : Nat} {c_images : Int32} {c_at : Int32} {c_open : Int32} {c_steps : Int32} {c_use : Int32} {c_traced : Int32} {c_speaks : Int32} {c_isParted : Int32} {Q : Int32 → (Nat → Int32) → (Nat → Int32) → (Nat → Int32) → (Nat → Int32) → Prop} (R : RETi g cX7_sheet 5 (fun (r : Int32) w => ∃ (c_errors' : Nat → Int32) (c_bits' : Nat → Int32) (c_sizes' : Nat → Int32) (c_number' : Nat → Int32), Q r c_errors' c_bits' c_sizes' c_number' ∧ w = [(q_t, .inr (7, [.ref q_t_s, .ref q_t_k, .ref q_t_laid, .int c_images, .ref q_t_errors, .int c_at, .int c_open, .int c_steps, .int c_use, .ref q_t_step, .ref q_t_named, .ref q_t_pile, .ref q_t_sums1, .ref q_t_parts1, .int c_traced, .ref q_t_trace, .int c_speaks, .int c_isParted, .ref q_t_bits, .ref q_t_sizes, .ref q_t_number, .ref q_t_aside])), (q_t_errors, .inl (g.X.cI, 7, .inl c_errors')), (q_t_bits, .inl (g.X.cI, 4, .inl c_bits')), (q_t_sizes, .inl (g.X.cI, 4, .inl c_sizes')), (q_t_number, .inl (g.X.cI, 96, .inl c_number'))])) {x1 : Int32} {x2 : Int32} {x3 : Int32} {c_errors : Nat → Int32} {c_bits : Nat → Int32} {c_sizes : Nat → Int32} {c_number : Nat → Int32} (h : wp_X7_sheet_b35 Q x1 x2 x3 c_errors c_bits c_sizes c_number) : ST g 0 0 35 [(0, .ref q_t), (1, .int x1), (2, .int x2), (3, .int x3)] [] [(q_t, .inr (7, [.ref q_t_s, .ref q_t_k, .ref q_t_laid, .int c_images, .ref q_t_errors, .int c_at, .int c_open, .int c_steps, .int c_use, .ref q_t_step, .ref q_t_named, .ref q_t_pile, .ref q_t_sums1, .ref q_t_parts1, .int c_traced, .ref q_t_trace, .int c_speaks, .int c_isParted, .ref q_t_bits, .ref q_t_sizes, .ref q_t_number, .ref q_t_aside])), (q_t_errors, .inl (g.X.cI, 7, .inl c_errors)), (q_t_bits, .inl (g.X.cI, 4, .inl c_bits)), (q_t_sizes, .inl (g.X.cI, 4, .inl c_sizes)), (q_t_number, .inl (g.X.cI, 96, .inl c_number))] := by
  unfold wp_X7_sheet_b35 at h
  refine st_iload_n G 36 rfl 2 rfl dX7_sheet_35 rfl ?_
  refine st_if_eq G 49 39 rfl dX7_sheet_36 rfl (fun c => ?_) (fun c => ?_)
  · have h := h.1 c
    exact b_X7_sheet_49 G R h
  have h := h.2 c
  refine st_iload_n G 40 rfl 3 rfl dX7_sheet_39 rfl ?_
  refine st_if_ge G 49 43 rfl dX7_sheet_40 rfl (fun c => ?_) (fun c => ?_)
  · have h := h.1 c
    exact b_X7_sheet_49 G R h
  have h := h.2 c
  refine st_aload_n G 44 rfl 0 rfl dX7_sheet_43 rfl ?_
  refine st_iconst G 45 rfl (3 : Int32) (by decide) dX7_sheet_44 ?_
  refine st_cVi G lk_X7_65 (c_X7_error g.l g.D g.X q_t q_t_s q_t_k q_t_laid q_t_errors q_t_step q_t_named q_t_pile q_t_sums1 q_t_parts1 q_t_trace q_t_bits q_t_sizes q_t_number q_t_aside c_images c_at c_open c_steps c_use c_traced c_speaks c_isParted c_errors (3 : Int32) _ h) ⟨rfl, rfl, ⟨Nat.le_of_ble_eq_true rfl, Nat.le_of_ble_eq_true rfl⟩, Nat.zero_le _, Nat.zero_le _⟩ 48 rfl [0, 1] rfl (by decide) 0 7 rfl rfl rfl (Nat.le_of_ble_eq_true rfl) rfl dX7_sheet_45 (fun r_45 w hq => ?_)
  obtain ⟨c_errors_45, h, rfl⟩ := hq
  refine st_wp (ws' := [(q_t, .inr (7, [.ref q_t_s, .ref q_t_k, .ref q_t_laid, .int c_images, .ref q_t_errors, .int c_at, .int c_open, .int c_steps, .int c_use, .ref q_t_step, .ref q_t_named, .ref q_t_pile, .ref q_t_sums1, .ref q_t_parts1, .int c_traced, .ref q_t_trace, .int c_speaks, .int c_isParted, .ref q_t_bits, .ref q_t_sizes, .ref q_t_number, .ref q_t_aside])), (q_t_errors, .inl (g.X.cI, 7, .inl c_errors_45)), (q_t_bits, .inl (g.X.cI, 4, .inl c_bits)), (q_t_sizes, .inl (g.X.cI, 4, .inl c_sizes)), (q_t_number, .inl (g.X.cI, 96, .inl c_number))]) 5 [2, 3, 4] (by decide) rfl rfl (by rfl) [(q_t_bits, .inl (g.X.cI, 4, .inl c_bits)), (q_t_sizes, .inl (g.X.cI, 4, .inl c_sizes)), (q_t_number, .inl (g.X.cI, 96, .inl c_number))] (by rfl) rfl ?_
  exact R _ _ _ _ dX7_sheet_48 (Nat.le_of_ble_eq_true rfl) ⟨_, _, _, _, h, rfl⟩
set_option maxRecDepth 100000 in
set_option maxHeartbeats 4000000 in
theorem b_X7_sheet_e {g : GT} (G : GOOD g RX7 cX7_sheet 5 rm_X7_sheet) {q_t q_t_s q_t_k q_t_laid q_t_errors q_t_step q_t_named q_t_pile q_t_sums1 q_t_parts1 q_t_trace q_t_bits q_t_sizes q_t_number q_t_aside : Nat} {c_images : Int32} {c_at : Int32} {c_open : Int32} {c_steps : Int32} {c_use : Int32} {c_traced : Int32} {c_speaks : Int32} {c_isParted : Int32} {c_errors : Nat → Int32} {c_bits : Nat → Int32} {c_sizes : Nat → Int32} {c_number : Nat → Int32} {x1 : Int32} {x2 : Int32} {x3 : Int32} {Q : Int32 → (Nat → Int32) → (Nat → Int32) → (Nat → Int32) → (Nat → Int32) → Prop} (R : RETi g cX7_sheet 5 (fun (r : Int32) w => ∃ (c_errors' : Nat → Int32) (c_bits' : Nat → Int32) (c_sizes' : Nat → Int32) (c_number' : Nat → Int32), Q r c_errors' c_bits' c_sizes' c_number' ∧ w = [(q_t, .inr (7, [.ref q_t_s, .ref q_t_k, .ref q_t_laid, .int c_images, .ref q_t_errors, .int c_at, .int c_open, .int c_steps, .int c_use, .ref q_t_step, .ref q_t_named, .ref q_t_pile, .ref q_t_sums1, .ref q_t_parts1, .int c_traced, .ref q_t_trace, .int c_speaks, .int c_isParted, .ref q_t_bits, .ref q_t_sizes, .ref q_t_number, .ref q_t_aside])), (q_t_errors, .inl (g.X.cI, 7, .inl c_errors')), (q_t_bits, .inl (g.X.cI, 4, .inl c_bits')), (q_t_sizes, .inl (g.X.cI, 4, .inl c_sizes')), (q_t_number, .inl (g.X.cI, 96, .inl c_number'))])) (h : wp_X7_sheet x1 x2 x3 c_errors c_bits c_sizes c_number Q) : ST g 0 0 0 [(0, .ref q_t), (1, .int x1), (2, .int x2), (3, .int x3)] [] [(q_t, .inr (7, [.ref q_t_s, .ref q_t_k, .ref q_t_laid, .int c_images, .ref q_t_errors, .int c_at, .int c_open, .int c_steps, .int c_use, .ref q_t_step, .ref q_t_named, .ref q_t_pile, .ref q_t_sums1, .ref q_t_parts1, .int c_traced, .ref q_t_trace, .int c_speaks, .int c_isParted, .ref q_t_bits, .ref q_t_sizes, .ref q_t_number, .ref q_t_aside])), (q_t_errors, .inl (g.X.cI, 7, .inl c_errors)), (q_t_bits, .inl (g.X.cI, 4, .inl c_bits)), (q_t_sizes, .inl (g.X.cI, 4, .inl c_sizes)), (q_t_number, .inl (g.X.cI, 96, .inl c_number))] := by
  unfold wp_X7_sheet at h
  refine st_iload_n G 1 rfl 1 rfl dX7_sheet_0 rfl ?_
  refine st_cSio G lk_X7_269 (c_X7_isSheet g.l g.D g.X x1 _ h) ⟨rfl, rfl, ⟨Nat.le_of_ble_eq_true rfl, Nat.le_of_ble_eq_true rfl⟩, Nat.zero_le _, Nat.zero_le _⟩ 4 rfl [] rfl (by decide) rfl (Nat.le_of_ble_eq_true rfl) rfl dX7_sheet_1 (fun r_1 h => ?_)
  refine st_if_eq G 29 7 rfl dX7_sheet_4 rfl (fun c => ?_) (fun c => ?_)
  · have h := h.1 c
    refine st_aload_n G 30 rfl 0 rfl dX7_sheet_29 rfl ?_
    refine st_iconst G 31 rfl (1 : Int32) (by decide) dX7_sheet_30 ?_
    refine st_cVi G lk_X7_65 (c_X7_error g.l g.D g.X q_t q_t_s q_t_k q_t_laid q_t_errors q_t_step q_t_named q_t_pile q_t_sums1 q_t_parts1 q_t_trace q_t_bits q_t_sizes q_t_number q_t_aside c_images c_at c_open c_steps c_use c_traced c_speaks c_isParted c_errors (1 : Int32) _ h) ⟨rfl, rfl, ⟨Nat.le_of_ble_eq_true rfl, Nat.le_of_ble_eq_true rfl⟩, Nat.zero_le _, Nat.zero_le _⟩ 34 rfl [0, 1] rfl (by decide) 0 7 rfl rfl rfl (Nat.le_of_ble_eq_true rfl) rfl dX7_sheet_31 (fun r_31 w hq => ?_)
    obtain ⟨c_errors_31, h, rfl⟩ := hq
    refine st_wp (ws' := [(q_t, .inr (7, [.ref q_t_s, .ref q_t_k, .ref q_t_laid, .int c_images, .ref q_t_errors, .int c_at, .int c_open, .int c_steps, .int c_use, .ref q_t_step, .ref q_t_named, .ref q_t_pile, .ref q_t_sums1, .ref q_t_parts1, .int c_traced, .ref q_t_trace, .int c_speaks, .int c_isParted, .ref q_t_bits, .ref q_t_sizes, .ref q_t_number, .ref q_t_aside])), (q_t_errors, .inl (g.X.cI, 7, .inl c_errors_31)), (q_t_bits, .inl (g.X.cI, 4, .inl c_bits)), (q_t_sizes, .inl (g.X.cI, 4, .inl c_sizes)), (q_t_number, .inl (g.X.cI, 96, .inl c_number))]) 5 [2, 3, 4] (by decide) rfl rfl (by rfl) [(q_t_bits, .inl (g.X.cI, 4, .inl c_bits)), (q_t_sizes, .inl (g.X.cI, 4, .inl c_sizes)), (q_t_number, .inl (g.X.cI, 96, .inl c_number))] (by rfl) rfl ?_
    exact R _ _ _ _ dX7_sheet_34 (Nat.le_of_ble_eq_true rfl) ⟨_, _, _, _, h, rfl⟩
  have h := h.2 c
  refine st_iload_n G 8 rfl 2 rfl dX7_sheet_7 rfl ?_
  refine st_if_eq G 35 11 rfl dX7_sheet_8 rfl (fun c => ?_) (fun c => ?_)
  · have h := h.1 c
    exact b_X7_sheet_35 G R h
  have h := h.2 c
  refine st_iload_n G 12 rfl 2 rfl dX7_sheet_11 rfl ?_
  refine st_bipush G 14 rfl (8 : Int32) (by decide) dX7_sheet_12 ?_
  refine st_icmp_eq G 35 17 rfl dX7_sheet_14 rfl (fun c => ?_) (fun c => ?_)
  · have h := h.1 c
    exact b_X7_sheet_35 G R h
  have h := h.2 c
  refine st_iload_n G 18 rfl 2 rfl dX7_sheet_17 rfl ?_
  refine st_bipush G 20 rfl (16 : Int32) (by decide) dX7_sheet_18 ?_
  refine st_icmp_eq G 35 23 rfl dX7_sheet_20 rfl (fun c => ?_) (fun c => ?_)
  · have h := h.1 c
    exact b_X7_sheet_35 G R h
  have h := h.2 c
  refine st_iload_n G 24 rfl 2 rfl dX7_sheet_23 rfl ?_
  refine st_bipush G 26 rfl (32 : Int32) (by decide) dX7_sheet_24 ?_
  refine st_icmp_eq G 35 29 rfl dX7_sheet_26 rfl (fun c => ?_) (fun c => ?_)
  · have h := h.1 c
    exact b_X7_sheet_35 G R h
  have h := h.2 c
  refine st_aload_n G 30 rfl 0 rfl dX7_sheet_29 rfl ?_
  refine st_iconst G 31 rfl (1 : Int32) (by decide) dX7_sheet_30 ?_
  refine st_cVi G lk_X7_65 (c_X7_error g.l g.D g.X q_t q_t_s q_t_k q_t_laid q_t_errors q_t_step q_t_named q_t_pile q_t_sums1 q_t_parts1 q_t_trace q_t_bits q_t_sizes q_t_number q_t_aside c_images c_at c_open c_steps c_use c_traced c_speaks c_isParted c_errors (1 : Int32) _ h) ⟨rfl, rfl, ⟨Nat.le_of_ble_eq_true rfl, Nat.le_of_ble_eq_true rfl⟩, Nat.zero_le _, Nat.zero_le _⟩ 34 rfl [0, 1] rfl (by decide) 0 7 rfl rfl rfl (Nat.le_of_ble_eq_true rfl) rfl dX7_sheet_31 (fun r_31 w hq => ?_)
  obtain ⟨c_errors_31, h, rfl⟩ := hq
  refine st_wp (ws' := [(q_t, .inr (7, [.ref q_t_s, .ref q_t_k, .ref q_t_laid, .int c_images, .ref q_t_errors, .int c_at, .int c_open, .int c_steps, .int c_use, .ref q_t_step, .ref q_t_named, .ref q_t_pile, .ref q_t_sums1, .ref q_t_parts1, .int c_traced, .ref q_t_trace, .int c_speaks, .int c_isParted, .ref q_t_bits, .ref q_t_sizes, .ref q_t_number, .ref q_t_aside])), (q_t_errors, .inl (g.X.cI, 7, .inl c_errors_31)), (q_t_bits, .inl (g.X.cI, 4, .inl c_bits)), (q_t_sizes, .inl (g.X.cI, 4, .inl c_sizes)), (q_t_number, .inl (g.X.cI, 96, .inl c_number))]) 5 [2, 3, 4] (by decide) rfl rfl (by rfl) [(q_t_bits, .inl (g.X.cI, 4, .inl c_bits)), (q_t_sizes, .inl (g.X.cI, 4, .inl c_sizes)), (q_t_number, .inl (g.X.cI, 96, .inl c_number))] (by rfl) rfl ?_
  exact R _ _ _ _ dX7_sheet_34 (Nat.le_of_ble_eq_true rfl) ⟨_, _, _, _, h, rfl⟩
set_option maxRecDepth 100000 in
set_option maxHeartbeats 4000000 in
theorem c_X7_sheet (l : Launch) (D : va_G) (X : XT) (q_t q_t_s q_t_k q_t_laid q_t_errors q_t_step q_t_named q_t_pile q_t_sums1 q_t_parts1 q_t_trace q_t_bits q_t_sizes q_t_number q_t_aside : Nat) (c_images : Int32) (c_at : Int32) (c_open : Int32) (c_steps : Int32) (c_use : Int32) (c_traced : Int32) (c_speaks : Int32) (c_isParted : Int32) (c_errors : Nat → Int32) (c_bits : Nat → Int32) (c_sizes : Nat → Int32) (c_number : Nat → Int32) (x1 : Int32) (x2 : Int32) (x3 : Int32) (Q : Int32 → (Nat → Int32) → (Nat → Int32) → (Nat → Int32) → (Nat → Int32) → Prop) (h : wp_X7_sheet x1 x2 x3 c_errors c_bits c_sizes c_number Q) : CTi l D X yX7_sheet cX7_sheet 5 .int rm_X7_sheet [.ref q_t, .int x1, .int x2, .int x3] [(q_t, .inr (7, [.ref q_t_s, .ref q_t_k, .ref q_t_laid, .int c_images, .ref q_t_errors, .int c_at, .int c_open, .int c_steps, .int c_use, .ref q_t_step, .ref q_t_named, .ref q_t_pile, .ref q_t_sums1, .ref q_t_parts1, .int c_traced, .ref q_t_trace, .int c_speaks, .int c_isParted, .ref q_t_bits, .ref q_t_sizes, .ref q_t_number, .ref q_t_aside])), (q_t_errors, .inl (X.cI, 7, .inl c_errors)), (q_t_bits, .inl (X.cI, 4, .inl c_bits)), (q_t_sizes, .inl (X.cI, 4, .inl c_sizes)), (q_t_number, .inl (X.cI, 96, .inl c_number))] (fun (r : Int32) w => ∃ (c_errors' : Nat → Int32) (c_bits' : Nat → Int32) (c_sizes' : Nat → Int32) (c_number' : Nat → Int32), Q r c_errors' c_bits' c_sizes' c_number' ∧ w = [(q_t, .inr (7, [.ref q_t_s, .ref q_t_k, .ref q_t_laid, .int c_images, .ref q_t_errors, .int c_at, .int c_open, .int c_steps, .int c_use, .ref q_t_step, .ref q_t_named, .ref q_t_pile, .ref q_t_sums1, .ref q_t_parts1, .int c_traced, .ref q_t_trace, .int c_speaks, .int c_isParted, .ref q_t_bits, .ref q_t_sizes, .ref q_t_number, .ref q_t_aside])), (q_t_errors, .inl (X.cI, 7, .inl c_errors')), (q_t_bits, .inl (X.cI, 4, .inl c_bits')), (q_t_sizes, .inl (X.cI, 4, .inl c_sizes')), (q_t_number, .inl (X.cI, 96, .inl c_number'))]) :=
  ct_i (by decide) (Nat.le_of_ble_eq_true rfl) (fun g hl hD hX G R => by subst hl; subst hD; subst hX; exact b_X7_sheet_e G R h)
set_option maxRecDepth 100000 in
set_option maxHeartbeats 4000000 in
theorem b_X7_put_e {g : GT} (G : GOOD g RX7 cX7_put 5 rm_X7_put) {q_t q_t_s q_t_k q_t_laid q_t_errors q_t_step q_t_named q_t_pile q_t_sums1 q_t_parts1 q_t_trace q_t_bits q_t_sizes q_t_number q_t_aside : Nat} {c_images : Int32} {c_at : Int32} {c_open : Int32} {c_steps : Int32} {c_use : Int32} {c_traced : Int32} {c_speaks : Int32} {c_isParted : Int32} {c_errors : Nat → Int32} {c_bits : Nat → Int32} {c_sizes : Nat → Int32} {c_number : Nat → Int32} {x1 : Int32} {x2 : Int32} {x3 : Int32} {Q : Int32 → (Nat → Int32) → (Nat → Int32) → Prop} (R : RETi g cX7_put 5 (fun (r : Int32) w => ∃ (c_errors' : Nat → Int32) (c_number' : Nat → Int32), Q r c_errors' c_number' ∧ w = [(q_t, .inr (7, [.ref q_t_s, .ref q_t_k, .ref q_t_laid, .int c_images, .ref q_t_errors, .int c_at, .int c_open, .int c_steps, .int c_use, .ref q_t_step, .ref q_t_named, .ref q_t_pile, .ref q_t_sums1, .ref q_t_parts1, .int c_traced, .ref q_t_trace, .int c_speaks, .int c_isParted, .ref q_t_bits, .ref q_t_sizes, .ref q_t_number, .ref q_t_aside])), (q_t_errors, .inl (g.X.cI, 7, .inl c_errors')), (q_t_bits, .inl (g.X.cI, 4, .inl c_bits)), (q_t_sizes, .inl (g.X.cI, 4, .inl c_sizes)), (q_t_number, .inl (g.X.cI, 96, .inl c_number'))])) (h : wp_X7_put x1 x2 x3 c_errors c_bits c_sizes c_number Q) : ST g 0 0 0 [(0, .ref q_t), (1, .int x1), (2, .int x2), (3, .int x3)] [] [(q_t, .inr (7, [.ref q_t_s, .ref q_t_k, .ref q_t_laid, .int c_images, .ref q_t_errors, .int c_at, .int c_open, .int c_steps, .int c_use, .ref q_t_step, .ref q_t_named, .ref q_t_pile, .ref q_t_sums1, .ref q_t_parts1, .int c_traced, .ref q_t_trace, .int c_speaks, .int c_isParted, .ref q_t_bits, .ref q_t_sizes, .ref q_t_number, .ref q_t_aside])), (q_t_errors, .inl (g.X.cI, 7, .inl c_errors)), (q_t_bits, .inl (g.X.cI, 4, .inl c_bits)), (q_t_sizes, .inl (g.X.cI, 4, .inl c_sizes)), (q_t_number, .inl (g.X.cI, 96, .inl c_number))] := by
  unfold wp_X7_put at h
  refine st_iload_n G 1 rfl 1 rfl dX7_put_0 rfl ?_
  refine st_cSio G lk_X7_269 (c_X7_isSheet g.l g.D g.X x1 _ h) ⟨rfl, rfl, ⟨Nat.le_of_ble_eq_true rfl, Nat.le_of_ble_eq_true rfl⟩, Nat.zero_le _, Nat.zero_le _⟩ 4 rfl [] rfl (by decide) rfl (Nat.le_of_ble_eq_true rfl) rfl dX7_put_1 (fun r_1 h => ?_)
  refine st_if_ne G 13 7 rfl dX7_put_4 rfl (fun c => ?_) (fun c => ?_)
  · have h := h.1 c
    refine st_aload_n G 14 rfl 0 rfl dX7_put_13 rfl ?_
    refine st_get G inX7 rfl 18 (by decide) wd_92 17 rfl 0 rfl rfl dX7_put_14 ?_
    refine st_iload_n G 18 rfl 1 rfl dX7_put_17 rfl ?_
    obtain ⟨hin, h⟩ := h
    refine st_iald G 19 rfl 2 rfl hin dX7_put_18 ?_
    refine st_if_ne G 28 22 rfl dX7_put_19 rfl (fun c => ?_) (fun c => ?_)
    · have h := h.1 c
      refine st_iload_n G 29 rfl 2 rfl dX7_put_28 rfl ?_
      refine st_iconst G 30 rfl (0 : Int32) (by decide) dX7_put_29 ?_
      refine st_aload_n G 31 rfl 0 rfl dX7_put_30 rfl ?_
      refine st_get G inX7 rfl 19 (by decide) wd_93 34 rfl 0 rfl rfl dX7_put_31 ?_
      refine st_iload_n G 35 rfl 1 rfl dX7_put_34 rfl ?_
      obtain ⟨hin, h⟩ := h
      refine st_iald G 36 rfl 3 rfl hin dX7_put_35 ?_
      refine st_iconst G 37 rfl (1 : Int32) (by decide) dX7_put_36 ?_
      refine st_isub G 38 rfl dX7_put_37 ?_
      refine st_cSio G lk_X7_53 (c_X7_in g.l g.D g.X x2 (0 : Int32) ((c_sizes x1.toNatClampNeg) - (1 : Int32)) _ h) ⟨rfl, rfl, ⟨Nat.le_of_ble_eq_true rfl, Nat.le_of_ble_eq_true rfl⟩, Nat.zero_le _, Nat.zero_le _⟩ 41 rfl [] rfl (by decide) rfl (Nat.le_of_ble_eq_true rfl) rfl dX7_put_38 (fun r_38 h => ?_)
      refine st_if_ne G 50 44 rfl dX7_put_41 rfl (fun c => ?_) (fun c => ?_)
      · have h := h.1 c
        refine st_bipush G 52 rfl (32 : Int32) (by decide) dX7_put_50 ?_
        refine st_aload_n G 53 rfl 0 rfl dX7_put_52 rfl ?_
        refine st_get G inX7 rfl 18 (by decide) wd_92 56 rfl 0 rfl rfl dX7_put_53 ?_
        refine st_iload_n G 57 rfl 1 rfl dX7_put_56 rfl ?_
        obtain ⟨hin, h⟩ := h
        refine st_iald G 58 rfl 2 rfl hin dX7_put_57 ?_
        refine st_isub G 59 rfl dX7_put_58 ?_
        refine st_topi (fun x4_59 ex4_59 => ?_)
        have h := h x4_59 ex4_59
        refine st_istore G 61 rfl [(4, .int x4_59), (0, .ref q_t), (1, .int x1), (2, .int x2), (3, .int x3)] dX7_put_59 (by decide) rfl ?_
        refine st_aload_n G 62 rfl 1 rfl dX7_put_61 rfl ?_
        refine st_get G inX7 rfl 20 (by decide) wd_94 65 rfl 0 rfl rfl dX7_put_62 ?_
        refine st_bipush G 67 rfl (24 : Int32) (by decide) dX7_put_65 ?_
        refine st_iload_n G 68 rfl 2 rfl dX7_put_67 rfl ?_
        refine st_imul G 69 rfl dX7_put_68 ?_
        refine st_iload_n G 70 rfl 3 rfl dX7_put_69 rfl ?_
        refine st_iadd G 71 rfl dX7_put_70 ?_
        refine st_iload_n G 72 rfl 4 rfl dX7_put_71 rfl ?_
        refine st_iload G 74 rfl 0 rfl dX7_put_72 ?_
        refine st_ishl G 75 rfl dX7_put_74 ?_
        refine st_iload G 77 rfl 0 rfl dX7_put_75 ?_
        refine st_ishr G 78 rfl dX7_put_77 ?_
        obtain ⟨hin, h⟩ := h
        obtain ⟨c_number_78, ec_number_78⟩ : ∃ y : Nat → Int32, y = upd c_number (((24 : Int32) * x1) + x2).toNatClampNeg ((x3 <<< (x4_59 &&& 31)) >>> (x4_59 &&& 31)) := ⟨_, rfl⟩
        have h := h c_number_78 ec_number_78
        refine st_iast G [(q_t, .inr (7, [.ref q_t_s, .ref q_t_k, .ref q_t_laid, .int c_images, .ref q_t_errors, .int c_at, .int c_open, .int c_steps, .int c_use, .ref q_t_step, .ref q_t_named, .ref q_t_pile, .ref q_t_sums1, .ref q_t_parts1, .int c_traced, .ref q_t_trace, .int c_speaks, .int c_isParted, .ref q_t_bits, .ref q_t_sizes, .ref q_t_number, .ref q_t_aside])), (q_t_errors, .inl (g.X.cI, 7, .inl c_errors)), (q_t_bits, .inl (g.X.cI, 4, .inl c_bits)), (q_t_sizes, .inl (g.X.cI, 4, .inl c_sizes)), (q_t_number, .inl (g.X.cI, 96, .inl c_number_78))] 79 rfl 4 rfl hin (by subst ec_number_78; rfl) dX7_put_78 ?_
        refine st_iconst G 80 rfl (1 : Int32) (by decide) dX7_put_79 ?_
        exact R _ _ _ _ dX7_put_80 (Nat.le_of_ble_eq_true rfl) ⟨_, _, h, rfl⟩
      have h := h.2 c
      refine st_aload_n G 45 rfl 0 rfl dX7_put_44 rfl ?_
      refine st_iconst G 46 rfl (1 : Int32) (by decide) dX7_put_45 ?_
      refine st_cVi G lk_X7_65 (c_X7_error g.l g.D g.X q_t q_t_s q_t_k q_t_laid q_t_errors q_t_step q_t_named q_t_pile q_t_sums1 q_t_parts1 q_t_trace q_t_bits q_t_sizes q_t_number q_t_aside c_images c_at c_open c_steps c_use c_traced c_speaks c_isParted c_errors (1 : Int32) _ h) ⟨rfl, rfl, ⟨Nat.le_of_ble_eq_true rfl, Nat.le_of_ble_eq_true rfl⟩, Nat.zero_le _, Nat.zero_le _⟩ 49 rfl [0, 1] rfl (by decide) 0 7 rfl rfl rfl (Nat.le_of_ble_eq_true rfl) rfl dX7_put_46 (fun r_46 w hq => ?_)
      obtain ⟨c_errors_46, h, rfl⟩ := hq
      refine st_wp (ws' := [(q_t, .inr (7, [.ref q_t_s, .ref q_t_k, .ref q_t_laid, .int c_images, .ref q_t_errors, .int c_at, .int c_open, .int c_steps, .int c_use, .ref q_t_step, .ref q_t_named, .ref q_t_pile, .ref q_t_sums1, .ref q_t_parts1, .int c_traced, .ref q_t_trace, .int c_speaks, .int c_isParted, .ref q_t_bits, .ref q_t_sizes, .ref q_t_number, .ref q_t_aside])), (q_t_errors, .inl (g.X.cI, 7, .inl c_errors_46)), (q_t_bits, .inl (g.X.cI, 4, .inl c_bits)), (q_t_sizes, .inl (g.X.cI, 4, .inl c_sizes)), (q_t_number, .inl (g.X.cI, 96, .inl c_number))]) 5 [2, 3, 4] (by decide) rfl rfl (by rfl) [(q_t_bits, .inl (g.X.cI, 4, .inl c_bits)), (q_t_sizes, .inl (g.X.cI, 4, .inl c_sizes)), (q_t_number, .inl (g.X.cI, 96, .inl c_number))] (by rfl) rfl ?_
      exact R _ _ _ _ dX7_put_49 (Nat.le_of_ble_eq_true rfl) ⟨_, _, h, rfl⟩
    have h := h.2 c
    refine st_aload_n G 23 rfl 0 rfl dX7_put_22 rfl ?_
    refine st_iconst G 24 rfl (2 : Int32) (by decide) dX7_put_23 ?_
    refine st_cVi G lk_X7_65 (c_X7_error g.l g.D g.X q_t q_t_s q_t_k q_t_laid q_t_errors q_t_step q_t_named q_t_pile q_t_sums1 q_t_parts1 q_t_trace q_t_bits q_t_sizes q_t_number q_t_aside c_images c_at c_open c_steps c_use c_traced c_speaks c_isParted c_errors (2 : Int32) _ h) ⟨rfl, rfl, ⟨Nat.le_of_ble_eq_true rfl, Nat.le_of_ble_eq_true rfl⟩, Nat.zero_le _, Nat.zero_le _⟩ 27 rfl [0, 1] rfl (by decide) 0 7 rfl rfl rfl (Nat.le_of_ble_eq_true rfl) rfl dX7_put_24 (fun r_24 w hq => ?_)
    obtain ⟨c_errors_24, h, rfl⟩ := hq
    refine st_wp (ws' := [(q_t, .inr (7, [.ref q_t_s, .ref q_t_k, .ref q_t_laid, .int c_images, .ref q_t_errors, .int c_at, .int c_open, .int c_steps, .int c_use, .ref q_t_step, .ref q_t_named, .ref q_t_pile, .ref q_t_sums1, .ref q_t_parts1, .int c_traced, .ref q_t_trace, .int c_speaks, .int c_isParted, .ref q_t_bits, .ref q_t_sizes, .ref q_t_number, .ref q_t_aside])), (q_t_errors, .inl (g.X.cI, 7, .inl c_errors_24)), (q_t_bits, .inl (g.X.cI, 4, .inl c_bits)), (q_t_sizes, .inl (g.X.cI, 4, .inl c_sizes)), (q_t_number, .inl (g.X.cI, 96, .inl c_number))]) 5 [2, 3, 4] (by decide) rfl rfl (by rfl) [(q_t_bits, .inl (g.X.cI, 4, .inl c_bits)), (q_t_sizes, .inl (g.X.cI, 4, .inl c_sizes)), (q_t_number, .inl (g.X.cI, 96, .inl c_number))] (by rfl) rfl ?_
    exact R _ _ _ _ dX7_put_27 (Nat.le_of_ble_eq_true rfl) ⟨_, _, h, rfl⟩
  have h := h.2 c
  refine st_aload_n G 8 rfl 0 rfl dX7_put_7 rfl ?_
  refine st_iconst G 9 rfl (1 : Int32) (by decide) dX7_put_8 ?_
  refine st_cVi G lk_X7_65 (c_X7_error g.l g.D g.X q_t q_t_s q_t_k q_t_laid q_t_errors q_t_step q_t_named q_t_pile q_t_sums1 q_t_parts1 q_t_trace q_t_bits q_t_sizes q_t_number q_t_aside c_images c_at c_open c_steps c_use c_traced c_speaks c_isParted c_errors (1 : Int32) _ h) ⟨rfl, rfl, ⟨Nat.le_of_ble_eq_true rfl, Nat.le_of_ble_eq_true rfl⟩, Nat.zero_le _, Nat.zero_le _⟩ 12 rfl [0, 1] rfl (by decide) 0 7 rfl rfl rfl (Nat.le_of_ble_eq_true rfl) rfl dX7_put_9 (fun r_9 w hq => ?_)
  obtain ⟨c_errors_9, h, rfl⟩ := hq
  refine st_wp (ws' := [(q_t, .inr (7, [.ref q_t_s, .ref q_t_k, .ref q_t_laid, .int c_images, .ref q_t_errors, .int c_at, .int c_open, .int c_steps, .int c_use, .ref q_t_step, .ref q_t_named, .ref q_t_pile, .ref q_t_sums1, .ref q_t_parts1, .int c_traced, .ref q_t_trace, .int c_speaks, .int c_isParted, .ref q_t_bits, .ref q_t_sizes, .ref q_t_number, .ref q_t_aside])), (q_t_errors, .inl (g.X.cI, 7, .inl c_errors_9)), (q_t_bits, .inl (g.X.cI, 4, .inl c_bits)), (q_t_sizes, .inl (g.X.cI, 4, .inl c_sizes)), (q_t_number, .inl (g.X.cI, 96, .inl c_number))]) 5 [2, 3, 4] (by decide) rfl rfl (by rfl) [(q_t_bits, .inl (g.X.cI, 4, .inl c_bits)), (q_t_sizes, .inl (g.X.cI, 4, .inl c_sizes)), (q_t_number, .inl (g.X.cI, 96, .inl c_number))] (by rfl) rfl ?_
  exact R _ _ _ _ dX7_put_12 (Nat.le_of_ble_eq_true rfl) ⟨_, _, h, rfl⟩
set_option maxRecDepth 100000 in
set_option maxHeartbeats 4000000 in
theorem c_X7_put (l : Launch) (D : va_G) (X : XT) (q_t q_t_s q_t_k q_t_laid q_t_errors q_t_step q_t_named q_t_pile q_t_sums1 q_t_parts1 q_t_trace q_t_bits q_t_sizes q_t_number q_t_aside : Nat) (c_images : Int32) (c_at : Int32) (c_open : Int32) (c_steps : Int32) (c_use : Int32) (c_traced : Int32) (c_speaks : Int32) (c_isParted : Int32) (c_errors : Nat → Int32) (c_bits : Nat → Int32) (c_sizes : Nat → Int32) (c_number : Nat → Int32) (x1 : Int32) (x2 : Int32) (x3 : Int32) (Q : Int32 → (Nat → Int32) → (Nat → Int32) → Prop) (h : wp_X7_put x1 x2 x3 c_errors c_bits c_sizes c_number Q) : CTi l D X yX7_put cX7_put 5 .int rm_X7_put [.ref q_t, .int x1, .int x2, .int x3] [(q_t, .inr (7, [.ref q_t_s, .ref q_t_k, .ref q_t_laid, .int c_images, .ref q_t_errors, .int c_at, .int c_open, .int c_steps, .int c_use, .ref q_t_step, .ref q_t_named, .ref q_t_pile, .ref q_t_sums1, .ref q_t_parts1, .int c_traced, .ref q_t_trace, .int c_speaks, .int c_isParted, .ref q_t_bits, .ref q_t_sizes, .ref q_t_number, .ref q_t_aside])), (q_t_errors, .inl (X.cI, 7, .inl c_errors)), (q_t_bits, .inl (X.cI, 4, .inl c_bits)), (q_t_sizes, .inl (X.cI, 4, .inl c_sizes)), (q_t_number, .inl (X.cI, 96, .inl c_number))] (fun (r : Int32) w => ∃ (c_errors' : Nat → Int32) (c_number' : Nat → Int32), Q r c_errors' c_number' ∧ w = [(q_t, .inr (7, [.ref q_t_s, .ref q_t_k, .ref q_t_laid, .int c_images, .ref q_t_errors, .int c_at, .int c_open, .int c_steps, .int c_use, .ref q_t_step, .ref q_t_named, .ref q_t_pile, .ref q_t_sums1, .ref q_t_parts1, .int c_traced, .ref q_t_trace, .int c_speaks, .int c_isParted, .ref q_t_bits, .ref q_t_sizes, .ref q_t_number, .ref q_t_aside])), (q_t_errors, .inl (X.cI, 7, .inl c_errors')), (q_t_bits, .inl (X.cI, 4, .inl c_bits)), (q_t_sizes, .inl (X.cI, 4, .inl c_sizes)), (q_t_number, .inl (X.cI, 96, .inl c_number'))]) :=
  ct_i (by decide) (Nat.le_of_ble_eq_true rfl) (fun g hl hD hX G R => by subst hl; subst hD; subst hX; exact b_X7_put_e G R h)
set_option maxRecDepth 100000 in
set_option maxHeartbeats 4000000 in
theorem b_X7_move_106 {g : GT} (G : GOOD g RX7 cX7_move 7 rm_X7_move) {q_t q_t_s q_t_k q_t_laid q_t_errors q_t_step q_t_named q_t_pile q_t_sums1 q_t_parts1 q_t_trace q_t_bits q_t_sizes q_t_number q_t_aside : Nat} {c_images : Int32} {c_at : Int32} {c_open : Int32} {c_steps : Int32} {c_use : Int32} {c_traced : Int32} {c_speaks : Int32} {c_isParted : Int32} {c_bits : Nat → Int32} {c_sizes : Nat → Int32} {Q : Int32 → (Nat → Int32) → (Nat → Int32) → (Nat → Int32) → Prop} (R : RETi g cX7_move 6 (fun (r : Int32) w => ∃ (c_errors' : Nat → Int32) (c_number' : Nat → Int32) (c_aside' : Nat → Int32), Q r c_errors' c_number' c_aside' ∧ w = [(q_t, .inr (7, [.ref q_t_s, .ref q_t_k, .ref q_t_laid, .int c_images, .ref q_t_errors, .int c_at, .int c_open, .int c_steps, .int c_use, .ref q_t_step, .ref q_t_named, .ref q_t_pile, .ref q_t_sums1, .ref q_t_parts1, .int c_traced, .ref q_t_trace, .int c_speaks, .int c_isParted, .ref q_t_bits, .ref q_t_sizes, .ref q_t_number, .ref q_t_aside])), (q_t_errors, .inl (g.X.cI, 7, .inl c_errors')), (q_t_bits, .inl (g.X.cI, 4, .inl c_bits)), (q_t_sizes, .inl (g.X.cI, 4, .inl c_sizes)), (q_t_number, .inl (g.X.cI, 96, .inl c_number')), (q_t_aside, .inl (g.X.cI, 24, .inl c_aside'))])) {c_errors : Nat → Int32} {c_number : Nat → Int32} {c_aside : Nat → Int32} (h : wp_X7_move_b106 Q c_bits c_sizes c_errors c_number c_aside) : ST g 0 0 106 [(0, .ref q_t)] [] [(q_t, .inr (7, [.ref q_t_s, .ref q_t_k, .ref q_t_laid, .int c_images, .ref q_t_errors, .int c_at, .int c_open, .int c_steps, .int c_use, .ref q_t_step, .ref q_t_named, .ref q_t_pile, .ref q_t_sums1, .ref q_t_parts1, .int c_traced, .ref q_t_trace, .int c_speaks, .int c_isParted, .ref q_t_bits, .ref q_t_sizes, .ref q_t_number, .ref q_t_aside])), (q_t_errors, .inl (g.X.cI, 7, .inl c_errors)), (q_t_bits, .inl (g.X.cI, 4, .inl c_bits)), (q_t_sizes, .inl (g.X.cI, 4, .inl c_sizes)), (q_t_number, .inl (g.X.cI, 96, .inl c_number)), (q_t_aside, .inl (g.X.cI, 24, .inl c_aside))] := by
  unfold wp_X7_move_b106 at h
  refine st_aload_n G 107 rfl 0 rfl dX7_move_106 rfl ?_
  refine st_iconst G 108 rfl (1 : Int32) (by decide) dX7_move_107 ?_
  refine st_cVi G lk_X7_65 (c_X7_error g.l g.D g.X q_t q_t_s q_t_k q_t_laid q_t_errors q_t_step q_t_named q_t_pile q_t_sums1 q_t_parts1 q_t_trace q_t_bits q_t_sizes q_t_number q_t_aside c_images c_at c_open c_steps c_use c_traced c_speaks c_isParted c_errors (1 : Int32) _ h) ⟨rfl, rfl, ⟨Nat.le_of_ble_eq_true rfl, Nat.le_of_ble_eq_true rfl⟩, Nat.zero_le _, Nat.zero_le _⟩ 111 rfl [0, 1] rfl (by decide) 0 7 rfl rfl rfl (Nat.le_of_ble_eq_true rfl) rfl dX7_move_108 (fun r_108 w hq => ?_)
  obtain ⟨c_errors_108, h, rfl⟩ := hq
  refine st_wp (ws' := [(q_t, .inr (7, [.ref q_t_s, .ref q_t_k, .ref q_t_laid, .int c_images, .ref q_t_errors, .int c_at, .int c_open, .int c_steps, .int c_use, .ref q_t_step, .ref q_t_named, .ref q_t_pile, .ref q_t_sums1, .ref q_t_parts1, .int c_traced, .ref q_t_trace, .int c_speaks, .int c_isParted, .ref q_t_bits, .ref q_t_sizes, .ref q_t_number, .ref q_t_aside])), (q_t_errors, .inl (g.X.cI, 7, .inl c_errors_108)), (q_t_bits, .inl (g.X.cI, 4, .inl c_bits)), (q_t_sizes, .inl (g.X.cI, 4, .inl c_sizes)), (q_t_number, .inl (g.X.cI, 96, .inl c_number)), (q_t_aside, .inl (g.X.cI, 24, .inl c_aside))]) 6 [2, 3, 4, 5] (by decide) rfl rfl (by rfl) [(q_t_bits, .inl (g.X.cI, 4, .inl c_bits)), (q_t_sizes, .inl (g.X.cI, 4, .inl c_sizes)), (q_t_number, .inl (g.X.cI, 96, .inl c_number)), (q_t_aside, .inl (g.X.cI, 24, .inl c_aside))] (by rfl) rfl ?_
  exact R _ _ _ _ dX7_move_111 (Nat.le_of_ble_eq_true rfl) ⟨_, _, _, h, rfl⟩
set_option maxRecDepth 100000 in
set_option maxHeartbeats 4000000 in
theorem b_X7_move_152 {g : GT} (G : GOOD g RX7 cX7_move 7 rm_X7_move) {q_t q_t_s q_t_k q_t_laid q_t_errors q_t_step q_t_named q_t_pile q_t_sums1 q_t_parts1 q_t_trace q_t_bits q_t_sizes q_t_number q_t_aside : Nat} {c_images : Int32} {c_at : Int32} {c_open : Int32} {c_steps : Int32} {c_use : Int32} {c_traced : Int32} {c_speaks : Int32} {c_isParted : Int32} {c_bits : Nat → Int32} {c_sizes : Nat → Int32} {Q : Int32 → (Nat → Int32) → (Nat → Int32) → (Nat → Int32) → Prop} (R : RETi g cX7_move 6 (fun (r : Int32) w => ∃ (c_errors' : Nat → Int32) (c_number' : Nat → Int32) (c_aside' : Nat → Int32), Q r c_errors' c_number' c_aside' ∧ w = [(q_t, .inr (7, [.ref q_t_s, .ref q_t_k, .ref q_t_laid, .int c_images, .ref q_t_errors, .int c_at, .int c_open, .int c_steps, .int c_use, .ref q_t_step, .ref q_t_named, .ref q_t_pile, .ref q_t_sums1, .ref q_t_parts1, .int c_traced, .ref q_t_trace, .int c_speaks, .int c_isParted, .ref q_t_bits, .ref q_t_sizes, .ref q_t_number, .ref q_t_aside])), (q_t_errors, .inl (g.X.cI, 7, .inl c_errors')), (q_t_bits, .inl (g.X.cI, 4, .inl c_bits)), (q_t_sizes, .inl (g.X.cI, 4, .inl c_sizes)), (q_t_number, .inl (g.X.cI, 96, .inl c_number')), (q_t_aside, .inl (g.X.cI, 24, .inl c_aside'))])) : ∀ (n : Nat) (x3 : Int32) (x4 : Int32) (x5 : Int32) (x6 : Int32) (c_errors : Nat → Int32) (c_number : Nat → Int32) (c_aside : Nat → Int32), wp_X7_move_b152 Q c_bits c_sizes n x3 x4 x5 x6 c_errors c_number c_aside → ST g 0 0 152 [(0, .ref q_t), (3, .int x3), (4, .int x4), (5, .int x5), (6, .int x6)] [] [(q_t, .inr (7, [.ref q_t_s, .ref q_t_k, .ref q_t_laid, .int c_images, .ref q_t_errors, .int c_at, .int c_open, .int c_steps, .int c_use, .ref q_t_step, .ref q_t_named, .ref q_t_pile, .ref q_t_sums1, .ref q_t_parts1, .int c_traced, .ref q_t_trace, .int c_speaks, .int c_isParted, .ref q_t_bits, .ref q_t_sizes, .ref q_t_number, .ref q_t_aside])), (q_t_errors, .inl (g.X.cI, 7, .inl c_errors)), (q_t_bits, .inl (g.X.cI, 4, .inl c_bits)), (q_t_sizes, .inl (g.X.cI, 4, .inl c_sizes)), (q_t_number, .inl (g.X.cI, 96, .inl c_number)), (q_t_aside, .inl (g.X.cI, 24, .inl c_aside))] := by
  intro n
  induction n with
  | zero => intro x3 x4 x5 x6 c_errors c_number c_aside h; exact False.elim h
  | succ n hK152 =>
    intro x3 x4 x5 x6 c_errors c_number c_aside h
    unfold wp_X7_move_b152 at h
    refine st_iload G 154 rfl 4 rfl dX7_move_152 ?_
    refine st_iload G 156 rfl 3 rfl dX7_move_154 ?_
    refine st_icmp_ge G 187 159 rfl dX7_move_156 rfl (fun c => ?_) (fun c => ?_)
    · have h := h.1 c
      refine st_iload G 189 rfl 3 rfl dX7_move_187 ?_
      exact R _ _ _ _ dX7_move_189 (Nat.le_of_ble_eq_true rfl) ⟨_, _, _, h, rfl⟩
    have h := h.2 c
    refine st_aload_n G 160 rfl 0 rfl dX7_move_159 rfl ?_
    refine st_get G inX7 rfl 20 (by decide) wd_94 163 rfl 0 rfl rfl dX7_move_160 ?_
    refine st_bipush G 165 rfl (24 : Int32) (by decide) dX7_move_163 ?_
    refine st_iload_n G 166 rfl 1 rfl dX7_move_165 rfl ?_
    refine st_imul G 167 rfl dX7_move_166 ?_
    refine st_iload G 169 rfl 2 rfl dX7_move_167 ?_
    refine st_iadd G 170 rfl dX7_move_169 ?_
    refine st_iload G 172 rfl 4 rfl dX7_move_170 ?_
    refine st_iadd G 173 rfl dX7_move_172 ?_
    refine st_aload_n G 174 rfl 0 rfl dX7_move_173 rfl ?_
    refine st_get G inX7 rfl 21 (by decide) wd_95 177 rfl 0 rfl rfl dX7_move_174 ?_
    refine st_iload G 179 rfl 4 rfl dX7_move_177 ?_
    obtain ⟨hin, h⟩ := h
    refine st_iald G 180 rfl 5 rfl hin dX7_move_179 ?_
    obtain ⟨hin, h⟩ := h
    obtain ⟨c_number_180, ec_number_180⟩ : ∃ y : Nat → Int32, y = upd c_number ((((24 : Int32) * x3) + x4) + x6).toNatClampNeg (c_aside x6.toNatClampNeg) := ⟨_, rfl⟩
    have h := h c_number_180 ec_number_180
    refine st_iast G [(q_t, .inr (7, [.ref q_t_s, .ref q_t_k, .ref q_t_laid, .int c_images, .ref q_t_errors, .int c_at, .int c_open, .int c_steps, .int c_use, .ref q_t_step, .ref q_t_named, .ref q_t_pile, .ref q_t_sums1, .ref q_t_parts1, .int c_traced, .ref q_t_trace, .int c_speaks, .int c_isParted, .ref q_t_bits, .ref q_t_sizes, .ref q_t_number, .ref q_t_aside])), (q_t_errors, .inl (g.X.cI, 7, .inl c_errors)), (q_t_bits, .inl (g.X.cI, 4, .inl c_bits)), (q_t_sizes, .inl (g.X.cI, 4, .inl c_sizes)), (q_t_number, .inl (g.X.cI, 96, .inl c_number_180)), (q_t_aside, .inl (g.X.cI, 24, .inl c_aside))] 181 rfl 4 rfl hin (by subst ec_number_180; rfl) dX7_move_180 ?_
    obtain ⟨x6_181, ex6_181⟩ : ∃ y : Int32, y = (x6 + (1 : Int32)) := ⟨_, rfl⟩
    have h := h x6_181 ex6_181
    refine st_iinc G 184 rfl [(6, .int x6_181), (0, .ref q_t), (3, .int x3), (4, .int x4), (5, .int x5)] x6_181 4 rfl (by rw [ex6_181]; rfl) dX7_move_181 (by decide) rfl ?_
    refine st_goto G 152 dX7_move_184 rfl ?_
    refine st_L (L' := [(0, .ref q_t), (3, .int x3), (4, .int x4), (5, .int x5), (6, .int x6_181)]) [1, 2, 3, 4, 0] rfl ?_
    exact hK152 _ _ _ _ _ _ _ h
set_option maxRecDepth 100000 in
set_option maxHeartbeats 4000000 in
theorem b_X7_move_115 {g : GT} (G : GOOD g RX7 cX7_move 7 rm_X7_move) {q_t q_t_s q_t_k q_t_laid q_t_errors q_t_step q_t_named q_t_pile q_t_sums1 q_t_parts1 q_t_trace q_t_bits q_t_sizes q_t_number q_t_aside : Nat} {c_images : Int32} {c_at : Int32} {c_open : Int32} {c_steps : Int32} {c_use : Int32} {c_traced : Int32} {c_speaks : Int32} {c_isParted : Int32} {c_bits : Nat → Int32} {c_sizes : Nat → Int32} {Q : Int32 → (Nat → Int32) → (Nat → Int32) → (Nat → Int32) → Prop} (R : RETi g cX7_move 6 (fun (r : Int32) w => ∃ (c_errors' : Nat → Int32) (c_number' : Nat → Int32) (c_aside' : Nat → Int32), Q r c_errors' c_number' c_aside' ∧ w = [(q_t, .inr (7, [.ref q_t_s, .ref q_t_k, .ref q_t_laid, .int c_images, .ref q_t_errors, .int c_at, .int c_open, .int c_steps, .int c_use, .ref q_t_step, .ref q_t_named, .ref q_t_pile, .ref q_t_sums1, .ref q_t_parts1, .int c_traced, .ref q_t_trace, .int c_speaks, .int c_isParted, .ref q_t_bits, .ref q_t_sizes, .ref q_t_number, .ref q_t_aside])), (q_t_errors, .inl (g.X.cI, 7, .inl c_errors')), (q_t_bits, .inl (g.X.cI, 4, .inl c_bits)), (q_t_sizes, .inl (g.X.cI, 4, .inl c_sizes)), (q_t_number, .inl (g.X.cI, 96, .inl c_number')), (q_t_aside, .inl (g.X.cI, 24, .inl c_aside'))])) : ∀ (n : Nat) (x1 : Int32) (x2 : Int32) (x3 : Int32) (x4 : Int32) (x5 : Int32) (x6 : Int32) (c_errors : Nat → Int32) (c_number : Nat → Int32) (c_aside : Nat → Int32), wp_X7_move_b115 Q c_bits c_sizes n x1 x2 x3 x4 x5 x6 c_errors c_number c_aside → ST g 0 0 115 [(0, .ref q_t), (1, .int x1), (2, .int x2), (3, .int x3), (4, .int x4), (5, .int x5), (6, .int x6)] [] [(q_t, .inr (7, [.ref q_t_s, .ref q_t_k, .ref q_t_laid, .int c_images, .ref q_t_errors, .int c_at, .int c_open, .int c_steps, .int c_use, .ref q_t_step, .ref q_t_named, .ref q_t_pile, .ref q_t_sums1, .ref q_t_parts1, .int c_traced, .ref q_t_trace, .int c_speaks, .int c_isParted, .ref q_t_bits, .ref q_t_sizes, .ref q_t_number, .ref q_t_aside])), (q_t_errors, .inl (g.X.cI, 7, .inl c_errors)), (q_t_bits, .inl (g.X.cI, 4, .inl c_bits)), (q_t_sizes, .inl (g.X.cI, 4, .inl c_sizes)), (q_t_number, .inl (g.X.cI, 96, .inl c_number)), (q_t_aside, .inl (g.X.cI, 24, .inl c_aside))] := by
  intro n
  induction n with
  | zero => intro x1 x2 x3 x4 x5 x6 c_errors c_number c_aside h; exact False.elim h
  | succ n hK115 =>
    intro x1 x2 x3 x4 x5 x6 c_errors c_number c_aside h
    unfold wp_X7_move_b115 at h
    refine st_iload G 117 rfl 6 rfl dX7_move_115 ?_
    refine st_iload G 119 rfl 5 rfl dX7_move_117 ?_
    refine st_icmp_ge G 149 122 rfl dX7_move_119 rfl (fun c => ?_) (fun c => ?_)
    · have h := h.1 c
      refine st_iconst G 150 rfl (0 : Int32) (by decide) dX7_move_149 ?_
      refine st_istore G 152 rfl [(6, .int (0 : Int32)), (0, .ref q_t), (1, .int x1), (2, .int x2), (3, .int x3), (4, .int x4), (5, .int x5)] dX7_move_150 (by decide) rfl ?_
      refine st_L (L' := [(0, .ref q_t), (3, .int x3), (4, .int x4), (5, .int x5), (6, .int (0 : Int32))]) [1, 4, 5, 6, 0] rfl ?_
      obtain ⟨n, h⟩ := h
      exact b_X7_move_152 G R n _ _ _ _ _ _ _ h
    have h := h.2 c
    refine st_aload_n G 123 rfl 0 rfl dX7_move_122 rfl ?_
    refine st_get G inX7 rfl 21 (by decide) wd_95 126 rfl 0 rfl rfl dX7_move_123 ?_
    refine st_iload G 128 rfl 6 rfl dX7_move_126 ?_
    refine st_aload_n G 129 rfl 0 rfl dX7_move_128 rfl ?_
    refine st_get G inX7 rfl 20 (by decide) wd_94 132 rfl 0 rfl rfl dX7_move_129 ?_
    refine st_bipush G 134 rfl (24 : Int32) (by decide) dX7_move_132 ?_
    refine st_iload_n G 135 rfl 1 rfl dX7_move_134 rfl ?_
    refine st_imul G 136 rfl dX7_move_135 ?_
    refine st_iload_n G 137 rfl 2 rfl dX7_move_136 rfl ?_
    refine st_iadd G 138 rfl dX7_move_137 ?_
    refine st_iload G 140 rfl 6 rfl dX7_move_138 ?_
    refine st_iadd G 141 rfl dX7_move_140 ?_
    obtain ⟨hin, h⟩ := h
    refine st_iald G 142 rfl 4 rfl hin dX7_move_141 ?_
    obtain ⟨hin, h⟩ := h
    obtain ⟨c_aside_142, ec_aside_142⟩ : ∃ y : Nat → Int32, y = upd c_aside x6.toNatClampNeg (c_number ((((24 : Int32) * x1) + x2) + x6).toNatClampNeg) := ⟨_, rfl⟩
    have h := h c_aside_142 ec_aside_142
    refine st_iast G [(q_t, .inr (7, [.ref q_t_s, .ref q_t_k, .ref q_t_laid, .int c_images, .ref q_t_errors, .int c_at, .int c_open, .int c_steps, .int c_use, .ref q_t_step, .ref q_t_named, .ref q_t_pile, .ref q_t_sums1, .ref q_t_parts1, .int c_traced, .ref q_t_trace, .int c_speaks, .int c_isParted, .ref q_t_bits, .ref q_t_sizes, .ref q_t_number, .ref q_t_aside])), (q_t_errors, .inl (g.X.cI, 7, .inl c_errors)), (q_t_bits, .inl (g.X.cI, 4, .inl c_bits)), (q_t_sizes, .inl (g.X.cI, 4, .inl c_sizes)), (q_t_number, .inl (g.X.cI, 96, .inl c_number)), (q_t_aside, .inl (g.X.cI, 24, .inl c_aside_142))] 143 rfl 5 rfl hin (by subst ec_aside_142; rfl) dX7_move_142 ?_
    obtain ⟨x6_143, ex6_143⟩ : ∃ y : Int32, y = (x6 + (1 : Int32)) := ⟨_, rfl⟩
    have h := h x6_143 ex6_143
    refine st_iinc G 146 rfl [(6, .int x6_143), (0, .ref q_t), (1, .int x1), (2, .int x2), (3, .int x3), (4, .int x4), (5, .int x5)] x6_143 6 rfl (by rw [ex6_143]; rfl) dX7_move_143 (by decide) rfl ?_
    refine st_goto G 115 dX7_move_146 rfl ?_
    refine st_L (L' := [(0, .ref q_t), (1, .int x1), (2, .int x2), (3, .int x3), (4, .int x4), (5, .int x5), (6, .int x6_143)]) [1, 2, 3, 4, 5, 6, 0] rfl ?_
    exact hK115 _ _ _ _ _ _ _ _ _ h
set_option maxRecDepth 100000 in
set_option maxHeartbeats 4000000 in
theorem b_X7_move_e {g : GT} (G : GOOD g RX7 cX7_move 7 rm_X7_move) {q_t q_t_s q_t_k q_t_laid q_t_errors q_t_step q_t_named q_t_pile q_t_sums1 q_t_parts1 q_t_trace q_t_bits q_t_sizes q_t_number q_t_aside : Nat} {c_images : Int32} {c_at : Int32} {c_open : Int32} {c_steps : Int32} {c_use : Int32} {c_traced : Int32} {c_speaks : Int32} {c_isParted : Int32} {c_errors : Nat → Int32} {c_bits : Nat → Int32} {c_sizes : Nat → Int32} {c_number : Nat → Int32} {c_aside : Nat → Int32} {x1 : Int32} {x2 : Int32} {x3 : Int32} {x4 : Int32} {x5 : Int32} {Q : Int32 → (Nat → Int32) → (Nat → Int32) → (Nat → Int32) → Prop} (R : RETi g cX7_move 6 (fun (r : Int32) w => ∃ (c_errors' : Nat → Int32) (c_number' : Nat → Int32) (c_aside' : Nat → Int32), Q r c_errors' c_number' c_aside' ∧ w = [(q_t, .inr (7, [.ref q_t_s, .ref q_t_k, .ref q_t_laid, .int c_images, .ref q_t_errors, .int c_at, .int c_open, .int c_steps, .int c_use, .ref q_t_step, .ref q_t_named, .ref q_t_pile, .ref q_t_sums1, .ref q_t_parts1, .int c_traced, .ref q_t_trace, .int c_speaks, .int c_isParted, .ref q_t_bits, .ref q_t_sizes, .ref q_t_number, .ref q_t_aside])), (q_t_errors, .inl (g.X.cI, 7, .inl c_errors')), (q_t_bits, .inl (g.X.cI, 4, .inl c_bits)), (q_t_sizes, .inl (g.X.cI, 4, .inl c_sizes)), (q_t_number, .inl (g.X.cI, 96, .inl c_number')), (q_t_aside, .inl (g.X.cI, 24, .inl c_aside'))])) (h : wp_X7_move x1 x2 x3 x4 x5 c_errors c_bits c_sizes c_number c_aside Q) : ST g 0 0 0 [(0, .ref q_t), (1, .int x1), (2, .int x2), (3, .int x3), (4, .int x4), (5, .int x5)] [] [(q_t, .inr (7, [.ref q_t_s, .ref q_t_k, .ref q_t_laid, .int c_images, .ref q_t_errors, .int c_at, .int c_open, .int c_steps, .int c_use, .ref q_t_step, .ref q_t_named, .ref q_t_pile, .ref q_t_sums1, .ref q_t_parts1, .int c_traced, .ref q_t_trace, .int c_speaks, .int c_isParted, .ref q_t_bits, .ref q_t_sizes, .ref q_t_number, .ref q_t_aside])), (q_t_errors, .inl (g.X.cI, 7, .inl c_errors)), (q_t_bits, .inl (g.X.cI, 4, .inl c_bits)), (q_t_sizes, .inl (g.X.cI, 4, .inl c_sizes)), (q_t_number, .inl (g.X.cI, 96, .inl c_number)), (q_t_aside, .inl (g.X.cI, 24, .inl c_aside))] := by
  unfold wp_X7_move at h
  refine st_iload_n G 1 rfl 1 rfl dX7_move_0 rfl ?_
  refine st_cSio G lk_X7_269 (c_X7_isSheet g.l g.D g.X x1 _ h) ⟨rfl, rfl, ⟨Nat.le_of_ble_eq_true rfl, Nat.le_of_ble_eq_true rfl⟩, Nat.zero_le _, Nat.zero_le _⟩ 4 rfl [] rfl (by decide) rfl (Nat.le_of_ble_eq_true rfl) rfl dX7_move_1 (fun r_1 h => ?_)
  refine st_if_eq G 14 7 rfl dX7_move_4 rfl (fun c => ?_) (fun c => ?_)
  · have h := h.1 c
    refine st_aload_n G 15 rfl 0 rfl dX7_move_14 rfl ?_
    refine st_iconst G 16 rfl (1 : Int32) (by decide) dX7_move_15 ?_
    refine st_cVi G lk_X7_65 (c_X7_error g.l g.D g.X q_t q_t_s q_t_k q_t_laid q_t_errors q_t_step q_t_named q_t_pile q_t_sums1 q_t_parts1 q_t_trace q_t_bits q_t_sizes q_t_number q_t_aside c_images c_at c_open c_steps c_use c_traced c_speaks c_isParted c_errors (1 : Int32) _ h) ⟨rfl, rfl, ⟨Nat.le_of_ble_eq_true rfl, Nat.le_of_ble_eq_true rfl⟩, Nat.zero_le _, Nat.zero_le _⟩ 19 rfl [0, 1] rfl (by decide) 0 7 rfl rfl rfl (Nat.le_of_ble_eq_true rfl) rfl dX7_move_16 (fun r_16 w hq => ?_)
    obtain ⟨c_errors_16, h, rfl⟩ := hq
    refine st_wp (ws' := [(q_t, .inr (7, [.ref q_t_s, .ref q_t_k, .ref q_t_laid, .int c_images, .ref q_t_errors, .int c_at, .int c_open, .int c_steps, .int c_use, .ref q_t_step, .ref q_t_named, .ref q_t_pile, .ref q_t_sums1, .ref q_t_parts1, .int c_traced, .ref q_t_trace, .int c_speaks, .int c_isParted, .ref q_t_bits, .ref q_t_sizes, .ref q_t_number, .ref q_t_aside])), (q_t_errors, .inl (g.X.cI, 7, .inl c_errors_16)), (q_t_bits, .inl (g.X.cI, 4, .inl c_bits)), (q_t_sizes, .inl (g.X.cI, 4, .inl c_sizes)), (q_t_number, .inl (g.X.cI, 96, .inl c_number)), (q_t_aside, .inl (g.X.cI, 24, .inl c_aside))]) 6 [2, 3, 4, 5] (by decide) rfl rfl (by rfl) [(q_t_bits, .inl (g.X.cI, 4, .inl c_bits)), (q_t_sizes, .inl (g.X.cI, 4, .inl c_sizes)), (q_t_number, .inl (g.X.cI, 96, .inl c_number)), (q_t_aside, .inl (g.X.cI, 24, .inl c_aside))] (by rfl) rfl ?_
    exact R _ _ _ _ dX7_move_19 (Nat.le_of_ble_eq_true rfl) ⟨_, _, _, h, rfl⟩
  have h := h.2 c
  refine st_iload_n G 8 rfl 3 rfl dX7_move_7 rfl ?_
  refine st_cSio G lk_X7_269 (c_X7_isSheet g.l g.D g.X x3 _ h) ⟨rfl, rfl, ⟨Nat.le_of_ble_eq_true rfl, Nat.le_of_ble_eq_true rfl⟩, Nat.zero_le _, Nat.zero_le _⟩ 11 rfl [] rfl (by decide) rfl (Nat.le_of_ble_eq_true rfl) rfl dX7_move_8 (fun r_8 h => ?_)
  refine st_if_ne G 20 14 rfl dX7_move_11 rfl (fun c => ?_) (fun c => ?_)
  · have h := h.1 c
    refine st_aload_n G 21 rfl 0 rfl dX7_move_20 rfl ?_
    refine st_get G inX7 rfl 18 (by decide) wd_92 24 rfl 0 rfl rfl dX7_move_21 ?_
    refine st_iload_n G 25 rfl 1 rfl dX7_move_24 rfl ?_
    obtain ⟨hin, h⟩ := h
    refine st_iald G 26 rfl 2 rfl hin dX7_move_25 ?_
    refine st_if_eq G 38 29 rfl dX7_move_26 rfl (fun c => ?_) (fun c => ?_)
    · have h := h.1 c
      refine st_aload_n G 39 rfl 0 rfl dX7_move_38 rfl ?_
      refine st_iconst G 40 rfl (2 : Int32) (by decide) dX7_move_39 ?_
      refine st_cVi G lk_X7_65 (c_X7_error g.l g.D g.X q_t q_t_s q_t_k q_t_laid q_t_errors q_t_step q_t_named q_t_pile q_t_sums1 q_t_parts1 q_t_trace q_t_bits q_t_sizes q_t_number q_t_aside c_images c_at c_open c_steps c_use c_traced c_speaks c_isParted c_errors (2 : Int32) _ h) ⟨rfl, rfl, ⟨Nat.le_of_ble_eq_true rfl, Nat.le_of_ble_eq_true rfl⟩, Nat.zero_le _, Nat.zero_le _⟩ 43 rfl [0, 1] rfl (by decide) 0 7 rfl rfl rfl (Nat.le_of_ble_eq_true rfl) rfl dX7_move_40 (fun r_40 w hq => ?_)
      obtain ⟨c_errors_40, h, rfl⟩ := hq
      refine st_wp (ws' := [(q_t, .inr (7, [.ref q_t_s, .ref q_t_k, .ref q_t_laid, .int c_images, .ref q_t_errors, .int c_at, .int c_open, .int c_steps, .int c_use, .ref q_t_step, .ref q_t_named, .ref q_t_pile, .ref q_t_sums1, .ref q_t_parts1, .int c_traced, .ref q_t_trace, .int c_speaks, .int c_isParted, .ref q_t_bits, .ref q_t_sizes, .ref q_t_number, .ref q_t_aside])), (q_t_errors, .inl (g.X.cI, 7, .inl c_errors_40)), (q_t_bits, .inl (g.X.cI, 4, .inl c_bits)), (q_t_sizes, .inl (g.X.cI, 4, .inl c_sizes)), (q_t_number, .inl (g.X.cI, 96, .inl c_number)), (q_t_aside, .inl (g.X.cI, 24, .inl c_aside))]) 6 [2, 3, 4, 5] (by decide) rfl rfl (by rfl) [(q_t_bits, .inl (g.X.cI, 4, .inl c_bits)), (q_t_sizes, .inl (g.X.cI, 4, .inl c_sizes)), (q_t_number, .inl (g.X.cI, 96, .inl c_number)), (q_t_aside, .inl (g.X.cI, 24, .inl c_aside))] (by rfl) rfl ?_
      exact R _ _ _ _ dX7_move_43 (Nat.le_of_ble_eq_true rfl) ⟨_, _, _, h, rfl⟩
    have h := h.2 c
    refine st_aload_n G 30 rfl 0 rfl dX7_move_29 rfl ?_
    refine st_get G inX7 rfl 18 (by decide) wd_92 33 rfl 0 rfl rfl dX7_move_30 ?_
    refine st_iload_n G 34 rfl 3 rfl dX7_move_33 rfl ?_
    obtain ⟨hin, h⟩ := h
    refine st_iald G 35 rfl 2 rfl hin dX7_move_34 ?_
    refine st_if_ne G 44 38 rfl dX7_move_35 rfl (fun c => ?_) (fun c => ?_)
    · have h := h.1 c
      refine st_aload_n G 45 rfl 0 rfl dX7_move_44 rfl ?_
      refine st_get G inX7 rfl 18 (by decide) wd_92 48 rfl 0 rfl rfl dX7_move_45 ?_
      refine st_iload_n G 49 rfl 1 rfl dX7_move_48 rfl ?_
      obtain ⟨hin, h⟩ := h
      refine st_iald G 50 rfl 2 rfl hin dX7_move_49 ?_
      refine st_aload_n G 51 rfl 0 rfl dX7_move_50 rfl ?_
      refine st_get G inX7 rfl 18 (by decide) wd_92 54 rfl 0 rfl rfl dX7_move_51 ?_
      refine st_iload_n G 55 rfl 3 rfl dX7_move_54 rfl ?_
      obtain ⟨hin, h⟩ := h
      refine st_iald G 56 rfl 2 rfl hin dX7_move_55 ?_
      refine st_icmp_eq G 65 59 rfl dX7_move_56 rfl (fun c => ?_) (fun c => ?_)
      · have h := h.1 c
        refine st_iload G 67 rfl 5 rfl dX7_move_65 ?_
        refine st_if_lt G 106 70 rfl dX7_move_67 rfl (fun c => ?_) (fun c => ?_)
        · have h := h.1 c
          refine st_L (L' := [(0, .ref q_t)]) [0] rfl ?_
          exact b_X7_move_106 G R h
        have h := h.2 c
        refine st_iload_n G 71 rfl 2 rfl dX7_move_70 rfl ?_
        refine st_if_lt G 106 74 rfl dX7_move_71 rfl (fun c => ?_) (fun c => ?_)
        · have h := h.1 c
          refine st_L (L' := [(0, .ref q_t)]) [0] rfl ?_
          exact b_X7_move_106 G R h
        have h := h.2 c
        refine st_iload G 76 rfl 4 rfl dX7_move_74 ?_
        refine st_if_lt G 106 79 rfl dX7_move_76 rfl (fun c => ?_) (fun c => ?_)
        · have h := h.1 c
          refine st_L (L' := [(0, .ref q_t)]) [0] rfl ?_
          exact b_X7_move_106 G R h
        have h := h.2 c
        refine st_iload_n G 80 rfl 2 rfl dX7_move_79 rfl ?_
        refine st_aload_n G 81 rfl 0 rfl dX7_move_80 rfl ?_
        refine st_get G inX7 rfl 19 (by decide) wd_93 84 rfl 0 rfl rfl dX7_move_81 ?_
        refine st_iload_n G 85 rfl 1 rfl dX7_move_84 rfl ?_
        obtain ⟨hin, h⟩ := h
        refine st_iald G 86 rfl 3 rfl hin dX7_move_85 ?_
        refine st_iload G 88 rfl 5 rfl dX7_move_86 ?_
        refine st_isub G 89 rfl dX7_move_88 ?_
        refine st_icmp_gt G 106 92 rfl dX7_move_89 rfl (fun c => ?_) (fun c => ?_)
        · have h := h.1 c
          refine st_L (L' := [(0, .ref q_t)]) [0] rfl ?_
          exact b_X7_move_106 G R h
        have h := h.2 c
        refine st_iload G 94 rfl 4 rfl dX7_move_92 ?_
        refine st_aload_n G 95 rfl 0 rfl dX7_move_94 rfl ?_
        refine st_get G inX7 rfl 19 (by decide) wd_93 98 rfl 0 rfl rfl dX7_move_95 ?_
        refine st_iload_n G 99 rfl 3 rfl dX7_move_98 rfl ?_
        obtain ⟨hin, h⟩ := h
        refine st_iald G 100 rfl 3 rfl hin dX7_move_99 ?_
        refine st_iload G 102 rfl 5 rfl dX7_move_100 ?_
        refine st_isub G 103 rfl dX7_move_102 ?_
        refine st_icmp_le G 112 106 rfl dX7_move_103 rfl (fun c => ?_) (fun c => ?_)
        · have h := h.1 c
          refine st_iconst G 113 rfl (0 : Int32) (by decide) dX7_move_112 ?_
          refine st_istore G 115 rfl [(6, .int (0 : Int32)), (0, .ref q_t), (1, .int x1), (2, .int x2), (3, .int x3), (4, .int x4), (5, .int x5)] dX7_move_113 (by decide) rfl ?_
          refine st_L (L' := [(0, .ref q_t), (1, .int x1), (2, .int x2), (3, .int x3), (4, .int x4), (5, .int x5), (6, .int (0 : Int32))]) [1, 2, 3, 4, 5, 6, 0] rfl ?_
          obtain ⟨n, h⟩ := h
          exact b_X7_move_115 G R n _ _ _ _ _ _ _ _ _ h
        have h := h.2 c
        refine st_L (L' := [(0, .ref q_t)]) [0] rfl ?_
        exact b_X7_move_106 G R h
      have h := h.2 c
      refine st_aload_n G 60 rfl 0 rfl dX7_move_59 rfl ?_
      refine st_iconst G 61 rfl (5 : Int32) (by decide) dX7_move_60 ?_
      refine st_cVi G lk_X7_65 (c_X7_error g.l g.D g.X q_t q_t_s q_t_k q_t_laid q_t_errors q_t_step q_t_named q_t_pile q_t_sums1 q_t_parts1 q_t_trace q_t_bits q_t_sizes q_t_number q_t_aside c_images c_at c_open c_steps c_use c_traced c_speaks c_isParted c_errors (5 : Int32) _ h) ⟨rfl, rfl, ⟨Nat.le_of_ble_eq_true rfl, Nat.le_of_ble_eq_true rfl⟩, Nat.zero_le _, Nat.zero_le _⟩ 64 rfl [0, 1] rfl (by decide) 0 7 rfl rfl rfl (Nat.le_of_ble_eq_true rfl) rfl dX7_move_61 (fun r_61 w hq => ?_)
      obtain ⟨c_errors_61, h, rfl⟩ := hq
      refine st_wp (ws' := [(q_t, .inr (7, [.ref q_t_s, .ref q_t_k, .ref q_t_laid, .int c_images, .ref q_t_errors, .int c_at, .int c_open, .int c_steps, .int c_use, .ref q_t_step, .ref q_t_named, .ref q_t_pile, .ref q_t_sums1, .ref q_t_parts1, .int c_traced, .ref q_t_trace, .int c_speaks, .int c_isParted, .ref q_t_bits, .ref q_t_sizes, .ref q_t_number, .ref q_t_aside])), (q_t_errors, .inl (g.X.cI, 7, .inl c_errors_61)), (q_t_bits, .inl (g.X.cI, 4, .inl c_bits)), (q_t_sizes, .inl (g.X.cI, 4, .inl c_sizes)), (q_t_number, .inl (g.X.cI, 96, .inl c_number)), (q_t_aside, .inl (g.X.cI, 24, .inl c_aside))]) 6 [2, 3, 4, 5] (by decide) rfl rfl (by rfl) [(q_t_bits, .inl (g.X.cI, 4, .inl c_bits)), (q_t_sizes, .inl (g.X.cI, 4, .inl c_sizes)), (q_t_number, .inl (g.X.cI, 96, .inl c_number)), (q_t_aside, .inl (g.X.cI, 24, .inl c_aside))] (by rfl) rfl ?_
      exact R _ _ _ _ dX7_move_64 (Nat.le_of_ble_eq_true rfl) ⟨_, _, _, h, rfl⟩
    have h := h.2 c
    refine st_aload_n G 39 rfl 0 rfl dX7_move_38 rfl ?_
    refine st_iconst G 40 rfl (2 : Int32) (by decide) dX7_move_39 ?_
    refine st_cVi G lk_X7_65 (c_X7_error g.l g.D g.X q_t q_t_s q_t_k q_t_laid q_t_errors q_t_step q_t_named q_t_pile q_t_sums1 q_t_parts1 q_t_trace q_t_bits q_t_sizes q_t_number q_t_aside c_images c_at c_open c_steps c_use c_traced c_speaks c_isParted c_errors (2 : Int32) _ h) ⟨rfl, rfl, ⟨Nat.le_of_ble_eq_true rfl, Nat.le_of_ble_eq_true rfl⟩, Nat.zero_le _, Nat.zero_le _⟩ 43 rfl [0, 1] rfl (by decide) 0 7 rfl rfl rfl (Nat.le_of_ble_eq_true rfl) rfl dX7_move_40 (fun r_40 w hq => ?_)
    obtain ⟨c_errors_40, h, rfl⟩ := hq
    refine st_wp (ws' := [(q_t, .inr (7, [.ref q_t_s, .ref q_t_k, .ref q_t_laid, .int c_images, .ref q_t_errors, .int c_at, .int c_open, .int c_steps, .int c_use, .ref q_t_step, .ref q_t_named, .ref q_t_pile, .ref q_t_sums1, .ref q_t_parts1, .int c_traced, .ref q_t_trace, .int c_speaks, .int c_isParted, .ref q_t_bits, .ref q_t_sizes, .ref q_t_number, .ref q_t_aside])), (q_t_errors, .inl (g.X.cI, 7, .inl c_errors_40)), (q_t_bits, .inl (g.X.cI, 4, .inl c_bits)), (q_t_sizes, .inl (g.X.cI, 4, .inl c_sizes)), (q_t_number, .inl (g.X.cI, 96, .inl c_number)), (q_t_aside, .inl (g.X.cI, 24, .inl c_aside))]) 6 [2, 3, 4, 5] (by decide) rfl rfl (by rfl) [(q_t_bits, .inl (g.X.cI, 4, .inl c_bits)), (q_t_sizes, .inl (g.X.cI, 4, .inl c_sizes)), (q_t_number, .inl (g.X.cI, 96, .inl c_number)), (q_t_aside, .inl (g.X.cI, 24, .inl c_aside))] (by rfl) rfl ?_
    exact R _ _ _ _ dX7_move_43 (Nat.le_of_ble_eq_true rfl) ⟨_, _, _, h, rfl⟩
  have h := h.2 c
  refine st_aload_n G 15 rfl 0 rfl dX7_move_14 rfl ?_
  refine st_iconst G 16 rfl (1 : Int32) (by decide) dX7_move_15 ?_
  refine st_cVi G lk_X7_65 (c_X7_error g.l g.D g.X q_t q_t_s q_t_k q_t_laid q_t_errors q_t_step q_t_named q_t_pile q_t_sums1 q_t_parts1 q_t_trace q_t_bits q_t_sizes q_t_number q_t_aside c_images c_at c_open c_steps c_use c_traced c_speaks c_isParted c_errors (1 : Int32) _ h) ⟨rfl, rfl, ⟨Nat.le_of_ble_eq_true rfl, Nat.le_of_ble_eq_true rfl⟩, Nat.zero_le _, Nat.zero_le _⟩ 19 rfl [0, 1] rfl (by decide) 0 7 rfl rfl rfl (Nat.le_of_ble_eq_true rfl) rfl dX7_move_16 (fun r_16 w hq => ?_)
  obtain ⟨c_errors_16, h, rfl⟩ := hq
  refine st_wp (ws' := [(q_t, .inr (7, [.ref q_t_s, .ref q_t_k, .ref q_t_laid, .int c_images, .ref q_t_errors, .int c_at, .int c_open, .int c_steps, .int c_use, .ref q_t_step, .ref q_t_named, .ref q_t_pile, .ref q_t_sums1, .ref q_t_parts1, .int c_traced, .ref q_t_trace, .int c_speaks, .int c_isParted, .ref q_t_bits, .ref q_t_sizes, .ref q_t_number, .ref q_t_aside])), (q_t_errors, .inl (g.X.cI, 7, .inl c_errors_16)), (q_t_bits, .inl (g.X.cI, 4, .inl c_bits)), (q_t_sizes, .inl (g.X.cI, 4, .inl c_sizes)), (q_t_number, .inl (g.X.cI, 96, .inl c_number)), (q_t_aside, .inl (g.X.cI, 24, .inl c_aside))]) 6 [2, 3, 4, 5] (by decide) rfl rfl (by rfl) [(q_t_bits, .inl (g.X.cI, 4, .inl c_bits)), (q_t_sizes, .inl (g.X.cI, 4, .inl c_sizes)), (q_t_number, .inl (g.X.cI, 96, .inl c_number)), (q_t_aside, .inl (g.X.cI, 24, .inl c_aside))] (by rfl) rfl ?_
  exact R _ _ _ _ dX7_move_19 (Nat.le_of_ble_eq_true rfl) ⟨_, _, _, h, rfl⟩
set_option maxRecDepth 100000 in
set_option maxHeartbeats 4000000 in
theorem c_X7_move (l : Launch) (D : va_G) (X : XT) (q_t q_t_s q_t_k q_t_laid q_t_errors q_t_step q_t_named q_t_pile q_t_sums1 q_t_parts1 q_t_trace q_t_bits q_t_sizes q_t_number q_t_aside : Nat) (c_images : Int32) (c_at : Int32) (c_open : Int32) (c_steps : Int32) (c_use : Int32) (c_traced : Int32) (c_speaks : Int32) (c_isParted : Int32) (c_errors : Nat → Int32) (c_bits : Nat → Int32) (c_sizes : Nat → Int32) (c_number : Nat → Int32) (c_aside : Nat → Int32) (x1 : Int32) (x2 : Int32) (x3 : Int32) (x4 : Int32) (x5 : Int32) (Q : Int32 → (Nat → Int32) → (Nat → Int32) → (Nat → Int32) → Prop) (h : wp_X7_move x1 x2 x3 x4 x5 c_errors c_bits c_sizes c_number c_aside Q) : CTi l D X yX7_move cX7_move 7 .int rm_X7_move [.ref q_t, .int x1, .int x2, .int x3, .int x4, .int x5] [(q_t, .inr (7, [.ref q_t_s, .ref q_t_k, .ref q_t_laid, .int c_images, .ref q_t_errors, .int c_at, .int c_open, .int c_steps, .int c_use, .ref q_t_step, .ref q_t_named, .ref q_t_pile, .ref q_t_sums1, .ref q_t_parts1, .int c_traced, .ref q_t_trace, .int c_speaks, .int c_isParted, .ref q_t_bits, .ref q_t_sizes, .ref q_t_number, .ref q_t_aside])), (q_t_errors, .inl (X.cI, 7, .inl c_errors)), (q_t_bits, .inl (X.cI, 4, .inl c_bits)), (q_t_sizes, .inl (X.cI, 4, .inl c_sizes)), (q_t_number, .inl (X.cI, 96, .inl c_number)), (q_t_aside, .inl (X.cI, 24, .inl c_aside))] (fun (r : Int32) w => ∃ (c_errors' : Nat → Int32) (c_number' : Nat → Int32) (c_aside' : Nat → Int32), Q r c_errors' c_number' c_aside' ∧ w = [(q_t, .inr (7, [.ref q_t_s, .ref q_t_k, .ref q_t_laid, .int c_images, .ref q_t_errors, .int c_at, .int c_open, .int c_steps, .int c_use, .ref q_t_step, .ref q_t_named, .ref q_t_pile, .ref q_t_sums1, .ref q_t_parts1, .int c_traced, .ref q_t_trace, .int c_speaks, .int c_isParted, .ref q_t_bits, .ref q_t_sizes, .ref q_t_number, .ref q_t_aside])), (q_t_errors, .inl (X.cI, 7, .inl c_errors')), (q_t_bits, .inl (X.cI, 4, .inl c_bits)), (q_t_sizes, .inl (X.cI, 4, .inl c_sizes)), (q_t_number, .inl (X.cI, 96, .inl c_number')), (q_t_aside, .inl (X.cI, 24, .inl c_aside'))]) :=
  ct_i (by decide) (Nat.le_of_ble_eq_true rfl) (fun g hl hD hX G R => by subst hl; subst hD; subst hX; exact b_X7_move_e G R h)
set_option maxRecDepth 100000 in
set_option maxHeartbeats 4000000 in
theorem b_X7_spoons_31 {g : GT} (G : GOOD g RX7 cX7_spoons 5 rm_X7_spoons) {q_t q_t_s q_t_k q_t_laid q_t_errors q_t_step q_t_named q_t_pile q_t_sums1 q_t_parts1 q_t_trace q_t_bits q_t_sizes q_t_number q_t_aside : Nat} {c_images : Int32} {c_at : Int32} {c_open : Int32} {c_steps : Int32} {c_use : Int32} {c_traced : Int32} {c_speaks : Int32} {c_isParted : Int32} {c_bits : Nat → Int32} {c_sizes : Nat → Int32} {c_number : Nat → Int32} {Q : Int32 → (Nat → Int32) → (Nat → Int32) → Prop} (R : RETi g cX7_spoons 6 (fun (r : Int32) w => ∃ (c_s' : Nat → Int32) (c_errors' : Nat → Int32), Q r c_s' c_errors' ∧ w = [(q_t, .inr (7, [.ref q_t_s, .ref q_t_k, .ref q_t_laid, .int c_images, .ref q_t_errors, .int c_at, .int c_open, .int c_steps, .int c_use, .ref q_t_step, .ref q_t_named, .ref q_t_pile, .ref q_t_sums1, .ref q_t_parts1, .int c_traced, .ref q_t_trace, .int c_speaks, .int c_isParted, .ref q_t_bits, .ref q_t_sizes, .ref q_t_number, .ref q_t_aside])), (q_t_s, .inl (g.X.cI, 476, .inl c_s')), (q_t_errors, .inl (g.X.cI, 7, .inl c_errors')), (q_t_bits, .inl (g.X.cI, 4, .inl c_bits)), (q_t_sizes, .inl (g.X.cI, 4, .inl c_sizes)), (q_t_number, .inl (g.X.cI, 96, .inl c_number))])) : ∀ (n : Nat) (x1 : Int32) (x2 : Int32) (x4 : Int32) (c_s : Nat → Int32) (c_errors : Nat → Int32), wp_X7_spoons_b31 Q c_bits c_sizes c_number n x1 x2 x4 c_s c_errors → ST g 0 0 31 [(0, .ref q_t), (1, .int x1), (2, .int x2), (4, .int x4)] [] [(q_t, .inr (7, [.ref q_t_s, .ref q_t_k, .ref q_t_laid, .int c_images, .ref q_t_errors, .int c_at, .int c_open, .int c_steps, .int c_use, .ref q_t_step, .ref q_t_named, .ref q_t_pile, .ref q_t_sums1, .ref q_t_parts1, .int c_traced, .ref q_t_trace, .int c_speaks, .int c_isParted, .ref q_t_bits, .ref q_t_sizes, .ref q_t_number, .ref q_t_aside])), (q_t_s, .inl (g.X.cI, 476, .inl c_s)), (q_t_errors, .inl (g.X.cI, 7, .inl c_errors)), (q_t_bits, .inl (g.X.cI, 4, .inl c_bits)), (q_t_sizes, .inl (g.X.cI, 4, .inl c_sizes)), (q_t_number, .inl (g.X.cI, 96, .inl c_number))] := by
  intro n
  induction n with
  | zero => intro x1 x2 x4 c_s c_errors h; exact False.elim h
  | succ n hK31 =>
    intro x1 x2 x4 c_s c_errors h
    unfold wp_X7_spoons_b31 at h
    refine st_iload G 33 rfl 3 rfl dX7_spoons_31 ?_
    refine st_aload_n G 34 rfl 0 rfl dX7_spoons_33 rfl ?_
    refine st_get G inX7 rfl 19 (by decide) wd_93 37 rfl 0 rfl rfl dX7_spoons_34 ?_
    refine st_iload_n G 38 rfl 2 rfl dX7_spoons_37 rfl ?_
    obtain ⟨hin, h⟩ := h
    refine st_iald G 39 rfl 4 rfl hin dX7_spoons_38 ?_
    refine st_icmp_ge G 103 42 rfl dX7_spoons_39 rfl (fun c => ?_) (fun c => ?_)
    · have h := h.1 c
      refine st_iload G 105 rfl 3 rfl dX7_spoons_103 ?_
      exact R _ _ _ _ dX7_spoons_105 (Nat.le_of_ble_eq_true rfl) ⟨_, _, h, rfl⟩
    have h := h.2 c
    refine st_iload G 44 rfl 3 rfl dX7_spoons_42 ?_
    refine st_cSio G lk_X7_178 (c_X7_isSort g.l g.D g.X x4 _ h) ⟨rfl, rfl, ⟨Nat.le_of_ble_eq_true rfl, Nat.le_of_ble_eq_true rfl⟩, Nat.zero_le _, Nat.zero_le _⟩ 47 rfl [] rfl (by decide) rfl (Nat.le_of_ble_eq_true rfl) rfl dX7_spoons_44 (fun r_44 h => ?_)
    refine st_if_eq G 103 50 rfl dX7_spoons_47 rfl (fun c => ?_) (fun c => ?_)
    · have h := h.1 c
      refine st_iload G 105 rfl 3 rfl dX7_spoons_103 ?_
      exact R _ _ _ _ dX7_spoons_105 (Nat.le_of_ble_eq_true rfl) ⟨_, _, h, rfl⟩
    have h := h.2 c
    refine st_aload_n G 51 rfl 0 rfl dX7_spoons_50 rfl ?_
    refine st_get G inX7 rfl 20 (by decide) wd_94 54 rfl 0 rfl rfl dX7_spoons_51 ?_
    refine st_bipush G 56 rfl (24 : Int32) (by decide) dX7_spoons_54 ?_
    refine st_iload_n G 57 rfl 2 rfl dX7_spoons_56 rfl ?_
    refine st_imul G 58 rfl dX7_spoons_57 ?_
    refine st_iload G 60 rfl 3 rfl dX7_spoons_58 ?_
    refine st_iadd G 61 rfl dX7_spoons_60 ?_
    obtain ⟨hin, h⟩ := h
    refine st_iald G 62 rfl 5 rfl hin dX7_spoons_61 ?_
    refine st_iconst G 63 rfl (0 : Int32) (by decide) dX7_spoons_62 ?_
    refine st_bipush G 65 rfl (99 : Int32) (by decide) dX7_spoons_63 ?_
    refine st_cSio G lk_X7_53 (c_X7_in g.l g.D g.X (c_number (((24 : Int32) * x2) + x4).toNatClampNeg) (0 : Int32) (99 : Int32) _ h) ⟨rfl, rfl, ⟨Nat.le_of_ble_eq_true rfl, Nat.le_of_ble_eq_true rfl⟩, Nat.zero_le _, Nat.zero_le _⟩ 68 rfl [] rfl (by decide) rfl (Nat.le_of_ble_eq_true rfl) rfl dX7_spoons_65 (fun r_65 h => ?_)
    refine st_if_eq G 103 71 rfl dX7_spoons_68 rfl (fun c => ?_) (fun c => ?_)
    · have h := h.1 c
      refine st_iload G 105 rfl 3 rfl dX7_spoons_103 ?_
      exact R _ _ _ _ dX7_spoons_105 (Nat.le_of_ble_eq_true rfl) ⟨_, _, h, rfl⟩
    have h := h.2 c
    refine st_aload_n G 72 rfl 0 rfl dX7_spoons_71 rfl ?_
    refine st_get G inX7 rfl 0 (by decide) wd_82 75 rfl 0 rfl rfl dX7_spoons_72 ?_
    refine st_bipush G 77 rfl (38 : Int32) (by decide) dX7_spoons_75 ?_
    refine st_iconst G 78 rfl (5 : Int32) (by decide) dX7_spoons_77 ?_
    refine st_iload_n G 79 rfl 1 rfl dX7_spoons_78 rfl ?_
    refine st_imul G 80 rfl dX7_spoons_79 ?_
    refine st_iadd G 81 rfl dX7_spoons_80 ?_
    refine st_iload G 83 rfl 3 rfl dX7_spoons_81 ?_
    refine st_iadd G 84 rfl dX7_spoons_83 ?_
    refine st_aload_n G 85 rfl 0 rfl dX7_spoons_84 rfl ?_
    refine st_get G inX7 rfl 20 (by decide) wd_94 88 rfl 0 rfl rfl dX7_spoons_85 ?_
    refine st_bipush G 90 rfl (24 : Int32) (by decide) dX7_spoons_88 ?_
    refine st_iload_n G 91 rfl 2 rfl dX7_spoons_90 rfl ?_
    refine st_imul G 92 rfl dX7_spoons_91 ?_
    refine st_iload G 94 rfl 3 rfl dX7_spoons_92 ?_
    refine st_iadd G 95 rfl dX7_spoons_94 ?_
    obtain ⟨hin, h⟩ := h
    refine st_iald G 96 rfl 5 rfl hin dX7_spoons_95 ?_
    obtain ⟨hin, h⟩ := h
    obtain ⟨c_s_96, ec_s_96⟩ : ∃ y : Nat → Int32, y = upd c_s (((38 : Int32) + ((5 : Int32) * x1)) + x4).toNatClampNeg (c_number (((24 : Int32) * x2) + x4).toNatClampNeg) := ⟨_, rfl⟩
    have h := h c_s_96 ec_s_96
    refine st_iast G [(q_t, .inr (7, [.ref q_t_s, .ref q_t_k, .ref q_t_laid, .int c_images, .ref q_t_errors, .int c_at, .int c_open, .int c_steps, .int c_use, .ref q_t_step, .ref q_t_named, .ref q_t_pile, .ref q_t_sums1, .ref q_t_parts1, .int c_traced, .ref q_t_trace, .int c_speaks, .int c_isParted, .ref q_t_bits, .ref q_t_sizes, .ref q_t_number, .ref q_t_aside])), (q_t_s, .inl (g.X.cI, 476, .inl c_s_96)), (q_t_errors, .inl (g.X.cI, 7, .inl c_errors)), (q_t_bits, .inl (g.X.cI, 4, .inl c_bits)), (q_t_sizes, .inl (g.X.cI, 4, .inl c_sizes)), (q_t_number, .inl (g.X.cI, 96, .inl c_number))] 97 rfl 1 rfl hin (by subst ec_s_96; rfl) dX7_spoons_96 ?_
    obtain ⟨x4_97, ex4_97⟩ : ∃ y : Int32, y = (x4 + (1 : Int32)) := ⟨_, rfl⟩
    have h := h x4_97 ex4_97
    refine st_iinc G 100 rfl [(4, .int x4_97), (0, .ref q_t), (1, .int x1), (2, .int x2)] x4_97 3 rfl (by rw [ex4_97]; rfl) dX7_spoons_97 (by decide) rfl ?_
    refine st_goto G 31 dX7_spoons_100 rfl ?_
    refine st_L (L' := [(0, .ref q_t), (1, .int x1), (2, .int x2), (4, .int x4_97)]) [1, 2, 3, 0] rfl ?_
    exact hK31 _ _ _ _ _ h
set_option maxRecDepth 100000 in
set_option maxHeartbeats 4000000 in
theorem b_X7_spoons_e {g : GT} (G : GOOD g RX7 cX7_spoons 5 rm_X7_spoons) {q_t q_t_s q_t_k q_t_laid q_t_errors q_t_step q_t_named q_t_pile q_t_sums1 q_t_parts1 q_t_trace q_t_bits q_t_sizes q_t_number q_t_aside : Nat} {c_images : Int32} {c_at : Int32} {c_open : Int32} {c_steps : Int32} {c_use : Int32} {c_traced : Int32} {c_speaks : Int32} {c_isParted : Int32} {c_s : Nat → Int32} {c_errors : Nat → Int32} {c_bits : Nat → Int32} {c_sizes : Nat → Int32} {c_number : Nat → Int32} {x1 : Int32} {x2 : Int32} {Q : Int32 → (Nat → Int32) → (Nat → Int32) → Prop} (R : RETi g cX7_spoons 6 (fun (r : Int32) w => ∃ (c_s' : Nat → Int32) (c_errors' : Nat → Int32), Q r c_s' c_errors' ∧ w = [(q_t, .inr (7, [.ref q_t_s, .ref q_t_k, .ref q_t_laid, .int c_images, .ref q_t_errors, .int c_at, .int c_open, .int c_steps, .int c_use, .ref q_t_step, .ref q_t_named, .ref q_t_pile, .ref q_t_sums1, .ref q_t_parts1, .int c_traced, .ref q_t_trace, .int c_speaks, .int c_isParted, .ref q_t_bits, .ref q_t_sizes, .ref q_t_number, .ref q_t_aside])), (q_t_s, .inl (g.X.cI, 476, .inl c_s')), (q_t_errors, .inl (g.X.cI, 7, .inl c_errors')), (q_t_bits, .inl (g.X.cI, 4, .inl c_bits)), (q_t_sizes, .inl (g.X.cI, 4, .inl c_sizes)), (q_t_number, .inl (g.X.cI, 96, .inl c_number))])) (h : wp_X7_spoons x1 x2 c_s c_errors c_bits c_sizes c_number Q) : ST g 0 0 0 [(0, .ref q_t), (1, .int x1), (2, .int x2)] [] [(q_t, .inr (7, [.ref q_t_s, .ref q_t_k, .ref q_t_laid, .int c_images, .ref q_t_errors, .int c_at, .int c_open, .int c_steps, .int c_use, .ref q_t_step, .ref q_t_named, .ref q_t_pile, .ref q_t_sums1, .ref q_t_parts1, .int c_traced, .ref q_t_trace, .int c_speaks, .int c_isParted, .ref q_t_bits, .ref q_t_sizes, .ref q_t_number, .ref q_t_aside])), (q_t_s, .inl (g.X.cI, 476, .inl c_s)), (q_t_errors, .inl (g.X.cI, 7, .inl c_errors)), (q_t_bits, .inl (g.X.cI, 4, .inl c_bits)), (q_t_sizes, .inl (g.X.cI, 4, .inl c_sizes)), (q_t_number, .inl (g.X.cI, 96, .inl c_number))] := by
  unfold wp_X7_spoons at h
  refine st_aload_n G 1 rfl 0 rfl dX7_spoons_0 rfl ?_
  refine st_iload_n G 2 rfl 1 rfl dX7_spoons_1 rfl ?_
  refine st_cVio G lk_X7_156 (c_X7_isPerson g.l g.D g.X q_t q_t_s q_t_k q_t_laid q_t_errors q_t_step q_t_named q_t_pile q_t_sums1 q_t_parts1 q_t_trace q_t_bits q_t_sizes q_t_number q_t_aside c_images c_at c_open c_steps c_use c_traced c_speaks c_isParted c_s x1 _ h) ⟨rfl, rfl, ⟨Nat.le_of_ble_eq_true rfl, Nat.le_of_ble_eq_true rfl⟩, Nat.zero_le _, Nat.zero_le _⟩ 5 rfl [0, 1] rfl (by decide) 0 7 rfl rfl rfl (Nat.le_of_ble_eq_true rfl) rfl dX7_spoons_2 (fun r_2 h => ?_)
  refine st_if_eq G 16 8 rfl dX7_spoons_5 rfl (fun c => ?_) (fun c => ?_)
  · have h := h.1 c
    refine st_iconst G 17 rfl (1 : Int32) (by decide) dX7_spoons_16 ?_
    refine st_istore_n G 18 rfl [(3, .int (1 : Int32)), (0, .ref q_t), (1, .int x1), (2, .int x2)] dX7_spoons_17 rfl (by decide) rfl ?_
    refine st_iload_n G 19 rfl 0 rfl dX7_spoons_18 rfl ?_
    refine st_if_eq G 28 22 rfl dX7_spoons_19 rfl (fun c => ?_) (fun c => ?_)
    · have h := h.1 c
      refine st_iconst G 29 rfl (0 : Int32) (by decide) dX7_spoons_28 ?_
      refine st_istore G 31 rfl [(4, .int (0 : Int32)), (3, .int (1 : Int32)), (0, .ref q_t), (1, .int x1), (2, .int x2)] dX7_spoons_29 (by decide) rfl ?_
      refine st_L (L' := [(0, .ref q_t), (1, .int x1), (2, .int x2), (4, .int (0 : Int32))]) [2, 3, 4, 0] rfl ?_
      obtain ⟨n, h⟩ := h
      exact b_X7_spoons_31 G R n _ _ _ _ _ h
    have h := h.2 c
    refine st_aload_n G 23 rfl 1 rfl dX7_spoons_22 rfl ?_
    refine st_iload_n G 24 rfl 0 rfl dX7_spoons_23 rfl ?_
    refine st_cVi G lk_X7_65 (c_X7_error g.l g.D g.X q_t q_t_s q_t_k q_t_laid q_t_errors q_t_step q_t_named q_t_pile q_t_sums1 q_t_parts1 q_t_trace q_t_bits q_t_sizes q_t_number q_t_aside c_images c_at c_open c_steps c_use c_traced c_speaks c_isParted c_errors (1 : Int32) _ h) ⟨rfl, rfl, ⟨Nat.le_of_ble_eq_true rfl, Nat.le_of_ble_eq_true rfl⟩, Nat.zero_le _, Nat.zero_le _⟩ 27 rfl [0, 2] rfl (by decide) 0 7 rfl rfl rfl (Nat.le_of_ble_eq_true rfl) rfl dX7_spoons_24 (fun r_24 w hq => ?_)
    obtain ⟨c_errors_24, h, rfl⟩ := hq
    refine st_wp (ws' := [(q_t, .inr (7, [.ref q_t_s, .ref q_t_k, .ref q_t_laid, .int c_images, .ref q_t_errors, .int c_at, .int c_open, .int c_steps, .int c_use, .ref q_t_step, .ref q_t_named, .ref q_t_pile, .ref q_t_sums1, .ref q_t_parts1, .int c_traced, .ref q_t_trace, .int c_speaks, .int c_isParted, .ref q_t_bits, .ref q_t_sizes, .ref q_t_number, .ref q_t_aside])), (q_t_s, .inl (g.X.cI, 476, .inl c_s)), (q_t_errors, .inl (g.X.cI, 7, .inl c_errors_24)), (q_t_bits, .inl (g.X.cI, 4, .inl c_bits)), (q_t_sizes, .inl (g.X.cI, 4, .inl c_sizes)), (q_t_number, .inl (g.X.cI, 96, .inl c_number))]) 6 [1, 3, 4, 5] (by decide) rfl rfl (by rfl) [(q_t_s, .inl (g.X.cI, 476, .inl c_s)), (q_t_bits, .inl (g.X.cI, 4, .inl c_bits)), (q_t_sizes, .inl (g.X.cI, 4, .inl c_sizes)), (q_t_number, .inl (g.X.cI, 96, .inl c_number))] (by rfl) rfl ?_
    exact R _ _ _ _ dX7_spoons_27 (Nat.le_of_ble_eq_true rfl) ⟨_, _, h, rfl⟩
  have h := h.2 c
  refine st_aload_n G 9 rfl 0 rfl dX7_spoons_8 rfl ?_
  refine st_iload_n G 10 rfl 2 rfl dX7_spoons_9 rfl ?_
  refine st_cVio G lk_X7_231 (c_X7_lacks g.l g.D g.X q_t q_t_s q_t_k q_t_laid q_t_errors q_t_step q_t_named q_t_pile q_t_sums1 q_t_parts1 q_t_trace q_t_bits q_t_sizes q_t_number q_t_aside c_images c_at c_open c_steps c_use c_traced c_speaks c_isParted c_bits x2 _ h) ⟨rfl, rfl, ⟨Nat.le_of_ble_eq_true rfl, Nat.le_of_ble_eq_true rfl⟩, Nat.zero_le _, Nat.zero_le _⟩ 13 rfl [0, 3] rfl (by decide) 0 7 rfl rfl rfl (Nat.le_of_ble_eq_true rfl) rfl dX7_spoons_10 (fun r_10 h => ?_)
  refine st_goto G 17 dX7_spoons_13 rfl ?_
  refine st_istore_n G 18 rfl [(3, .int r_10), (0, .ref q_t), (1, .int x1), (2, .int x2)] dX7_spoons_17 rfl (by decide) rfl ?_
  refine st_iload_n G 19 rfl 0 rfl dX7_spoons_18 rfl ?_
  refine st_if_eq G 28 22 rfl dX7_spoons_19 rfl (fun c => ?_) (fun c => ?_)
  · have h := h.1 c
    refine st_iconst G 29 rfl (0 : Int32) (by decide) dX7_spoons_28 ?_
    refine st_istore G 31 rfl [(4, .int (0 : Int32)), (3, .int r_10), (0, .ref q_t), (1, .int x1), (2, .int x2)] dX7_spoons_29 (by decide) rfl ?_
    refine st_L (L' := [(0, .ref q_t), (1, .int x1), (2, .int x2), (4, .int (0 : Int32))]) [2, 3, 4, 0] rfl ?_
    obtain ⟨n, h⟩ := h
    exact b_X7_spoons_31 G R n _ _ _ _ _ h
  have h := h.2 c
  refine st_aload_n G 23 rfl 1 rfl dX7_spoons_22 rfl ?_
  refine st_iload_n G 24 rfl 0 rfl dX7_spoons_23 rfl ?_
  refine st_cVi G lk_X7_65 (c_X7_error g.l g.D g.X q_t q_t_s q_t_k q_t_laid q_t_errors q_t_step q_t_named q_t_pile q_t_sums1 q_t_parts1 q_t_trace q_t_bits q_t_sizes q_t_number q_t_aside c_images c_at c_open c_steps c_use c_traced c_speaks c_isParted c_errors r_10 _ h) ⟨rfl, rfl, ⟨Nat.le_of_ble_eq_true rfl, Nat.le_of_ble_eq_true rfl⟩, Nat.zero_le _, Nat.zero_le _⟩ 27 rfl [0, 2] rfl (by decide) 0 7 rfl rfl rfl (Nat.le_of_ble_eq_true rfl) rfl dX7_spoons_24 (fun r_24 w hq => ?_)
  obtain ⟨c_errors_24, h, rfl⟩ := hq
  refine st_wp (ws' := [(q_t, .inr (7, [.ref q_t_s, .ref q_t_k, .ref q_t_laid, .int c_images, .ref q_t_errors, .int c_at, .int c_open, .int c_steps, .int c_use, .ref q_t_step, .ref q_t_named, .ref q_t_pile, .ref q_t_sums1, .ref q_t_parts1, .int c_traced, .ref q_t_trace, .int c_speaks, .int c_isParted, .ref q_t_bits, .ref q_t_sizes, .ref q_t_number, .ref q_t_aside])), (q_t_s, .inl (g.X.cI, 476, .inl c_s)), (q_t_errors, .inl (g.X.cI, 7, .inl c_errors_24)), (q_t_bits, .inl (g.X.cI, 4, .inl c_bits)), (q_t_sizes, .inl (g.X.cI, 4, .inl c_sizes)), (q_t_number, .inl (g.X.cI, 96, .inl c_number))]) 6 [1, 3, 4, 5] (by decide) rfl rfl (by rfl) [(q_t_s, .inl (g.X.cI, 476, .inl c_s)), (q_t_bits, .inl (g.X.cI, 4, .inl c_bits)), (q_t_sizes, .inl (g.X.cI, 4, .inl c_sizes)), (q_t_number, .inl (g.X.cI, 96, .inl c_number))] (by rfl) rfl ?_
  exact R _ _ _ _ dX7_spoons_27 (Nat.le_of_ble_eq_true rfl) ⟨_, _, h, rfl⟩
set_option maxRecDepth 100000 in
set_option maxHeartbeats 4000000 in
theorem c_X7_spoons (l : Launch) (D : va_G) (X : XT) (q_t q_t_s q_t_k q_t_laid q_t_errors q_t_step q_t_named q_t_pile q_t_sums1 q_t_parts1 q_t_trace q_t_bits q_t_sizes q_t_number q_t_aside : Nat) (c_images : Int32) (c_at : Int32) (c_open : Int32) (c_steps : Int32) (c_use : Int32) (c_traced : Int32) (c_speaks : Int32) (c_isParted : Int32) (c_s : Nat → Int32) (c_errors : Nat → Int32) (c_bits : Nat → Int32) (c_sizes : Nat → Int32) (c_number : Nat → Int32) (x1 : Int32) (x2 : Int32) (Q : Int32 → (Nat → Int32) → (Nat → Int32) → Prop) (h : wp_X7_spoons x1 x2 c_s c_errors c_bits c_sizes c_number Q) : CTi l D X yX7_spoons cX7_spoons 5 .int rm_X7_spoons [.ref q_t, .int x1, .int x2] [(q_t, .inr (7, [.ref q_t_s, .ref q_t_k, .ref q_t_laid, .int c_images, .ref q_t_errors, .int c_at, .int c_open, .int c_steps, .int c_use, .ref q_t_step, .ref q_t_named, .ref q_t_pile, .ref q_t_sums1, .ref q_t_parts1, .int c_traced, .ref q_t_trace, .int c_speaks, .int c_isParted, .ref q_t_bits, .ref q_t_sizes, .ref q_t_number, .ref q_t_aside])), (q_t_s, .inl (X.cI, 476, .inl c_s)), (q_t_errors, .inl (X.cI, 7, .inl c_errors)), (q_t_bits, .inl (X.cI, 4, .inl c_bits)), (q_t_sizes, .inl (X.cI, 4, .inl c_sizes)), (q_t_number, .inl (X.cI, 96, .inl c_number))] (fun (r : Int32) w => ∃ (c_s' : Nat → Int32) (c_errors' : Nat → Int32), Q r c_s' c_errors' ∧ w = [(q_t, .inr (7, [.ref q_t_s, .ref q_t_k, .ref q_t_laid, .int c_images, .ref q_t_errors, .int c_at, .int c_open, .int c_steps, .int c_use, .ref q_t_step, .ref q_t_named, .ref q_t_pile, .ref q_t_sums1, .ref q_t_parts1, .int c_traced, .ref q_t_trace, .int c_speaks, .int c_isParted, .ref q_t_bits, .ref q_t_sizes, .ref q_t_number, .ref q_t_aside])), (q_t_s, .inl (X.cI, 476, .inl c_s')), (q_t_errors, .inl (X.cI, 7, .inl c_errors')), (q_t_bits, .inl (X.cI, 4, .inl c_bits)), (q_t_sizes, .inl (X.cI, 4, .inl c_sizes)), (q_t_number, .inl (X.cI, 96, .inl c_number))]) :=
  ct_i (by decide) (Nat.le_of_ble_eq_true rfl) (fun g hl hD hX G R => by subst hl; subst hD; subst hX; exact b_X7_spoons_e G R h)
set_option maxRecDepth 100000 in
set_option maxHeartbeats 4000000 in
theorem b_X7_judge_18 {g : GT} (G : GOOD g RX7 cX7_judge 4 rm_X7_judge) {q_t q_t_s q_t_k q_t_laid q_t_errors q_t_step q_t_named q_t_pile q_t_sums1 q_t_parts1 q_t_trace q_t_bits q_t_sizes q_t_number q_t_aside : Nat} {c_images : Int32} {c_at : Int32} {c_open : Int32} {c_steps : Int32} {c_use : Int32} {c_traced : Int32} {c_speaks : Int32} {c_isParted : Int32} {c_s : Nat → Int32} {c_bits : Nat → Int32} {c_sizes : Nat → Int32} {c_number : Nat → Int32} {Q : Int32 → (Nat → Int32) → Prop} (R : RETi g cX7_judge 6 (fun (r : Int32) w => ∃ (c_errors' : Nat → Int32), Q r c_errors' ∧ w = [(q_t, .inr (7, [.ref q_t_s, .ref q_t_k, .ref q_t_laid, .int c_images, .ref q_t_errors, .int c_at, .int c_open, .int c_steps, .int c_use, .ref q_t_step, .ref q_t_named, .ref q_t_pile, .ref q_t_sums1, .ref q_t_parts1, .int c_traced, .ref q_t_trace, .int c_speaks, .int c_isParted, .ref q_t_bits, .ref q_t_sizes, .ref q_t_number, .ref q_t_aside])), (q_t_s, .inl (g.X.cI, 476, .inl c_s)), (q_t_errors, .inl (g.X.cI, 7, .inl c_errors')), (q_t_bits, .inl (g.X.cI, 4, .inl c_bits)), (q_t_sizes, .inl (g.X.cI, 4, .inl c_sizes)), (q_t_number, .inl (g.X.cI, 96, .inl c_number))])) : ∀ (n : Nat) (x1 : Int32) (x3 : Int32) (c_errors : Nat → Int32), wp_X7_judge_b18 Q c_s c_bits c_sizes c_number n x1 x3 c_errors → ST g 0 0 18 [(0, .ref q_t), (1, .int x1), (3, .int x3)] [] [(q_t, .inr (7, [.ref q_t_s, .ref q_t_k, .ref q_t_laid, .int c_images, .ref q_t_errors, .int c_at, .int c_open, .int c_steps, .int c_use, .ref q_t_step, .ref q_t_named, .ref q_t_pile, .ref q_t_sums1, .ref q_t_parts1, .int c_traced, .ref q_t_trace, .int c_speaks, .int c_isParted, .ref q_t_bits, .ref q_t_sizes, .ref q_t_number, .ref q_t_aside])), (q_t_s, .inl (g.X.cI, 476, .inl c_s)), (q_t_errors, .inl (g.X.cI, 7, .inl c_errors)), (q_t_bits, .inl (g.X.cI, 4, .inl c_bits)), (q_t_sizes, .inl (g.X.cI, 4, .inl c_sizes)), (q_t_number, .inl (g.X.cI, 96, .inl c_number))] := by
  intro n
  induction n with
  | zero => intro x1 x3 c_errors h; exact False.elim h
  | succ n hK18 =>
    intro x1 x3 c_errors h
    unfold wp_X7_judge_b18 at h
    refine st_iload_n G 19 rfl 2 rfl dX7_judge_18 rfl ?_
    refine st_aload_n G 20 rfl 0 rfl dX7_judge_19 rfl ?_
    refine st_get G inX7 rfl 19 (by decide) wd_93 23 rfl 0 rfl rfl dX7_judge_20 ?_
    refine st_iload_n G 24 rfl 1 rfl dX7_judge_23 rfl ?_
    obtain ⟨hin, h⟩ := h
    refine st_iald G 25 rfl 4 rfl hin dX7_judge_24 ?_
    refine st_icmp_ge G 61 28 rfl dX7_judge_25 rfl (fun c => ?_) (fun c => ?_)
    · have h := h.1 c
      refine st_iload_n G 62 rfl 2 rfl dX7_judge_61 rfl ?_
      exact R _ _ _ _ dX7_judge_62 (Nat.le_of_ble_eq_true rfl) ⟨_, h, rfl⟩
    have h := h.2 c
    refine st_aload_n G 29 rfl 0 rfl dX7_judge_28 rfl ?_
    refine st_iload_n G 30 rfl 2 rfl dX7_judge_29 rfl ?_
    refine st_cVio G lk_X7_156 (c_X7_isPerson g.l g.D g.X q_t q_t_s q_t_k q_t_laid q_t_errors q_t_step q_t_named q_t_pile q_t_sums1 q_t_parts1 q_t_trace q_t_bits q_t_sizes q_t_number q_t_aside c_images c_at c_open c_steps c_use c_traced c_speaks c_isParted c_s x3 _ h) ⟨rfl, rfl, ⟨Nat.le_of_ble_eq_true rfl, Nat.le_of_ble_eq_true rfl⟩, Nat.zero_le _, Nat.zero_le _⟩ 33 rfl [0, 1] rfl (by decide) 0 7 rfl rfl rfl (Nat.le_of_ble_eq_true rfl) rfl dX7_judge_30 (fun r_30 h => ?_)
    refine st_if_eq G 61 36 rfl dX7_judge_33 rfl (fun c => ?_) (fun c => ?_)
    · have h := h.1 c
      refine st_iload_n G 62 rfl 2 rfl dX7_judge_61 rfl ?_
      exact R _ _ _ _ dX7_judge_62 (Nat.le_of_ble_eq_true rfl) ⟨_, h, rfl⟩
    have h := h.2 c
    refine st_aload_n G 37 rfl 0 rfl dX7_judge_36 rfl ?_
    refine st_iload_n G 38 rfl 2 rfl dX7_judge_37 rfl ?_
    refine st_cVio G lk_X7_163 (c_X7_heap g.l g.D g.X q_t q_t_s q_t_k q_t_laid q_t_errors q_t_step q_t_named q_t_pile q_t_sums1 q_t_parts1 q_t_trace q_t_bits q_t_sizes q_t_number q_t_aside c_images c_at c_open c_steps c_use c_traced c_speaks c_isParted c_s x3 _ h) ⟨rfl, rfl, ⟨Nat.le_of_ble_eq_true rfl, Nat.le_of_ble_eq_true rfl⟩, Nat.zero_le _, Nat.zero_le _⟩ 41 rfl [0, 1] rfl (by decide) 0 7 rfl rfl rfl (Nat.le_of_ble_eq_true rfl) rfl dX7_judge_38 (fun r_38 h => ?_)
    refine st_aload_n G 42 rfl 0 rfl dX7_judge_41 rfl ?_
    refine st_get G inX7 rfl 20 (by decide) wd_94 45 rfl 0 rfl rfl dX7_judge_42 ?_
    refine st_bipush G 47 rfl (24 : Int32) (by decide) dX7_judge_45 ?_
    refine st_iload_n G 48 rfl 1 rfl dX7_judge_47 rfl ?_
    refine st_imul G 49 rfl dX7_judge_48 ?_
    refine st_iload_n G 50 rfl 2 rfl dX7_judge_49 rfl ?_
    refine st_iadd G 51 rfl dX7_judge_50 ?_
    obtain ⟨hin, h⟩ := h
    refine st_iald G 52 rfl 5 rfl hin dX7_judge_51 ?_
    refine st_icmp_ne G 61 55 rfl dX7_judge_52 rfl (fun c => ?_) (fun c => ?_)
    · have h := h.1 c
      refine st_iload_n G 62 rfl 2 rfl dX7_judge_61 rfl ?_
      exact R _ _ _ _ dX7_judge_62 (Nat.le_of_ble_eq_true rfl) ⟨_, h, rfl⟩
    have h := h.2 c
    obtain ⟨x3_55, ex3_55⟩ : ∃ y : Int32, y = (x3 + (1 : Int32)) := ⟨_, rfl⟩
    have h := h x3_55 ex3_55
    refine st_iinc G 58 rfl [(3, .int x3_55), (0, .ref q_t), (1, .int x1)] x3_55 2 rfl (by rw [ex3_55]; rfl) dX7_judge_55 (by decide) rfl ?_
    refine st_goto G 18 dX7_judge_58 rfl ?_
    refine st_L (L' := [(0, .ref q_t), (1, .int x1), (3, .int x3_55)]) [1, 2, 0] rfl ?_
    exact hK18 _ _ _ h
set_option maxRecDepth 100000 in
set_option maxHeartbeats 4000000 in
theorem b_X7_judge_e {g : GT} (G : GOOD g RX7 cX7_judge 4 rm_X7_judge) {q_t q_t_s q_t_k q_t_laid q_t_errors q_t_step q_t_named q_t_pile q_t_sums1 q_t_parts1 q_t_trace q_t_bits q_t_sizes q_t_number q_t_aside : Nat} {c_images : Int32} {c_at : Int32} {c_open : Int32} {c_steps : Int32} {c_use : Int32} {c_traced : Int32} {c_speaks : Int32} {c_isParted : Int32} {c_s : Nat → Int32} {c_errors : Nat → Int32} {c_bits : Nat → Int32} {c_sizes : Nat → Int32} {c_number : Nat → Int32} {x1 : Int32} {Q : Int32 → (Nat → Int32) → Prop} (R : RETi g cX7_judge 6 (fun (r : Int32) w => ∃ (c_errors' : Nat → Int32), Q r c_errors' ∧ w = [(q_t, .inr (7, [.ref q_t_s, .ref q_t_k, .ref q_t_laid, .int c_images, .ref q_t_errors, .int c_at, .int c_open, .int c_steps, .int c_use, .ref q_t_step, .ref q_t_named, .ref q_t_pile, .ref q_t_sums1, .ref q_t_parts1, .int c_traced, .ref q_t_trace, .int c_speaks, .int c_isParted, .ref q_t_bits, .ref q_t_sizes, .ref q_t_number, .ref q_t_aside])), (q_t_s, .inl (g.X.cI, 476, .inl c_s)), (q_t_errors, .inl (g.X.cI, 7, .inl c_errors')), (q_t_bits, .inl (g.X.cI, 4, .inl c_bits)), (q_t_sizes, .inl (g.X.cI, 4, .inl c_sizes)), (q_t_number, .inl (g.X.cI, 96, .inl c_number))])) (h : wp_X7_judge x1 c_s c_errors c_bits c_sizes c_number Q) : ST g 0 0 0 [(0, .ref q_t), (1, .int x1)] [] [(q_t, .inr (7, [.ref q_t_s, .ref q_t_k, .ref q_t_laid, .int c_images, .ref q_t_errors, .int c_at, .int c_open, .int c_steps, .int c_use, .ref q_t_step, .ref q_t_named, .ref q_t_pile, .ref q_t_sums1, .ref q_t_parts1, .int c_traced, .ref q_t_trace, .int c_speaks, .int c_isParted, .ref q_t_bits, .ref q_t_sizes, .ref q_t_number, .ref q_t_aside])), (q_t_s, .inl (g.X.cI, 476, .inl c_s)), (q_t_errors, .inl (g.X.cI, 7, .inl c_errors)), (q_t_bits, .inl (g.X.cI, 4, .inl c_bits)), (q_t_sizes, .inl (g.X.cI, 4, .inl c_sizes)), (q_t_number, .inl (g.X.cI, 96, .inl c_number))] := by
  unfold wp_X7_judge at h
  refine st_aload_n G 1 rfl 0 rfl dX7_judge_0 rfl ?_
  refine st_iload_n G 2 rfl 1 rfl dX7_judge_1 rfl ?_
  refine st_cVio G lk_X7_231 (c_X7_lacks g.l g.D g.X q_t q_t_s q_t_k q_t_laid q_t_errors q_t_step q_t_named q_t_pile q_t_sums1 q_t_parts1 q_t_trace q_t_bits q_t_sizes q_t_number q_t_aside c_images c_at c_open c_steps c_use c_traced c_speaks c_isParted c_bits x1 _ h) ⟨rfl, rfl, ⟨Nat.le_of_ble_eq_true rfl, Nat.le_of_ble_eq_true rfl⟩, Nat.zero_le _, Nat.zero_le _⟩ 5 rfl [0, 3] rfl (by decide) 0 7 rfl rfl rfl (Nat.le_of_ble_eq_true rfl) rfl dX7_judge_2 (fun r_2 h => ?_)
  refine st_istore_n G 6 rfl [(2, .int r_2), (0, .ref q_t), (1, .int x1)] dX7_judge_5 rfl (by decide) rfl ?_
  refine st_iload_n G 7 rfl 0 rfl dX7_judge_6 rfl ?_
  refine st_if_eq G 16 10 rfl dX7_judge_7 rfl (fun c => ?_) (fun c => ?_)
  · have h := h.1 c
    refine st_iconst G 17 rfl (0 : Int32) (by decide) dX7_judge_16 ?_
    refine st_istore_n G 18 rfl [(3, .int (0 : Int32)), (2, .int r_2), (0, .ref q_t), (1, .int x1)] dX7_judge_17 rfl (by decide) rfl ?_
    refine st_L (L' := [(0, .ref q_t), (1, .int x1), (3, .int (0 : Int32))]) [2, 3, 0] rfl ?_
    obtain ⟨n, h⟩ := h
    exact b_X7_judge_18 G R n _ _ _ h
  have h := h.2 c
  refine st_aload_n G 11 rfl 1 rfl dX7_judge_10 rfl ?_
  refine st_iload_n G 12 rfl 0 rfl dX7_judge_11 rfl ?_
  refine st_cVi G lk_X7_65 (c_X7_error g.l g.D g.X q_t q_t_s q_t_k q_t_laid q_t_errors q_t_step q_t_named q_t_pile q_t_sums1 q_t_parts1 q_t_trace q_t_bits q_t_sizes q_t_number q_t_aside c_images c_at c_open c_steps c_use c_traced c_speaks c_isParted c_errors r_2 _ h) ⟨rfl, rfl, ⟨Nat.le_of_ble_eq_true rfl, Nat.le_of_ble_eq_true rfl⟩, Nat.zero_le _, Nat.zero_le _⟩ 15 rfl [0, 2] rfl (by decide) 0 7 rfl rfl rfl (Nat.le_of_ble_eq_true rfl) rfl dX7_judge_12 (fun r_12 w hq => ?_)
  obtain ⟨c_errors_12, h, rfl⟩ := hq
  refine st_wp (ws' := [(q_t, .inr (7, [.ref q_t_s, .ref q_t_k, .ref q_t_laid, .int c_images, .ref q_t_errors, .int c_at, .int c_open, .int c_steps, .int c_use, .ref q_t_step, .ref q_t_named, .ref q_t_pile, .ref q_t_sums1, .ref q_t_parts1, .int c_traced, .ref q_t_trace, .int c_speaks, .int c_isParted, .ref q_t_bits, .ref q_t_sizes, .ref q_t_number, .ref q_t_aside])), (q_t_s, .inl (g.X.cI, 476, .inl c_s)), (q_t_errors, .inl (g.X.cI, 7, .inl c_errors_12)), (q_t_bits, .inl (g.X.cI, 4, .inl c_bits)), (q_t_sizes, .inl (g.X.cI, 4, .inl c_sizes)), (q_t_number, .inl (g.X.cI, 96, .inl c_number))]) 6 [1, 3, 4, 5] (by decide) rfl rfl (by rfl) [(q_t_s, .inl (g.X.cI, 476, .inl c_s)), (q_t_bits, .inl (g.X.cI, 4, .inl c_bits)), (q_t_sizes, .inl (g.X.cI, 4, .inl c_sizes)), (q_t_number, .inl (g.X.cI, 96, .inl c_number))] (by rfl) rfl ?_
  exact R _ _ _ _ dX7_judge_15 (Nat.le_of_ble_eq_true rfl) ⟨_, h, rfl⟩
set_option maxRecDepth 100000 in
set_option maxHeartbeats 4000000 in
theorem c_X7_judge (l : Launch) (D : va_G) (X : XT) (q_t q_t_s q_t_k q_t_laid q_t_errors q_t_step q_t_named q_t_pile q_t_sums1 q_t_parts1 q_t_trace q_t_bits q_t_sizes q_t_number q_t_aside : Nat) (c_images : Int32) (c_at : Int32) (c_open : Int32) (c_steps : Int32) (c_use : Int32) (c_traced : Int32) (c_speaks : Int32) (c_isParted : Int32) (c_s : Nat → Int32) (c_errors : Nat → Int32) (c_bits : Nat → Int32) (c_sizes : Nat → Int32) (c_number : Nat → Int32) (x1 : Int32) (Q : Int32 → (Nat → Int32) → Prop) (h : wp_X7_judge x1 c_s c_errors c_bits c_sizes c_number Q) : CTi l D X yX7_judge cX7_judge 4 .int rm_X7_judge [.ref q_t, .int x1] [(q_t, .inr (7, [.ref q_t_s, .ref q_t_k, .ref q_t_laid, .int c_images, .ref q_t_errors, .int c_at, .int c_open, .int c_steps, .int c_use, .ref q_t_step, .ref q_t_named, .ref q_t_pile, .ref q_t_sums1, .ref q_t_parts1, .int c_traced, .ref q_t_trace, .int c_speaks, .int c_isParted, .ref q_t_bits, .ref q_t_sizes, .ref q_t_number, .ref q_t_aside])), (q_t_s, .inl (X.cI, 476, .inl c_s)), (q_t_errors, .inl (X.cI, 7, .inl c_errors)), (q_t_bits, .inl (X.cI, 4, .inl c_bits)), (q_t_sizes, .inl (X.cI, 4, .inl c_sizes)), (q_t_number, .inl (X.cI, 96, .inl c_number))] (fun (r : Int32) w => ∃ (c_errors' : Nat → Int32), Q r c_errors' ∧ w = [(q_t, .inr (7, [.ref q_t_s, .ref q_t_k, .ref q_t_laid, .int c_images, .ref q_t_errors, .int c_at, .int c_open, .int c_steps, .int c_use, .ref q_t_step, .ref q_t_named, .ref q_t_pile, .ref q_t_sums1, .ref q_t_parts1, .int c_traced, .ref q_t_trace, .int c_speaks, .int c_isParted, .ref q_t_bits, .ref q_t_sizes, .ref q_t_number, .ref q_t_aside])), (q_t_s, .inl (X.cI, 476, .inl c_s)), (q_t_errors, .inl (X.cI, 7, .inl c_errors')), (q_t_bits, .inl (X.cI, 4, .inl c_bits)), (q_t_sizes, .inl (X.cI, 4, .inl c_sizes)), (q_t_number, .inl (X.cI, 96, .inl c_number))]) :=
  ct_i (by decide) (Nat.le_of_ble_eq_true rfl) (fun g hl hD hX G R => by subst hl; subst hD; subst hX; exact b_X7_judge_e G R h)
set_option maxRecDepth 100000 in
set_option maxHeartbeats 4000000 in
theorem b_X7_image_e {g : GT} (G : GOOD g RX7 cX7_image 1 rm_X7_image) {q_t q_t_s q_t_k q_t_laid q_t_errors q_t_step q_t_named q_t_pile q_t_sums1 q_t_parts1 q_t_trace q_t_bits q_t_sizes q_t_number q_t_aside : Nat} {c_images : Int32} {c_at : Int32} {c_open : Int32} {c_steps : Int32} {c_use : Int32} {c_traced : Int32} {c_speaks : Int32} {c_isParted : Int32} {c_s : Nat → Int32} {c_k : Nat → Int32} {Q : Int32 → (Int32) → (Nat → Int32) → Prop} (R : RETi g cX7_image 3 (fun (r : Int32) w => ∃ (c_images' : Int32) (c_k' : Nat → Int32), Q r c_images' c_k' ∧ w = [(q_t, .inr (7, [.ref q_t_s, .ref q_t_k, .ref q_t_laid, .int c_images', .ref q_t_errors, .int c_at, .int c_open, .int c_steps, .int c_use, .ref q_t_step, .ref q_t_named, .ref q_t_pile, .ref q_t_sums1, .ref q_t_parts1, .int c_traced, .ref q_t_trace, .int c_speaks, .int c_isParted, .ref q_t_bits, .ref q_t_sizes, .ref q_t_number, .ref q_t_aside])), (q_t_s, .inl (g.X.cI, 476, .inl c_s)), (q_t_k, .inl (g.X.cI, 476, .inl c_k'))])) (h : wp_X7_image c_images c_s c_k Q) : ST g 0 0 0 [(0, .ref q_t)] [] [(q_t, .inr (7, [.ref q_t_s, .ref q_t_k, .ref q_t_laid, .int c_images, .ref q_t_errors, .int c_at, .int c_open, .int c_steps, .int c_use, .ref q_t_step, .ref q_t_named, .ref q_t_pile, .ref q_t_sums1, .ref q_t_parts1, .int c_traced, .ref q_t_trace, .int c_speaks, .int c_isParted, .ref q_t_bits, .ref q_t_sizes, .ref q_t_number, .ref q_t_aside])), (q_t_s, .inl (g.X.cI, 476, .inl c_s)), (q_t_k, .inl (g.X.cI, 476, .inl c_k))] := by
  unfold wp_X7_image at h
  refine st_aload_n G 1 rfl 0 rfl dX7_image_0 rfl ?_
  refine st_get G inX7 rfl 0 (by decide) wd_82 4 rfl 0 rfl rfl dX7_image_1 ?_
  refine st_aload_n G 5 rfl 0 rfl dX7_image_4 rfl ?_
  refine st_get G inX7 rfl 1 (by decide) wd_83 8 rfl 0 rfl rfl dX7_image_5 ?_
  refine st_cSv G lk_X7_272 (c_X7_copyAll g.l g.D g.X q_t_s q_t_k c_s c_k _ h) ⟨rfl, rfl, ⟨Nat.le_of_ble_eq_true rfl, Nat.le_of_ble_eq_true rfl⟩, Nat.zero_le _, Nat.zero_le _⟩ 11 rfl [1, 2] rfl (by decide) rfl (Nat.le_of_ble_eq_true rfl) rfl dX7_image_8 (fun w hq => ?_)
  obtain ⟨c_k_8, h, rfl⟩ := hq
  refine st_wp (ws' := [(q_t, .inr (7, [.ref q_t_s, .ref q_t_k, .ref q_t_laid, .int c_images, .ref q_t_errors, .int c_at, .int c_open, .int c_steps, .int c_use, .ref q_t_step, .ref q_t_named, .ref q_t_pile, .ref q_t_sums1, .ref q_t_parts1, .int c_traced, .ref q_t_trace, .int c_speaks, .int c_isParted, .ref q_t_bits, .ref q_t_sizes, .ref q_t_number, .ref q_t_aside])), (q_t_s, .inl (g.X.cI, 476, .inl c_s)), (q_t_k, .inl (g.X.cI, 476, .inl c_k_8))]) 3 [0] (by decide) rfl rfl (by rfl) [(q_t, .inr (7, [.ref q_t_s, .ref q_t_k, .ref q_t_laid, .int c_images, .ref q_t_errors, .int c_at, .int c_open, .int c_steps, .int c_use, .ref q_t_step, .ref q_t_named, .ref q_t_pile, .ref q_t_sums1, .ref q_t_parts1, .int c_traced, .ref q_t_trace, .int c_speaks, .int c_isParted, .ref q_t_bits, .ref q_t_sizes, .ref q_t_number, .ref q_t_aside]))] (by rfl) rfl ?_
  refine st_aload_n G 12 rfl 0 rfl dX7_image_11 rfl ?_
  refine st_dup G 13 rfl dX7_image_12 rfl ?_
  refine st_get G inX7 rfl 3 (by decide) wd_961 16 rfl 0 rfl rfl dX7_image_13 ?_
  refine st_iconst G 17 rfl (1 : Int32) (by decide) dX7_image_16 ?_
  refine st_iadd G 18 rfl dX7_image_17 ?_
  refine st_topi (fun c_images_18 ec_images_18 => ?_)
  have h := h c_images_18 ec_images_18
  refine st_put G inX7 tyX7 tyX7_ok nmX7 rfl 3 (by decide) wd_961 rfl [(q_t, .inr (7, [.ref q_t_s, .ref q_t_k, .ref q_t_laid, .int c_images_18, .ref q_t_errors, .int c_at, .int c_open, .int c_steps, .int c_use, .ref q_t_step, .ref q_t_named, .ref q_t_pile, .ref q_t_sums1, .ref q_t_parts1, .int c_traced, .ref q_t_trace, .int c_speaks, .int c_isParted, .ref q_t_bits, .ref q_t_sizes, .ref q_t_number, .ref q_t_aside])), (q_t_s, .inl (g.X.cI, 476, .inl c_s)), (q_t_k, .inl (g.X.cI, 476, .inl c_k_8))] 21 rfl 0 rfl rfl rfl (Nat.le_of_ble_eq_true rfl) rfl dX7_image_18 ?_
  refine st_aload_n G 22 rfl 0 rfl dX7_image_21 rfl ?_
  refine st_get G inX7 rfl 3 (by decide) wd_961 25 rfl 0 rfl rfl dX7_image_22 ?_
  exact R _ _ _ _ dX7_image_25 (Nat.le_of_ble_eq_true rfl) ⟨_, _, h, rfl⟩
set_option maxRecDepth 100000 in
set_option maxHeartbeats 4000000 in
theorem c_X7_image (l : Launch) (D : va_G) (X : XT) (q_t q_t_s q_t_k q_t_laid q_t_errors q_t_step q_t_named q_t_pile q_t_sums1 q_t_parts1 q_t_trace q_t_bits q_t_sizes q_t_number q_t_aside : Nat) (c_images : Int32) (c_at : Int32) (c_open : Int32) (c_steps : Int32) (c_use : Int32) (c_traced : Int32) (c_speaks : Int32) (c_isParted : Int32) (c_s : Nat → Int32) (c_k : Nat → Int32) (Q : Int32 → (Int32) → (Nat → Int32) → Prop) (h : wp_X7_image c_images c_s c_k Q) : CTi l D X yX7_image cX7_image 1 .int rm_X7_image [.ref q_t] [(q_t, .inr (7, [.ref q_t_s, .ref q_t_k, .ref q_t_laid, .int c_images, .ref q_t_errors, .int c_at, .int c_open, .int c_steps, .int c_use, .ref q_t_step, .ref q_t_named, .ref q_t_pile, .ref q_t_sums1, .ref q_t_parts1, .int c_traced, .ref q_t_trace, .int c_speaks, .int c_isParted, .ref q_t_bits, .ref q_t_sizes, .ref q_t_number, .ref q_t_aside])), (q_t_s, .inl (X.cI, 476, .inl c_s)), (q_t_k, .inl (X.cI, 476, .inl c_k))] (fun (r : Int32) w => ∃ (c_images' : Int32) (c_k' : Nat → Int32), Q r c_images' c_k' ∧ w = [(q_t, .inr (7, [.ref q_t_s, .ref q_t_k, .ref q_t_laid, .int c_images', .ref q_t_errors, .int c_at, .int c_open, .int c_steps, .int c_use, .ref q_t_step, .ref q_t_named, .ref q_t_pile, .ref q_t_sums1, .ref q_t_parts1, .int c_traced, .ref q_t_trace, .int c_speaks, .int c_isParted, .ref q_t_bits, .ref q_t_sizes, .ref q_t_number, .ref q_t_aside])), (q_t_s, .inl (X.cI, 476, .inl c_s)), (q_t_k, .inl (X.cI, 476, .inl c_k'))]) :=
  ct_i (by decide) (Nat.le_of_ble_eq_true rfl) (fun g hl hD hX G R => by subst hl; subst hD; subst hX; exact b_X7_image_e G R h)
set_option maxRecDepth 100000 in
set_option maxHeartbeats 4000000 in
theorem b_X7_restore_e {g : GT} (G : GOOD g RX7 cX7_restore 1 rm_X7_restore) {q_t q_t_s q_t_k q_t_laid q_t_errors q_t_step q_t_named q_t_pile q_t_sums1 q_t_parts1 q_t_trace q_t_bits q_t_sizes q_t_number q_t_aside : Nat} {c_images : Int32} {c_at : Int32} {c_open : Int32} {c_steps : Int32} {c_use : Int32} {c_traced : Int32} {c_speaks : Int32} {c_isParted : Int32} {c_s : Nat → Int32} {c_k : Nat → Int32} {c_errors : Nat → Int32} {Q : Int32 → (Nat → Int32) → (Nat → Int32) → Prop} (R : RETi g cX7_restore 4 (fun (r : Int32) w => ∃ (c_s' : Nat → Int32) (c_errors' : Nat → Int32), Q r c_s' c_errors' ∧ w = [(q_t, .inr (7, [.ref q_t_s, .ref q_t_k, .ref q_t_laid, .int c_images, .ref q_t_errors, .int c_at, .int c_open, .int c_steps, .int c_use, .ref q_t_step, .ref q_t_named, .ref q_t_pile, .ref q_t_sums1, .ref q_t_parts1, .int c_traced, .ref q_t_trace, .int c_speaks, .int c_isParted, .ref q_t_bits, .ref q_t_sizes, .ref q_t_number, .ref q_t_aside])), (q_t_s, .inl (g.X.cI, 476, .inl c_s')), (q_t_k, .inl (g.X.cI, 476, .inl c_k)), (q_t_errors, .inl (g.X.cI, 7, .inl c_errors'))])) (h : wp_X7_restore c_images c_s c_k c_errors Q) : ST g 0 0 0 [(0, .ref q_t)] [] [(q_t, .inr (7, [.ref q_t_s, .ref q_t_k, .ref q_t_laid, .int c_images, .ref q_t_errors, .int c_at, .int c_open, .int c_steps, .int c_use, .ref q_t_step, .ref q_t_named, .ref q_t_pile, .ref q_t_sums1, .ref q_t_parts1, .int c_traced, .ref q_t_trace, .int c_speaks, .int c_isParted, .ref q_t_bits, .ref q_t_sizes, .ref q_t_number, .ref q_t_aside])), (q_t_s, .inl (g.X.cI, 476, .inl c_s)), (q_t_k, .inl (g.X.cI, 476, .inl c_k)), (q_t_errors, .inl (g.X.cI, 7, .inl c_errors))] := by
  unfold wp_X7_restore at h
  refine st_aload_n G 1 rfl 0 rfl dX7_restore_0 rfl ?_
  refine st_get G inX7 rfl 3 (by decide) wd_961 4 rfl 0 rfl rfl dX7_restore_1 ?_
  refine st_if_ne G 13 7 rfl dX7_restore_4 rfl (fun c => ?_) (fun c => ?_)
  · have h := h.1 c
    refine st_aload_n G 14 rfl 0 rfl dX7_restore_13 rfl ?_
    refine st_get G inX7 rfl 1 (by decide) wd_83 17 rfl 0 rfl rfl dX7_restore_14 ?_
    refine st_aload_n G 18 rfl 0 rfl dX7_restore_17 rfl ?_
    refine st_get G inX7 rfl 0 (by decide) wd_82 21 rfl 0 rfl rfl dX7_restore_18 ?_
    refine st_cSv G lk_X7_272 (c_X7_copyAll g.l g.D g.X q_t_k q_t_s c_k c_s _ h) ⟨rfl, rfl, ⟨Nat.le_of_ble_eq_true rfl, Nat.le_of_ble_eq_true rfl⟩, Nat.zero_le _, Nat.zero_le _⟩ 24 rfl [2, 1] rfl (by decide) rfl (Nat.le_of_ble_eq_true rfl) rfl dX7_restore_21 (fun w hq => ?_)
    obtain ⟨c_s_21, h, rfl⟩ := hq
    refine st_wp (ws' := [(q_t, .inr (7, [.ref q_t_s, .ref q_t_k, .ref q_t_laid, .int c_images, .ref q_t_errors, .int c_at, .int c_open, .int c_steps, .int c_use, .ref q_t_step, .ref q_t_named, .ref q_t_pile, .ref q_t_sums1, .ref q_t_parts1, .int c_traced, .ref q_t_trace, .int c_speaks, .int c_isParted, .ref q_t_bits, .ref q_t_sizes, .ref q_t_number, .ref q_t_aside])), (q_t_s, .inl (g.X.cI, 476, .inl c_s_21)), (q_t_k, .inl (g.X.cI, 476, .inl c_k)), (q_t_errors, .inl (g.X.cI, 7, .inl c_errors))]) 4 [0, 3] (by decide) rfl rfl (by rfl) [(q_t, .inr (7, [.ref q_t_s, .ref q_t_k, .ref q_t_laid, .int c_images, .ref q_t_errors, .int c_at, .int c_open, .int c_steps, .int c_use, .ref q_t_step, .ref q_t_named, .ref q_t_pile, .ref q_t_sums1, .ref q_t_parts1, .int c_traced, .ref q_t_trace, .int c_speaks, .int c_isParted, .ref q_t_bits, .ref q_t_sizes, .ref q_t_number, .ref q_t_aside])), (q_t_errors, .inl (g.X.cI, 7, .inl c_errors))] (by rfl) rfl ?_
    refine st_aload_n G 25 rfl 0 rfl dX7_restore_24 rfl ?_
    refine st_get G inX7 rfl 0 (by decide) wd_82 28 rfl 0 rfl rfl dX7_restore_25 ?_
    refine st_iconst G 29 rfl (0 : Int32) (by decide) dX7_restore_28 ?_
    obtain ⟨hin, h⟩ := h
    refine st_iald G 30 rfl 1 rfl hin dX7_restore_29 ?_
    exact R _ _ _ _ dX7_restore_30 (Nat.le_of_ble_eq_true rfl) ⟨_, _, h, rfl⟩
  have h := h.2 c
  refine st_aload_n G 8 rfl 0 rfl dX7_restore_7 rfl ?_
  refine st_iconst G 9 rfl (2 : Int32) (by decide) dX7_restore_8 ?_
  refine st_cVi G lk_X7_65 (c_X7_error g.l g.D g.X q_t q_t_s q_t_k q_t_laid q_t_errors q_t_step q_t_named q_t_pile q_t_sums1 q_t_parts1 q_t_trace q_t_bits q_t_sizes q_t_number q_t_aside c_images c_at c_open c_steps c_use c_traced c_speaks c_isParted c_errors (2 : Int32) _ h) ⟨rfl, rfl, ⟨Nat.le_of_ble_eq_true rfl, Nat.le_of_ble_eq_true rfl⟩, Nat.zero_le _, Nat.zero_le _⟩ 12 rfl [0, 3] rfl (by decide) 0 7 rfl rfl rfl (Nat.le_of_ble_eq_true rfl) rfl dX7_restore_9 (fun r_9 w hq => ?_)
  obtain ⟨c_errors_9, h, rfl⟩ := hq
  refine st_wp (ws' := [(q_t, .inr (7, [.ref q_t_s, .ref q_t_k, .ref q_t_laid, .int c_images, .ref q_t_errors, .int c_at, .int c_open, .int c_steps, .int c_use, .ref q_t_step, .ref q_t_named, .ref q_t_pile, .ref q_t_sums1, .ref q_t_parts1, .int c_traced, .ref q_t_trace, .int c_speaks, .int c_isParted, .ref q_t_bits, .ref q_t_sizes, .ref q_t_number, .ref q_t_aside])), (q_t_s, .inl (g.X.cI, 476, .inl c_s)), (q_t_k, .inl (g.X.cI, 476, .inl c_k)), (q_t_errors, .inl (g.X.cI, 7, .inl c_errors_9))]) 4 [1, 2] (by decide) rfl rfl (by rfl) [(q_t_s, .inl (g.X.cI, 476, .inl c_s)), (q_t_k, .inl (g.X.cI, 476, .inl c_k))] (by rfl) rfl ?_
  exact R _ _ _ _ dX7_restore_12 (Nat.le_of_ble_eq_true rfl) ⟨_, _, h, rfl⟩
set_option maxRecDepth 100000 in
set_option maxHeartbeats 4000000 in
theorem c_X7_restore (l : Launch) (D : va_G) (X : XT) (q_t q_t_s q_t_k q_t_laid q_t_errors q_t_step q_t_named q_t_pile q_t_sums1 q_t_parts1 q_t_trace q_t_bits q_t_sizes q_t_number q_t_aside : Nat) (c_images : Int32) (c_at : Int32) (c_open : Int32) (c_steps : Int32) (c_use : Int32) (c_traced : Int32) (c_speaks : Int32) (c_isParted : Int32) (c_s : Nat → Int32) (c_k : Nat → Int32) (c_errors : Nat → Int32) (Q : Int32 → (Nat → Int32) → (Nat → Int32) → Prop) (h : wp_X7_restore c_images c_s c_k c_errors Q) : CTi l D X yX7_restore cX7_restore 1 .int rm_X7_restore [.ref q_t] [(q_t, .inr (7, [.ref q_t_s, .ref q_t_k, .ref q_t_laid, .int c_images, .ref q_t_errors, .int c_at, .int c_open, .int c_steps, .int c_use, .ref q_t_step, .ref q_t_named, .ref q_t_pile, .ref q_t_sums1, .ref q_t_parts1, .int c_traced, .ref q_t_trace, .int c_speaks, .int c_isParted, .ref q_t_bits, .ref q_t_sizes, .ref q_t_number, .ref q_t_aside])), (q_t_s, .inl (X.cI, 476, .inl c_s)), (q_t_k, .inl (X.cI, 476, .inl c_k)), (q_t_errors, .inl (X.cI, 7, .inl c_errors))] (fun (r : Int32) w => ∃ (c_s' : Nat → Int32) (c_errors' : Nat → Int32), Q r c_s' c_errors' ∧ w = [(q_t, .inr (7, [.ref q_t_s, .ref q_t_k, .ref q_t_laid, .int c_images, .ref q_t_errors, .int c_at, .int c_open, .int c_steps, .int c_use, .ref q_t_step, .ref q_t_named, .ref q_t_pile, .ref q_t_sums1, .ref q_t_parts1, .int c_traced, .ref q_t_trace, .int c_speaks, .int c_isParted, .ref q_t_bits, .ref q_t_sizes, .ref q_t_number, .ref q_t_aside])), (q_t_s, .inl (X.cI, 476, .inl c_s')), (q_t_k, .inl (X.cI, 476, .inl c_k)), (q_t_errors, .inl (X.cI, 7, .inl c_errors'))]) :=
  ct_i (by decide) (Nat.le_of_ble_eq_true rfl) (fun g hl hD hX G R => by subst hl; subst hD; subst hX; exact b_X7_restore_e G R h)
set_option maxRecDepth 100000 in
set_option maxHeartbeats 4000000 in
theorem b_X7_tell_e {g : GT} (G : GOOD g RX7 cX7_tell 2 rm_X7_tell) {q_t q_t_s q_t_k q_t_laid q_t_errors q_t_step q_t_named q_t_pile q_t_sums1 q_t_parts1 q_t_trace q_t_bits q_t_sizes q_t_number q_t_aside : Nat} {c_images : Int32} {c_at : Int32} {c_open : Int32} {c_steps : Int32} {c_use : Int32} {c_traced : Int32} {c_speaks : Int32} {c_isParted : Int32} {c_s : Nat → Int32} {c_errors : Nat → Int32} {x1 : Int32} {Q : Int32 → (Nat → Int32) → (Nat → Int32) → Prop} (R : RETi g cX7_tell 3 (fun (r : Int32) w => ∃ (c_s' : Nat → Int32) (c_errors' : Nat → Int32), Q r c_s' c_errors' ∧ w = [(q_t, .inr (7, [.ref q_t_s, .ref q_t_k, .ref q_t_laid, .int c_images, .ref q_t_errors, .int c_at, .int c_open, .int c_steps, .int c_use, .ref q_t_step, .ref q_t_named, .ref q_t_pile, .ref q_t_sums1, .ref q_t_parts1, .int c_traced, .ref q_t_trace, .int c_speaks, .int c_isParted, .ref q_t_bits, .ref q_t_sizes, .ref q_t_number, .ref q_t_aside])), (q_t_s, .inl (g.X.cI, 476, .inl c_s')), (q_t_errors, .inl (g.X.cI, 7, .inl c_errors'))])) (h : wp_X7_tell x1 c_s c_errors Q) : ST g 0 0 0 [(0, .ref q_t), (1, .int x1)] [] [(q_t, .inr (7, [.ref q_t_s, .ref q_t_k, .ref q_t_laid, .int c_images, .ref q_t_errors, .int c_at, .int c_open, .int c_steps, .int c_use, .ref q_t_step, .ref q_t_named, .ref q_t_pile, .ref q_t_sums1, .ref q_t_parts1, .int c_traced, .ref q_t_trace, .int c_speaks, .int c_isParted, .ref q_t_bits, .ref q_t_sizes, .ref q_t_number, .ref q_t_aside])), (q_t_s, .inl (g.X.cI, 476, .inl c_s)), (q_t_errors, .inl (g.X.cI, 7, .inl c_errors))] := by
  unfold wp_X7_tell at h
  refine st_aload_n G 1 rfl 0 rfl dX7_tell_0 rfl ?_
  refine st_get G inX7 rfl 0 (by decide) wd_82 4 rfl 0 rfl rfl dX7_tell_1 ?_
  refine st_iconst G 5 rfl (3 : Int32) (by decide) dX7_tell_4 ?_
  obtain ⟨hin, h⟩ := h
  refine st_iald G 6 rfl 1 rfl hin dX7_tell_5 ?_
  refine st_bipush G 8 rfl (24 : Int32) (by decide) dX7_tell_6 ?_
  refine st_icmp_ne G 17 11 rfl dX7_tell_8 rfl (fun c => ?_) (fun c => ?_)
  · have h := h.1 c
    refine st_aload_n G 18 rfl 0 rfl dX7_tell_17 rfl ?_
    refine st_get G inX7 rfl 0 (by decide) wd_82 21 rfl 0 rfl rfl dX7_tell_18 ?_
    refine st_sipush G 24 rfl (452 : Int32) (by decide) dX7_tell_21 ?_
    refine st_aload_n G 25 rfl 0 rfl dX7_tell_24 rfl ?_
    refine st_get G inX7 rfl 0 (by decide) wd_82 28 rfl 0 rfl rfl dX7_tell_25 ?_
    refine st_iconst G 29 rfl (3 : Int32) (by decide) dX7_tell_28 ?_
    obtain ⟨hin, h⟩ := h
    refine st_iald G 30 rfl 1 rfl hin dX7_tell_29 ?_
    refine st_iadd G 31 rfl dX7_tell_30 ?_
    refine st_iload_n G 32 rfl 1 rfl dX7_tell_31 rfl ?_
    obtain ⟨hin, h⟩ := h
    obtain ⟨c_s_32, ec_s_32⟩ : ∃ y : Nat → Int32, y = upd c_s ((452 : Int32) + (c_s (3 : Int32).toNatClampNeg)).toNatClampNeg x1 := ⟨_, rfl⟩
    have h := h c_s_32 ec_s_32
    refine st_iast G [(q_t, .inr (7, [.ref q_t_s, .ref q_t_k, .ref q_t_laid, .int c_images, .ref q_t_errors, .int c_at, .int c_open, .int c_steps, .int c_use, .ref q_t_step, .ref q_t_named, .ref q_t_pile, .ref q_t_sums1, .ref q_t_parts1, .int c_traced, .ref q_t_trace, .int c_speaks, .int c_isParted, .ref q_t_bits, .ref q_t_sizes, .ref q_t_number, .ref q_t_aside])), (q_t_s, .inl (g.X.cI, 476, .inl c_s_32)), (q_t_errors, .inl (g.X.cI, 7, .inl c_errors))] 33 rfl 1 rfl hin (by subst ec_s_32; rfl) dX7_tell_32 ?_
    refine st_aload_n G 34 rfl 0 rfl dX7_tell_33 rfl ?_
    refine st_get G inX7 rfl 0 (by decide) wd_82 37 rfl 0 rfl rfl dX7_tell_34 ?_
    refine st_iconst G 38 rfl (3 : Int32) (by decide) dX7_tell_37 ?_
    refine st_dup2 G 39 rfl dX7_tell_38 rfl rfl ?_
    obtain ⟨hin, h⟩ := h
    refine st_iald G 40 rfl 1 rfl hin dX7_tell_39 ?_
    refine st_iconst G 41 rfl (1 : Int32) (by decide) dX7_tell_40 ?_
    refine st_iadd G 42 rfl dX7_tell_41 ?_
    obtain ⟨hin, h⟩ := h
    obtain ⟨c_s_42, ec_s_42⟩ : ∃ y : Nat → Int32, y = upd c_s_32 (3 : Int32).toNatClampNeg ((c_s_32 (3 : Int32).toNatClampNeg) + (1 : Int32)) := ⟨_, rfl⟩
    have h := h c_s_42 ec_s_42
    refine st_iast G [(q_t, .inr (7, [.ref q_t_s, .ref q_t_k, .ref q_t_laid, .int c_images, .ref q_t_errors, .int c_at, .int c_open, .int c_steps, .int c_use, .ref q_t_step, .ref q_t_named, .ref q_t_pile, .ref q_t_sums1, .ref q_t_parts1, .int c_traced, .ref q_t_trace, .int c_speaks, .int c_isParted, .ref q_t_bits, .ref q_t_sizes, .ref q_t_number, .ref q_t_aside])), (q_t_s, .inl (g.X.cI, 476, .inl c_s_42)), (q_t_errors, .inl (g.X.cI, 7, .inl c_errors))] 43 rfl 1 rfl hin (by subst ec_s_42; rfl) dX7_tell_42 ?_
    refine st_aload_n G 44 rfl 0 rfl dX7_tell_43 rfl ?_
    refine st_get G inX7 rfl 0 (by decide) wd_82 47 rfl 0 rfl rfl dX7_tell_44 ?_
    refine st_iconst G 48 rfl (3 : Int32) (by decide) dX7_tell_47 ?_
    obtain ⟨hin, h⟩ := h
    refine st_iald G 49 rfl 1 rfl hin dX7_tell_48 ?_
    exact R _ _ _ _ dX7_tell_49 (Nat.le_of_ble_eq_true rfl) ⟨_, _, h, rfl⟩
  have h := h.2 c
  refine st_aload_n G 12 rfl 0 rfl dX7_tell_11 rfl ?_
  refine st_iconst G 13 rfl (4 : Int32) (by decide) dX7_tell_12 ?_
  refine st_cVi G lk_X7_65 (c_X7_error g.l g.D g.X q_t q_t_s q_t_k q_t_laid q_t_errors q_t_step q_t_named q_t_pile q_t_sums1 q_t_parts1 q_t_trace q_t_bits q_t_sizes q_t_number q_t_aside c_images c_at c_open c_steps c_use c_traced c_speaks c_isParted c_errors (4 : Int32) _ h) ⟨rfl, rfl, ⟨Nat.le_of_ble_eq_true rfl, Nat.le_of_ble_eq_true rfl⟩, Nat.zero_le _, Nat.zero_le _⟩ 16 rfl [0, 2] rfl (by decide) 0 7 rfl rfl rfl (Nat.le_of_ble_eq_true rfl) rfl dX7_tell_13 (fun r_13 w hq => ?_)
  obtain ⟨c_errors_13, h, rfl⟩ := hq
  refine st_wp (ws' := [(q_t, .inr (7, [.ref q_t_s, .ref q_t_k, .ref q_t_laid, .int c_images, .ref q_t_errors, .int c_at, .int c_open, .int c_steps, .int c_use, .ref q_t_step, .ref q_t_named, .ref q_t_pile, .ref q_t_sums1, .ref q_t_parts1, .int c_traced, .ref q_t_trace, .int c_speaks, .int c_isParted, .ref q_t_bits, .ref q_t_sizes, .ref q_t_number, .ref q_t_aside])), (q_t_s, .inl (g.X.cI, 476, .inl c_s)), (q_t_errors, .inl (g.X.cI, 7, .inl c_errors_13))]) 3 [1] (by decide) rfl rfl (by rfl) [(q_t_s, .inl (g.X.cI, 476, .inl c_s))] (by rfl) rfl ?_
  exact R _ _ _ _ dX7_tell_16 (Nat.le_of_ble_eq_true rfl) ⟨_, _, h, rfl⟩
set_option maxRecDepth 100000 in
set_option maxHeartbeats 4000000 in
theorem c_X7_tell (l : Launch) (D : va_G) (X : XT) (q_t q_t_s q_t_k q_t_laid q_t_errors q_t_step q_t_named q_t_pile q_t_sums1 q_t_parts1 q_t_trace q_t_bits q_t_sizes q_t_number q_t_aside : Nat) (c_images : Int32) (c_at : Int32) (c_open : Int32) (c_steps : Int32) (c_use : Int32) (c_traced : Int32) (c_speaks : Int32) (c_isParted : Int32) (c_s : Nat → Int32) (c_errors : Nat → Int32) (x1 : Int32) (Q : Int32 → (Nat → Int32) → (Nat → Int32) → Prop) (h : wp_X7_tell x1 c_s c_errors Q) : CTi l D X yX7_tell cX7_tell 2 .int rm_X7_tell [.ref q_t, .int x1] [(q_t, .inr (7, [.ref q_t_s, .ref q_t_k, .ref q_t_laid, .int c_images, .ref q_t_errors, .int c_at, .int c_open, .int c_steps, .int c_use, .ref q_t_step, .ref q_t_named, .ref q_t_pile, .ref q_t_sums1, .ref q_t_parts1, .int c_traced, .ref q_t_trace, .int c_speaks, .int c_isParted, .ref q_t_bits, .ref q_t_sizes, .ref q_t_number, .ref q_t_aside])), (q_t_s, .inl (X.cI, 476, .inl c_s)), (q_t_errors, .inl (X.cI, 7, .inl c_errors))] (fun (r : Int32) w => ∃ (c_s' : Nat → Int32) (c_errors' : Nat → Int32), Q r c_s' c_errors' ∧ w = [(q_t, .inr (7, [.ref q_t_s, .ref q_t_k, .ref q_t_laid, .int c_images, .ref q_t_errors, .int c_at, .int c_open, .int c_steps, .int c_use, .ref q_t_step, .ref q_t_named, .ref q_t_pile, .ref q_t_sums1, .ref q_t_parts1, .int c_traced, .ref q_t_trace, .int c_speaks, .int c_isParted, .ref q_t_bits, .ref q_t_sizes, .ref q_t_number, .ref q_t_aside])), (q_t_s, .inl (X.cI, 476, .inl c_s')), (q_t_errors, .inl (X.cI, 7, .inl c_errors'))]) :=
  ct_i (by decide) (Nat.le_of_ble_eq_true rfl) (fun g hl hD hX G R => by subst hl; subst hD; subst hX; exact b_X7_tell_e G R h)
set_option maxRecDepth 100000 in
set_option maxHeartbeats 4000000 in
theorem b_X7_check_16 {g : GT} (G : GOOD g RX7 cX7_check 3 rm_X7_check) {q_t q_t_s q_t_k q_t_laid q_t_errors q_t_step q_t_named q_t_pile q_t_sums1 q_t_parts1 q_t_trace q_t_bits q_t_sizes q_t_number q_t_aside : Nat} {c_images : Int32} {c_at : Int32} {c_open : Int32} {c_steps : Int32} {c_use : Int32} {c_traced : Int32} {c_speaks : Int32} {c_isParted : Int32} {Q : Int32 → (Nat → Int32) → (Nat → Int32) → (Nat → Int32) → Prop} (R : RETi g cX7_check 4 (fun (r : Int32) w => ∃ (c_s' : Nat → Int32) (c_named' : Nat → Int32) (c_pile' : Nat → Int32), Q r c_s' c_named' c_pile' ∧ w = [(q_t, .inr (7, [.ref q_t_s, .ref q_t_k, .ref q_t_laid, .int c_images, .ref q_t_errors, .int c_at, .int c_open, .int c_steps, .int c_use, .ref q_t_step, .ref q_t_named, .ref q_t_pile, .ref q_t_sums1, .ref q_t_parts1, .int c_traced, .ref q_t_trace, .int c_speaks, .int c_isParted, .ref q_t_bits, .ref q_t_sizes, .ref q_t_number, .ref q_t_aside])), (q_t_s, .inl (g.X.cI, 476, .inl c_s')), (q_t_named, .inl (g.X.cI, 128, .inl c_named')), (q_t_pile, .inl (g.X.cI, 64, .inl c_pile'))])) : ∀ (n : Nat) (x1 : Int32) (x2 : Int32) (c_s : Nat → Int32) (c_named : Nat → Int32) (c_pile : Nat → Int32), wp_X7_check_b16 Q n x1 x2 c_s c_named c_pile → ST g 0 0 16 [(0, .ref q_t), (1, .int x1), (2, .int x2)] [] [(q_t, .inr (7, [.ref q_t_s, .ref q_t_k, .ref q_t_laid, .int c_images, .ref q_t_errors, .int c_at, .int c_open, .int c_steps, .int c_use, .ref q_t_step, .ref q_t_named, .ref q_t_pile, .ref q_t_sums1, .ref q_t_parts1, .int c_traced, .ref q_t_trace, .int c_speaks, .int c_isParted, .ref q_t_bits, .ref q_t_sizes, .ref q_t_number, .ref q_t_aside])), (q_t_s, .inl (g.X.cI, 476, .inl c_s)), (q_t_named, .inl (g.X.cI, 128, .inl c_named)), (q_t_pile, .inl (g.X.cI, 64, .inl c_pile))] := by
  intro n
  induction n with
  | zero => intro x1 x2 c_s c_named c_pile h; exact False.elim h
  | succ n hK16 =>
    intro x1 x2 c_s c_named c_pile h
    unfold wp_X7_check_b16 at h
    refine st_iload_n G 17 rfl 2 rfl dX7_check_16 rfl ?_
    refine st_iload_n G 18 rfl 1 rfl dX7_check_17 rfl ?_
    refine st_icmp_ge G 57 21 rfl dX7_check_18 rfl (fun c => ?_) (fun c => ?_)
    · have h := h.1 c
      refine st_iconst G 58 rfl (0 : Int32) (by decide) dX7_check_57 ?_
      exact R _ _ _ _ dX7_check_58 (Nat.le_of_ble_eq_true rfl) ⟨_, _, _, h, rfl⟩
    have h := h.2 c
    refine st_aload_n G 22 rfl 0 rfl dX7_check_21 rfl ?_
    refine st_iload_n G 23 rfl 2 rfl dX7_check_22 rfl ?_
    refine st_cVio G lk_X7_156 (c_X7_isPerson g.l g.D g.X q_t q_t_s q_t_k q_t_laid q_t_errors q_t_step q_t_named q_t_pile q_t_sums1 q_t_parts1 q_t_trace q_t_bits q_t_sizes q_t_number q_t_aside c_images c_at c_open c_steps c_use c_traced c_speaks c_isParted c_s x2 _ h) ⟨rfl, rfl, ⟨Nat.le_of_ble_eq_true rfl, Nat.le_of_ble_eq_true rfl⟩, Nat.zero_le _, Nat.zero_le _⟩ 26 rfl [0, 1] rfl (by decide) 0 7 rfl rfl rfl (Nat.le_of_ble_eq_true rfl) rfl dX7_check_23 (fun r_23 h => ?_)
    refine st_if_eq G 47 29 rfl dX7_check_26 rfl (fun c => ?_) (fun c => ?_)
    · have h := h.1 c
      refine st_iconst G 48 rfl (1 : Int32) (by decide) dX7_check_47 ?_
      refine st_iload_n G 49 rfl 2 rfl dX7_check_48 rfl ?_
      refine st_iadd G 50 rfl dX7_check_49 ?_
      exact R _ _ _ _ dX7_check_50 (Nat.le_of_ble_eq_true rfl) ⟨_, _, _, h, rfl⟩
    have h := h.2 c
    refine st_aload_n G 30 rfl 0 rfl dX7_check_29 rfl ?_
    refine st_get G inX7 rfl 0 (by decide) wd_82 33 rfl 0 rfl rfl dX7_check_30 ?_
    refine st_sipush G 36 rfl (452 : Int32) (by decide) dX7_check_33 ?_
    refine st_iload_n G 37 rfl 2 rfl dX7_check_36 rfl ?_
    refine st_iadd G 38 rfl dX7_check_37 ?_
    obtain ⟨hin, h⟩ := h
    refine st_iald G 39 rfl 1 rfl hin dX7_check_38 ?_
    refine st_aload_n G 40 rfl 0 rfl dX7_check_39 rfl ?_
    refine st_iload_n G 41 rfl 2 rfl dX7_check_40 rfl ?_
    refine st_cVi G lk_X7_166 (c_X7_worthOf g.l g.D g.X q_t q_t_s q_t_k q_t_laid q_t_errors q_t_step q_t_named q_t_pile q_t_sums1 q_t_parts1 q_t_trace q_t_bits q_t_sizes q_t_number q_t_aside c_images c_at c_open c_steps c_use c_traced c_speaks c_isParted c_s c_named c_pile x2 _ h) ⟨rfl, rfl, ⟨Nat.le_of_ble_eq_true rfl, Nat.le_of_ble_eq_true rfl⟩, Nat.zero_le _, Nat.zero_le _⟩ 44 rfl [0, 1, 2, 3] rfl (by decide) 0 7 rfl rfl rfl (Nat.le_of_ble_eq_true rfl) rfl dX7_check_41 (fun r_41 w hq => ?_)
    obtain ⟨c_named_41, c_pile_41, h, rfl⟩ := hq
    refine st_wp (ws' := [(q_t, .inr (7, [.ref q_t_s, .ref q_t_k, .ref q_t_laid, .int c_images, .ref q_t_errors, .int c_at, .int c_open, .int c_steps, .int c_use, .ref q_t_step, .ref q_t_named, .ref q_t_pile, .ref q_t_sums1, .ref q_t_parts1, .int c_traced, .ref q_t_trace, .int c_speaks, .int c_isParted, .ref q_t_bits, .ref q_t_sizes, .ref q_t_number, .ref q_t_aside])), (q_t_s, .inl (g.X.cI, 476, .inl c_s)), (q_t_named, .inl (g.X.cI, 128, .inl c_named_41)), (q_t_pile, .inl (g.X.cI, 64, .inl c_pile_41))]) 4 [] (by decide) rfl rfl (by rfl) [] (by rfl) rfl ?_
    refine st_icmp_eq G 51 47 rfl dX7_check_44 rfl (fun c => ?_) (fun c => ?_)
    · have h := h.1 c
      obtain ⟨x2_51, ex2_51⟩ : ∃ y : Int32, y = (x2 + (1 : Int32)) := ⟨_, rfl⟩
      have h := h x2_51 ex2_51
      refine st_iinc G 54 rfl [(2, .int x2_51), (0, .ref q_t), (1, .int x1)] x2_51 2 rfl (by rw [ex2_51]; rfl) dX7_check_51 (by decide) rfl ?_
      refine st_goto G 16 dX7_check_54 rfl ?_
      refine st_L (L' := [(0, .ref q_t), (1, .int x1), (2, .int x2_51)]) [1, 2, 0] rfl ?_
      exact hK16 _ _ _ _ _ h
    have h := h.2 c
    refine st_iconst G 48 rfl (1 : Int32) (by decide) dX7_check_47 ?_
    refine st_iload_n G 49 rfl 2 rfl dX7_check_48 rfl ?_
    refine st_iadd G 50 rfl dX7_check_49 ?_
    exact R _ _ _ _ dX7_check_50 (Nat.le_of_ble_eq_true rfl) ⟨_, _, _, h, rfl⟩
set_option maxRecDepth 100000 in
set_option maxHeartbeats 4000000 in
theorem b_X7_check_e {g : GT} (G : GOOD g RX7 cX7_check 3 rm_X7_check) {q_t q_t_s q_t_k q_t_laid q_t_errors q_t_step q_t_named q_t_pile q_t_sums1 q_t_parts1 q_t_trace q_t_bits q_t_sizes q_t_number q_t_aside : Nat} {c_images : Int32} {c_at : Int32} {c_open : Int32} {c_steps : Int32} {c_use : Int32} {c_traced : Int32} {c_speaks : Int32} {c_isParted : Int32} {c_s : Nat → Int32} {c_named : Nat → Int32} {c_pile : Nat → Int32} {Q : Int32 → (Nat → Int32) → (Nat → Int32) → (Nat → Int32) → Prop} (R : RETi g cX7_check 4 (fun (r : Int32) w => ∃ (c_s' : Nat → Int32) (c_named' : Nat → Int32) (c_pile' : Nat → Int32), Q r c_s' c_named' c_pile' ∧ w = [(q_t, .inr (7, [.ref q_t_s, .ref q_t_k, .ref q_t_laid, .int c_images, .ref q_t_errors, .int c_at, .int c_open, .int c_steps, .int c_use, .ref q_t_step, .ref q_t_named, .ref q_t_pile, .ref q_t_sums1, .ref q_t_parts1, .int c_traced, .ref q_t_trace, .int c_speaks, .int c_isParted, .ref q_t_bits, .ref q_t_sizes, .ref q_t_number, .ref q_t_aside])), (q_t_s, .inl (g.X.cI, 476, .inl c_s')), (q_t_named, .inl (g.X.cI, 128, .inl c_named')), (q_t_pile, .inl (g.X.cI, 64, .inl c_pile'))])) (h : wp_X7_check c_s c_named c_pile Q) : ST g 0 0 0 [(0, .ref q_t)] [] [(q_t, .inr (7, [.ref q_t_s, .ref q_t_k, .ref q_t_laid, .int c_images, .ref q_t_errors, .int c_at, .int c_open, .int c_steps, .int c_use, .ref q_t_step, .ref q_t_named, .ref q_t_pile, .ref q_t_sums1, .ref q_t_parts1, .int c_traced, .ref q_t_trace, .int c_speaks, .int c_isParted, .ref q_t_bits, .ref q_t_sizes, .ref q_t_number, .ref q_t_aside])), (q_t_s, .inl (g.X.cI, 476, .inl c_s)), (q_t_named, .inl (g.X.cI, 128, .inl c_named)), (q_t_pile, .inl (g.X.cI, 64, .inl c_pile))] := by
  unfold wp_X7_check at h
  refine st_aload_n G 1 rfl 0 rfl dX7_check_0 rfl ?_
  refine st_get G inX7 rfl 0 (by decide) wd_82 4 rfl 0 rfl rfl dX7_check_1 ?_
  refine st_iconst G 5 rfl (3 : Int32) (by decide) dX7_check_4 ?_
  obtain ⟨hin, h⟩ := h
  refine st_iald G 6 rfl 1 rfl hin dX7_check_5 ?_
  refine st_topi (fun x1_6 ex1_6 => ?_)
  have h := h x1_6 ex1_6
  refine st_istore_n G 7 rfl [(1, .int x1_6), (0, .ref q_t)] dX7_check_6 rfl (by decide) rfl ?_
  refine st_aload_n G 8 rfl 1 rfl dX7_check_7 rfl ?_
  refine st_get G inX7 rfl 0 (by decide) wd_82 11 rfl 0 rfl rfl dX7_check_8 ?_
  refine st_iconst G 12 rfl (3 : Int32) (by decide) dX7_check_11 ?_
  refine st_iconst G 13 rfl (0 : Int32) (by decide) dX7_check_12 ?_
  obtain ⟨hin, h⟩ := h
  obtain ⟨c_s_13, ec_s_13⟩ : ∃ y : Nat → Int32, y = upd c_s (3 : Int32).toNatClampNeg (0 : Int32) := ⟨_, rfl⟩
  have h := h c_s_13 ec_s_13
  refine st_iast G [(q_t, .inr (7, [.ref q_t_s, .ref q_t_k, .ref q_t_laid, .int c_images, .ref q_t_errors, .int c_at, .int c_open, .int c_steps, .int c_use, .ref q_t_step, .ref q_t_named, .ref q_t_pile, .ref q_t_sums1, .ref q_t_parts1, .int c_traced, .ref q_t_trace, .int c_speaks, .int c_isParted, .ref q_t_bits, .ref q_t_sizes, .ref q_t_number, .ref q_t_aside])), (q_t_s, .inl (g.X.cI, 476, .inl c_s_13)), (q_t_named, .inl (g.X.cI, 128, .inl c_named)), (q_t_pile, .inl (g.X.cI, 64, .inl c_pile))] 14 rfl 1 rfl hin (by subst ec_s_13; rfl) dX7_check_13 ?_
  refine st_iconst G 15 rfl (0 : Int32) (by decide) dX7_check_14 ?_
  refine st_istore_n G 16 rfl [(2, .int (0 : Int32)), (1, .int x1_6), (0, .ref q_t)] dX7_check_15 rfl (by decide) rfl ?_
  refine st_L (L' := [(0, .ref q_t), (1, .int x1_6), (2, .int (0 : Int32))]) [2, 1, 0] rfl ?_
  obtain ⟨n, h⟩ := h
  exact b_X7_check_16 G R n _ _ _ _ _ h
set_option maxRecDepth 100000 in
set_option maxHeartbeats 4000000 in
theorem c_X7_check (l : Launch) (D : va_G) (X : XT) (q_t q_t_s q_t_k q_t_laid q_t_errors q_t_step q_t_named q_t_pile q_t_sums1 q_t_parts1 q_t_trace q_t_bits q_t_sizes q_t_number q_t_aside : Nat) (c_images : Int32) (c_at : Int32) (c_open : Int32) (c_steps : Int32) (c_use : Int32) (c_traced : Int32) (c_speaks : Int32) (c_isParted : Int32) (c_s : Nat → Int32) (c_named : Nat → Int32) (c_pile : Nat → Int32) (Q : Int32 → (Nat → Int32) → (Nat → Int32) → (Nat → Int32) → Prop) (h : wp_X7_check c_s c_named c_pile Q) : CTi l D X yX7_check cX7_check 3 .int rm_X7_check [.ref q_t] [(q_t, .inr (7, [.ref q_t_s, .ref q_t_k, .ref q_t_laid, .int c_images, .ref q_t_errors, .int c_at, .int c_open, .int c_steps, .int c_use, .ref q_t_step, .ref q_t_named, .ref q_t_pile, .ref q_t_sums1, .ref q_t_parts1, .int c_traced, .ref q_t_trace, .int c_speaks, .int c_isParted, .ref q_t_bits, .ref q_t_sizes, .ref q_t_number, .ref q_t_aside])), (q_t_s, .inl (X.cI, 476, .inl c_s)), (q_t_named, .inl (X.cI, 128, .inl c_named)), (q_t_pile, .inl (X.cI, 64, .inl c_pile))] (fun (r : Int32) w => ∃ (c_s' : Nat → Int32) (c_named' : Nat → Int32) (c_pile' : Nat → Int32), Q r c_s' c_named' c_pile' ∧ w = [(q_t, .inr (7, [.ref q_t_s, .ref q_t_k, .ref q_t_laid, .int c_images, .ref q_t_errors, .int c_at, .int c_open, .int c_steps, .int c_use, .ref q_t_step, .ref q_t_named, .ref q_t_pile, .ref q_t_sums1, .ref q_t_parts1, .int c_traced, .ref q_t_trace, .int c_speaks, .int c_isParted, .ref q_t_bits, .ref q_t_sizes, .ref q_t_number, .ref q_t_aside])), (q_t_s, .inl (X.cI, 476, .inl c_s')), (q_t_named, .inl (X.cI, 128, .inl c_named')), (q_t_pile, .inl (X.cI, 64, .inl c_pile'))]) :=
  ct_i (by decide) (Nat.le_of_ble_eq_true rfl) (fun g hl hD hX G R => by subst hl; subst hD; subst hX; exact b_X7_check_e G R h)
set_option maxRecDepth 100000 in
set_option maxHeartbeats 4000000 in
theorem b_X7_count_e {g : GT} (G : GOOD g RX7 cX7_count 2 rm_X7_count) {q_t q_t_s q_t_k q_t_laid q_t_errors q_t_step q_t_named q_t_pile q_t_sums1 q_t_parts1 q_t_trace q_t_bits q_t_sizes q_t_number q_t_aside : Nat} {c_images : Int32} {c_at : Int32} {c_open : Int32} {c_steps : Int32} {c_use : Int32} {c_traced : Int32} {c_speaks : Int32} {c_isParted : Int32} {c_s : Nat → Int32} {c_errors : Nat → Int32} {x1 : Int32} {Q : Int32 → (Nat → Int32) → Prop} (R : RETi g cX7_count 3 (fun (r : Int32) w => ∃ (c_errors' : Nat → Int32), Q r c_errors' ∧ w = [(q_t, .inr (7, [.ref q_t_s, .ref q_t_k, .ref q_t_laid, .int c_images, .ref q_t_errors, .int c_at, .int c_open, .int c_steps, .int c_use, .ref q_t_step, .ref q_t_named, .ref q_t_pile, .ref q_t_sums1, .ref q_t_parts1, .int c_traced, .ref q_t_trace, .int c_speaks, .int c_isParted, .ref q_t_bits, .ref q_t_sizes, .ref q_t_number, .ref q_t_aside])), (q_t_s, .inl (g.X.cI, 476, .inl c_s)), (q_t_errors, .inl (g.X.cI, 7, .inl c_errors'))])) (h : wp_X7_count x1 c_traced c_s c_errors Q) : ST g 0 0 0 [(0, .ref q_t), (1, .int x1)] [] [(q_t, .inr (7, [.ref q_t_s, .ref q_t_k, .ref q_t_laid, .int c_images, .ref q_t_errors, .int c_at, .int c_open, .int c_steps, .int c_use, .ref q_t_step, .ref q_t_named, .ref q_t_pile, .ref q_t_sums1, .ref q_t_parts1, .int c_traced, .ref q_t_trace, .int c_speaks, .int c_isParted, .ref q_t_bits, .ref q_t_sizes, .ref q_t_number, .ref q_t_aside])), (q_t_s, .inl (g.X.cI, 476, .inl c_s)), (q_t_errors, .inl (g.X.cI, 7, .inl c_errors))] := by
  unfold wp_X7_count at h
  refine st_iload_n G 1 rfl 1 rfl dX7_count_0 rfl ?_
  by_cases c0 : x1 = (0 : Int32)
  · have h := h.1 c0
    refine st_tableIn G 40 (off := 39) dX7_count_1 (by rw [c0]; decide) (by rw [c0]; decide) (by rw [c0]; rfl) rfl ?_
    refine st_aload_n G 41 rfl 0 rfl dX7_count_40 rfl ?_
    refine st_get G inX7 rfl 0 (by decide) wd_82 44 rfl 0 rfl rfl dX7_count_41 ?_
    refine st_iconst G 45 rfl (4 : Int32) (by decide) dX7_count_44 ?_
    obtain ⟨hin, h⟩ := h
    refine st_iald G 46 rfl 1 rfl hin dX7_count_45 ?_
    exact R _ _ _ _ dX7_count_46 (Nat.le_of_ble_eq_true rfl) ⟨_, h, rfl⟩
  by_cases c1 : x1 = (1 : Int32)
  · have h := h.2.1 c1
    refine st_tableIn G 47 (off := 46) dX7_count_1 (by rw [c1]; decide) (by rw [c1]; decide) (by rw [c1]; rfl) rfl ?_
    refine st_aload_n G 48 rfl 0 rfl dX7_count_47 rfl ?_
    refine st_get G inX7 rfl 0 (by decide) wd_82 51 rfl 0 rfl rfl dX7_count_48 ?_
    refine st_iconst G 52 rfl (0 : Int32) (by decide) dX7_count_51 ?_
    obtain ⟨hin, h⟩ := h
    refine st_iald G 53 rfl 1 rfl hin dX7_count_52 ?_
    exact R _ _ _ _ dX7_count_53 (Nat.le_of_ble_eq_true rfl) ⟨_, h, rfl⟩
  by_cases c2 : x1 = (2 : Int32)
  · have h := h.2.2.1 c2
    refine st_tableIn G 54 (off := 53) dX7_count_1 (by rw [c2]; decide) (by rw [c2]; decide) (by rw [c2]; rfl) rfl ?_
    refine st_aload_n G 55 rfl 0 rfl dX7_count_54 rfl ?_
    refine st_get G inX7 rfl 0 (by decide) wd_82 58 rfl 0 rfl rfl dX7_count_55 ?_
    refine st_iconst G 59 rfl (2 : Int32) (by decide) dX7_count_58 ?_
    obtain ⟨hin, h⟩ := h
    refine st_iald G 60 rfl 1 rfl hin dX7_count_59 ?_
    exact R _ _ _ _ dX7_count_60 (Nat.le_of_ble_eq_true rfl) ⟨_, h, rfl⟩
  by_cases c3 : x1 = (3 : Int32)
  · have h := h.2.2.2.1 c3
    refine st_tableIn G 61 (off := 60) dX7_count_1 (by rw [c3]; decide) (by rw [c3]; decide) (by rw [c3]; rfl) rfl ?_
    refine st_aload_n G 62 rfl 0 rfl dX7_count_61 rfl ?_
    refine st_get G inX7 rfl 0 (by decide) wd_82 65 rfl 0 rfl rfl dX7_count_62 ?_
    refine st_iconst G 66 rfl (3 : Int32) (by decide) dX7_count_65 ?_
    obtain ⟨hin, h⟩ := h
    refine st_iald G 67 rfl 1 rfl hin dX7_count_66 ?_
    exact R _ _ _ _ dX7_count_67 (Nat.le_of_ble_eq_true rfl) ⟨_, h, rfl⟩
  by_cases c4 : x1 = (4 : Int32)
  · have h := h.2.2.2.2.1 c4
    refine st_tableIn G 68 (off := 67) dX7_count_1 (by rw [c4]; decide) (by rw [c4]; decide) (by rw [c4]; rfl) rfl ?_
    refine st_aload_n G 69 rfl 0 rfl dX7_count_68 rfl ?_
    refine st_get G inX7 rfl 14 (by decide) wd_842 72 rfl 0 rfl rfl dX7_count_69 ?_
    exact R _ _ _ _ dX7_count_72 (Nat.le_of_ble_eq_true rfl) ⟨_, h, rfl⟩
  by_cases c5 : x1 = (5 : Int32)
  · have h := h.2.2.2.2.2.1 c5
    refine st_tableIn G 73 (off := 72) dX7_count_1 (by rw [c5]; decide) (by rw [c5]; decide) (by rw [c5]; rfl) rfl ?_
    refine st_aload_n G 74 rfl 0 rfl dX7_count_73 rfl ?_
    refine st_get G inX7 rfl 0 (by decide) wd_82 77 rfl 0 rfl rfl dX7_count_74 ?_
    refine st_iconst G 78 rfl (1 : Int32) (by decide) dX7_count_77 ?_
    obtain ⟨hin, h⟩ := h
    refine st_iald G 79 rfl 1 rfl hin dX7_count_78 ?_
    exact R _ _ _ _ dX7_count_79 (Nat.le_of_ble_eq_true rfl) ⟨_, h, rfl⟩
  have h := h.2.2.2.2.2.2 c0 c1 c2 c3 c4 c5
  refine st_tableOut G 80 dX7_count_1 (by have w0 := ne_toInt (n := 0) c0; have w1 := ne_toInt (n := 1) c1; have w2 := ne_toInt (n := 2) c2; have w3 := ne_toInt (n := 3) c3; have w4 := ne_toInt (n := 4) c4; have w5 := ne_toInt (n := 5) c5; omega) rfl ?_
  refine st_aload_n G 81 rfl 0 rfl dX7_count_80 rfl ?_
  refine st_iconst G 82 rfl (1 : Int32) (by decide) dX7_count_81 ?_
  refine st_cVi G lk_X7_65 (c_X7_error g.l g.D g.X q_t q_t_s q_t_k q_t_laid q_t_errors q_t_step q_t_named q_t_pile q_t_sums1 q_t_parts1 q_t_trace q_t_bits q_t_sizes q_t_number q_t_aside c_images c_at c_open c_steps c_use c_traced c_speaks c_isParted c_errors (1 : Int32) _ h) ⟨rfl, rfl, ⟨Nat.le_of_ble_eq_true rfl, Nat.le_of_ble_eq_true rfl⟩, Nat.zero_le _, Nat.zero_le _⟩ 85 rfl [0, 2] rfl (by decide) 0 7 rfl rfl rfl (Nat.le_of_ble_eq_true rfl) rfl dX7_count_82 (fun r_82 w hq => ?_)
  obtain ⟨c_errors_82, h, rfl⟩ := hq
  refine st_wp (ws' := [(q_t, .inr (7, [.ref q_t_s, .ref q_t_k, .ref q_t_laid, .int c_images, .ref q_t_errors, .int c_at, .int c_open, .int c_steps, .int c_use, .ref q_t_step, .ref q_t_named, .ref q_t_pile, .ref q_t_sums1, .ref q_t_parts1, .int c_traced, .ref q_t_trace, .int c_speaks, .int c_isParted, .ref q_t_bits, .ref q_t_sizes, .ref q_t_number, .ref q_t_aside])), (q_t_s, .inl (g.X.cI, 476, .inl c_s)), (q_t_errors, .inl (g.X.cI, 7, .inl c_errors_82))]) 3 [1] (by decide) rfl rfl (by rfl) [(q_t_s, .inl (g.X.cI, 476, .inl c_s))] (by rfl) rfl ?_
  exact R _ _ _ _ dX7_count_85 (Nat.le_of_ble_eq_true rfl) ⟨_, h, rfl⟩
set_option maxRecDepth 100000 in
set_option maxHeartbeats 4000000 in
theorem c_X7_count (l : Launch) (D : va_G) (X : XT) (q_t q_t_s q_t_k q_t_laid q_t_errors q_t_step q_t_named q_t_pile q_t_sums1 q_t_parts1 q_t_trace q_t_bits q_t_sizes q_t_number q_t_aside : Nat) (c_images : Int32) (c_at : Int32) (c_open : Int32) (c_steps : Int32) (c_use : Int32) (c_traced : Int32) (c_speaks : Int32) (c_isParted : Int32) (c_s : Nat → Int32) (c_errors : Nat → Int32) (x1 : Int32) (Q : Int32 → (Nat → Int32) → Prop) (h : wp_X7_count x1 c_traced c_s c_errors Q) : CTi l D X yX7_count cX7_count 2 .int rm_X7_count [.ref q_t, .int x1] [(q_t, .inr (7, [.ref q_t_s, .ref q_t_k, .ref q_t_laid, .int c_images, .ref q_t_errors, .int c_at, .int c_open, .int c_steps, .int c_use, .ref q_t_step, .ref q_t_named, .ref q_t_pile, .ref q_t_sums1, .ref q_t_parts1, .int c_traced, .ref q_t_trace, .int c_speaks, .int c_isParted, .ref q_t_bits, .ref q_t_sizes, .ref q_t_number, .ref q_t_aside])), (q_t_s, .inl (X.cI, 476, .inl c_s)), (q_t_errors, .inl (X.cI, 7, .inl c_errors))] (fun (r : Int32) w => ∃ (c_errors' : Nat → Int32), Q r c_errors' ∧ w = [(q_t, .inr (7, [.ref q_t_s, .ref q_t_k, .ref q_t_laid, .int c_images, .ref q_t_errors, .int c_at, .int c_open, .int c_steps, .int c_use, .ref q_t_step, .ref q_t_named, .ref q_t_pile, .ref q_t_sums1, .ref q_t_parts1, .int c_traced, .ref q_t_trace, .int c_speaks, .int c_isParted, .ref q_t_bits, .ref q_t_sizes, .ref q_t_number, .ref q_t_aside])), (q_t_s, .inl (X.cI, 476, .inl c_s)), (q_t_errors, .inl (X.cI, 7, .inl c_errors'))]) :=
  ct_i (by decide) (Nat.le_of_ble_eq_true rfl) (fun g hl hD hX G R => by subst hl; subst hD; subst hX; exact b_X7_count_e G R h)
set_option maxRecDepth 100000 in
set_option maxHeartbeats 4000000 in
theorem b_X7_told_e {g : GT} (G : GOOD g RX7 cX7_told 2 rm_X7_told) {q_t q_t_s q_t_k q_t_laid q_t_errors q_t_step q_t_named q_t_pile q_t_sums1 q_t_parts1 q_t_trace q_t_bits q_t_sizes q_t_number q_t_aside : Nat} {c_images : Int32} {c_at : Int32} {c_open : Int32} {c_steps : Int32} {c_use : Int32} {c_traced : Int32} {c_speaks : Int32} {c_isParted : Int32} {c_errors : Nat → Int32} {x1 : Int32} {Q : Int32 → (Nat → Int32) → Prop} (R : RETi g cX7_told 2 (fun (r : Int32) w => ∃ (c_errors' : Nat → Int32), Q r c_errors' ∧ w = [(q_t, .inr (7, [.ref q_t_s, .ref q_t_k, .ref q_t_laid, .int c_images, .ref q_t_errors, .int c_at, .int c_open, .int c_steps, .int c_use, .ref q_t_step, .ref q_t_named, .ref q_t_pile, .ref q_t_sums1, .ref q_t_parts1, .int c_traced, .ref q_t_trace, .int c_speaks, .int c_isParted, .ref q_t_bits, .ref q_t_sizes, .ref q_t_number, .ref q_t_aside])), (q_t_errors, .inl (g.X.cI, 7, .inl c_errors'))])) (h : wp_X7_told x1 c_errors Q) : ST g 0 0 0 [(0, .ref q_t), (1, .int x1)] [] [(q_t, .inr (7, [.ref q_t_s, .ref q_t_k, .ref q_t_laid, .int c_images, .ref q_t_errors, .int c_at, .int c_open, .int c_steps, .int c_use, .ref q_t_step, .ref q_t_named, .ref q_t_pile, .ref q_t_sums1, .ref q_t_parts1, .int c_traced, .ref q_t_trace, .int c_speaks, .int c_isParted, .ref q_t_bits, .ref q_t_sizes, .ref q_t_number, .ref q_t_aside])), (q_t_errors, .inl (g.X.cI, 7, .inl c_errors))] := by
  unfold wp_X7_told at h
  refine st_iload_n G 1 rfl 1 rfl dX7_told_0 rfl ?_
  refine st_iconst G 2 rfl (1 : Int32) (by decide) dX7_told_1 ?_
  refine st_bipush G 4 rfl (6 : Int32) (by decide) dX7_told_2 ?_
  refine st_cSio G lk_X7_53 (c_X7_in g.l g.D g.X x1 (1 : Int32) (6 : Int32) _ h) ⟨rfl, rfl, ⟨Nat.le_of_ble_eq_true rfl, Nat.le_of_ble_eq_true rfl⟩, Nat.zero_le _, Nat.zero_le _⟩ 7 rfl [] rfl (by decide) rfl (Nat.le_of_ble_eq_true rfl) rfl dX7_told_4 (fun r_4 h => ?_)
  refine st_if_eq G 19 10 rfl dX7_told_7 rfl (fun c => ?_) (fun c => ?_)
  · have h := h.1 c
    refine st_aload_n G 20 rfl 0 rfl dX7_told_19 rfl ?_
    refine st_iconst G 21 rfl (1 : Int32) (by decide) dX7_told_20 ?_
    refine st_cVi G lk_X7_65 (c_X7_error g.l g.D g.X q_t q_t_s q_t_k q_t_laid q_t_errors q_t_step q_t_named q_t_pile q_t_sums1 q_t_parts1 q_t_trace q_t_bits q_t_sizes q_t_number q_t_aside c_images c_at c_open c_steps c_use c_traced c_speaks c_isParted c_errors (1 : Int32) _ h) ⟨rfl, rfl, ⟨Nat.le_of_ble_eq_true rfl, Nat.le_of_ble_eq_true rfl⟩, Nat.zero_le _, Nat.zero_le _⟩ 24 rfl [0, 1] rfl (by decide) 0 7 rfl rfl rfl (Nat.le_of_ble_eq_true rfl) rfl dX7_told_21 (fun r_21 w hq => ?_)
    obtain ⟨c_errors_21, h, rfl⟩ := hq
    refine st_wp (ws' := [(q_t, .inr (7, [.ref q_t_s, .ref q_t_k, .ref q_t_laid, .int c_images, .ref q_t_errors, .int c_at, .int c_open, .int c_steps, .int c_use, .ref q_t_step, .ref q_t_named, .ref q_t_pile, .ref q_t_sums1, .ref q_t_parts1, .int c_traced, .ref q_t_trace, .int c_speaks, .int c_isParted, .ref q_t_bits, .ref q_t_sizes, .ref q_t_number, .ref q_t_aside])), (q_t_errors, .inl (g.X.cI, 7, .inl c_errors_21))]) 2 [] (by decide) rfl rfl (by rfl) [] (by rfl) rfl ?_
    exact R _ _ _ _ dX7_told_24 (Nat.le_of_ble_eq_true rfl) ⟨_, h, rfl⟩
  have h := h.2 c
  refine st_aload_n G 11 rfl 0 rfl dX7_told_10 rfl ?_
  refine st_get G inX7 rfl 4 (by decide) wd_85 14 rfl 0 rfl rfl dX7_told_11 ?_
  refine st_iload_n G 15 rfl 1 rfl dX7_told_14 rfl ?_
  obtain ⟨hin, h⟩ := h
  refine st_iald G 16 rfl 1 rfl hin dX7_told_15 ?_
  refine st_goto G 24 dX7_told_16 rfl ?_
  exact R _ _ _ _ dX7_told_24 (Nat.le_of_ble_eq_true rfl) ⟨_, h, rfl⟩
set_option maxRecDepth 100000 in
set_option maxHeartbeats 4000000 in
theorem c_X7_told (l : Launch) (D : va_G) (X : XT) (q_t q_t_s q_t_k q_t_laid q_t_errors q_t_step q_t_named q_t_pile q_t_sums1 q_t_parts1 q_t_trace q_t_bits q_t_sizes q_t_number q_t_aside : Nat) (c_images : Int32) (c_at : Int32) (c_open : Int32) (c_steps : Int32) (c_use : Int32) (c_traced : Int32) (c_speaks : Int32) (c_isParted : Int32) (c_errors : Nat → Int32) (x1 : Int32) (Q : Int32 → (Nat → Int32) → Prop) (h : wp_X7_told x1 c_errors Q) : CTi l D X yX7_told cX7_told 2 .int rm_X7_told [.ref q_t, .int x1] [(q_t, .inr (7, [.ref q_t_s, .ref q_t_k, .ref q_t_laid, .int c_images, .ref q_t_errors, .int c_at, .int c_open, .int c_steps, .int c_use, .ref q_t_step, .ref q_t_named, .ref q_t_pile, .ref q_t_sums1, .ref q_t_parts1, .int c_traced, .ref q_t_trace, .int c_speaks, .int c_isParted, .ref q_t_bits, .ref q_t_sizes, .ref q_t_number, .ref q_t_aside])), (q_t_errors, .inl (X.cI, 7, .inl c_errors))] (fun (r : Int32) w => ∃ (c_errors' : Nat → Int32), Q r c_errors' ∧ w = [(q_t, .inr (7, [.ref q_t_s, .ref q_t_k, .ref q_t_laid, .int c_images, .ref q_t_errors, .int c_at, .int c_open, .int c_steps, .int c_use, .ref q_t_step, .ref q_t_named, .ref q_t_pile, .ref q_t_sums1, .ref q_t_parts1, .int c_traced, .ref q_t_trace, .int c_speaks, .int c_isParted, .ref q_t_bits, .ref q_t_sizes, .ref q_t_number, .ref q_t_aside])), (q_t_errors, .inl (X.cI, 7, .inl c_errors'))]) :=
  ct_i (by decide) (Nat.le_of_ble_eq_true rfl) (fun g hl hD hX G R => by subst hl; subst hD; subst hX; exact b_X7_told_e G R h)
