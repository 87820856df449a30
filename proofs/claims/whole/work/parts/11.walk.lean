set_option maxRecDepth 100000 in
set_option maxHeartbeats 4000000 in
theorem b_X6_untell_e {g : GT} (G : GOOD g RX6 cX6_untell 4 rm_X6_untell) {q_t q_t_w q_t_w_km q_t_w_father q_t_w_mother q_t_w_from q_t_w_spoons q_t_w_owed q_t_w_tape q_t_w_tx0 q_t_w_tx0_parts q_t_w_tx0_stack q_t_w_tx1 q_t_w_tx1_parts q_t_w_tx1_stack q_t_w_waiting q_t_k q_t_errors q_t_sheets q_t_r q_t_th q_t_sp : Nat} {c_images : Int32} {w_people : Int32} {w_year : Int32} {w_z : Int32} {w_bytes : Int32} {w_waits : Int32} {w_tx_size : Nat → Int32} {c_errors : Nat → Int32} {x1 : Int32} {Q : Int32 → (Nat → Int32) → (Nat → Int32) → Prop} (R : RETi g cX6_untell 5 (fun (r : Int32) w => ∃ (w_tx_size' : Nat → Int32) (c_errors' : Nat → Int32), Q r w_tx_size' c_errors' ∧ w = [(q_t, .inr (6, [.ref q_t_w, .ref q_t_k, .int c_images, .ref q_t_errors, .ref q_t_sheets, .ref q_t_r, .ref q_t_th, .ref q_t_sp])), (q_t_w, .inr (5, [.int w_people, .ref q_t_w_km, .ref q_t_w_father, .ref q_t_w_mother, .ref q_t_w_from, .ref q_t_w_spoons, .ref q_t_w_owed, .int w_year, .int w_z, .ref q_t_w_tape, .int w_bytes, .ref q_t_w_tx0, .ref q_t_w_tx1, .ref q_t_w_waiting, .int w_waits])), (q_t_w_tx0, .inr (3, [.ref q_t_w_tx0_parts, .ref q_t_w_tx0_stack, .int (w_tx_size' 0)])), (q_t_w_tx1, .inr (3, [.ref q_t_w_tx1_parts, .ref q_t_w_tx1_stack, .int (w_tx_size' 1)])), (q_t_errors, .inl (g.X.cI, 7, .inl c_errors'))])) (h : wp_X6_untell x1 w_tx_size c_errors Q) : ST g 0 0 0 [(0, .ref q_t), (1, .int x1)] [] [(q_t, .inr (6, [.ref q_t_w, .ref q_t_k, .int c_images, .ref q_t_errors, .ref q_t_sheets, .ref q_t_r, .ref q_t_th, .ref q_t_sp])), (q_t_w, .inr (5, [.int w_people, .ref q_t_w_km, .ref q_t_w_father, .ref q_t_w_mother, .ref q_t_w_from, .ref q_t_w_spoons, .ref q_t_w_owed, .int w_year, .int w_z, .ref q_t_w_tape, .int w_bytes, .ref q_t_w_tx0, .ref q_t_w_tx1, .ref q_t_w_waiting, .int w_waits])), (q_t_w_tx0, .inr (3, [.ref q_t_w_tx0_parts, .ref q_t_w_tx0_stack, .int (w_tx_size 0)])), (q_t_w_tx1, .inr (3, [.ref q_t_w_tx1_parts, .ref q_t_w_tx1_stack, .int (w_tx_size 1)])), (q_t_errors, .inl (g.X.cI, 7, .inl c_errors))] := by
  unfold wp_X6_untell at h
  refine st_iload_n G 1 rfl 1 rfl dX6_untell_0 rfl ?_
  refine st_cSio G lk_X6_146 (c_X6_notUse g.l g.D g.X x1 _ h) ⟨rfl, rfl, ⟨Nat.le_of_ble_eq_true rfl, Nat.le_of_ble_eq_true rfl⟩, Nat.zero_le _, Nat.zero_le _⟩ 4 rfl [] rfl (by decide) rfl (Nat.le_of_ble_eq_true rfl) rfl dX6_untell_1 (fun r_1 h => ?_)
  refine st_if_eq G 13 7 rfl dX6_untell_4 rfl (fun c => ?_) (fun c => ?_)
  · have h := h.1 c
    refine st_aload_n G 14 rfl 0 rfl dX6_untell_13 rfl ?_
    refine st_get G inX6 rfl 0 (by decide) wd_16 17 rfl 0 rfl rfl dX6_untell_14 ?_
    refine st_iload_n G 18 rfl 1 rfl dX6_untell_17 rfl ?_
    refine st_cVao G lk_X6_153 (c_X5_textOf g.l g.D g.X q_t_w q_t_w_km q_t_w_father q_t_w_mother q_t_w_from q_t_w_spoons q_t_w_owed q_t_w_tape q_t_w_tx0 q_t_w_tx1 q_t_w_waiting w_people w_year w_z w_bytes w_waits x1 _ h) ⟨rfl, rfl, ⟨Nat.le_of_ble_eq_true rfl, Nat.le_of_ble_eq_true rfl⟩, Nat.zero_le _, Nat.zero_le _⟩ 21 rfl [1] rfl (by decide) 0 5 rfl rfl rfl (Nat.le_of_ble_eq_true rfl) rfl dX6_untell_18 (fun r hq => ?_)
    obtain ⟨hk, h⟩ := hq
    rcases hk with rfl | rfl
    · refine st_S (S' := [.ref q_t_w_tx0]) rfl ?_
      refine st_astore_n G 22 rfl [(2, .ref q_t_w_tx0), (0, .ref q_t), (1, .int x1)] dX6_untell_21 rfl (by decide) rfl ?_
      refine st_aload_n G 23 rfl 0 rfl dX6_untell_22 rfl ?_
      refine st_cVio G lk_X6_167 (c_X3_stands g.l g.D g.X q_t_w_tx0 q_t_w_tx0_parts q_t_w_tx0_stack (w_tx_size 0) _ h) ⟨rfl, rfl, ⟨Nat.le_of_ble_eq_true rfl, Nat.le_of_ble_eq_true rfl⟩, Nat.zero_le _, Nat.zero_le _⟩ 26 rfl [2] rfl (by decide) 0 3 rfl rfl rfl (Nat.le_of_ble_eq_true rfl) rfl dX6_untell_23 (fun r_23 h => ?_)
      refine st_cSio G lk_X6_171 (c_X6_truth g.l g.D g.X r_23 _ h) ⟨rfl, rfl, ⟨Nat.le_of_ble_eq_true rfl, Nat.le_of_ble_eq_true rfl⟩, Nat.zero_le _, Nat.zero_le _⟩ 29 rfl [] rfl (by decide) rfl (Nat.le_of_ble_eq_true rfl) rfl dX6_untell_26 (fun r_26 h => ?_)
      refine st_istore_n G 30 rfl [(3, .int r_26), (2, .ref q_t_w_tx0), (0, .ref q_t), (1, .int x1)] dX6_untell_29 rfl (by decide) rfl ?_
      refine st_aload_n G 31 rfl 1 rfl dX6_untell_30 rfl ?_
      refine st_cVv G lk_X6_175 (c_X3_clear g.l g.D g.X q_t_w_tx0 q_t_w_tx0_parts q_t_w_tx0_stack (w_tx_size 0) _ h) ⟨rfl, rfl, ⟨Nat.le_of_ble_eq_true rfl, Nat.le_of_ble_eq_true rfl⟩, Nat.zero_le _, Nat.zero_le _⟩ 34 rfl [2] rfl (by decide) 0 3 rfl rfl rfl (Nat.le_of_ble_eq_true rfl) rfl dX6_untell_31 (fun w hq => ?_)
      obtain ⟨o_31_size, h, rfl⟩ := hq
      obtain ⟨w_tx_size_31, ew_tx_size_31⟩ : ∃ y : Nat → Int32, y = va_up w_tx_size 0 o_31_size := ⟨_, rfl⟩
      have h := h w_tx_size_31 ew_tx_size_31
      refine st_wp (ws' := [(q_t, .inr (6, [.ref q_t_w, .ref q_t_k, .int c_images, .ref q_t_errors, .ref q_t_sheets, .ref q_t_r, .ref q_t_th, .ref q_t_sp])), (q_t_w, .inr (5, [.int w_people, .ref q_t_w_km, .ref q_t_w_father, .ref q_t_w_mother, .ref q_t_w_from, .ref q_t_w_spoons, .ref q_t_w_owed, .int w_year, .int w_z, .ref q_t_w_tape, .int w_bytes, .ref q_t_w_tx0, .ref q_t_w_tx1, .ref q_t_w_waiting, .int w_waits])), (q_t_w_tx0, .inr (3, [.ref q_t_w_tx0_parts, .ref q_t_w_tx0_stack, .int (w_tx_size_31 0)])), (q_t_w_tx1, .inr (3, [.ref q_t_w_tx1_parts, .ref q_t_w_tx1_stack, .int (w_tx_size_31 1)])), (q_t_errors, .inl (g.X.cI, 7, .inl c_errors))]) 5 [0, 1, 3, 4] (by decide) rfl rfl (by subst ew_tx_size_31; rfl) [(q_t, .inr (6, [.ref q_t_w, .ref q_t_k, .int c_images, .ref q_t_errors, .ref q_t_sheets, .ref q_t_r, .ref q_t_th, .ref q_t_sp])), (q_t_w, .inr (5, [.int w_people, .ref q_t_w_km, .ref q_t_w_father, .ref q_t_w_mother, .ref q_t_w_from, .ref q_t_w_spoons, .ref q_t_w_owed, .int w_year, .int w_z, .ref q_t_w_tape, .int w_bytes, .ref q_t_w_tx0, .ref q_t_w_tx1, .ref q_t_w_waiting, .int w_waits])), (q_t_w_tx1, .inr (3, [.ref q_t_w_tx1_parts, .ref q_t_w_tx1_stack, .int (w_tx_size 1)])), (q_t_errors, .inl (g.X.cI, 7, .inl c_errors))] (by subst ew_tx_size_31; rfl) rfl ?_
      refine st_iload_n G 35 rfl 0 rfl dX6_untell_34 rfl ?_
      exact R _ _ _ _ dX6_untell_35 (Nat.le_of_ble_eq_true rfl) ⟨_, _, h, rfl⟩
    · refine st_S (S' := [.ref q_t_w_tx1]) rfl ?_
      refine st_astore_n G 22 rfl [(2, .ref q_t_w_tx1), (0, .ref q_t), (1, .int x1)] dX6_untell_21 rfl (by decide) rfl ?_
      refine st_aload_n G 23 rfl 0 rfl dX6_untell_22 rfl ?_
      refine st_cVio G lk_X6_167 (c_X3_stands g.l g.D g.X q_t_w_tx1 q_t_w_tx1_parts q_t_w_tx1_stack (w_tx_size 1) _ h) ⟨rfl, rfl, ⟨Nat.le_of_ble_eq_true rfl, Nat.le_of_ble_eq_true rfl⟩, Nat.zero_le _, Nat.zero_le _⟩ 26 rfl [3] rfl (by decide) 0 3 rfl rfl rfl (Nat.le_of_ble_eq_true rfl) rfl dX6_untell_23 (fun r_23 h => ?_)
      refine st_cSio G lk_X6_171 (c_X6_truth g.l g.D g.X r_23 _ h) ⟨rfl, rfl, ⟨Nat.le_of_ble_eq_true rfl, Nat.le_of_ble_eq_true rfl⟩, Nat.zero_le _, Nat.zero_le _⟩ 29 rfl [] rfl (by decide) rfl (Nat.le_of_ble_eq_true rfl) rfl dX6_untell_26 (fun r_26 h => ?_)
      refine st_istore_n G 30 rfl [(3, .int r_26), (2, .ref q_t_w_tx1), (0, .ref q_t), (1, .int x1)] dX6_untell_29 rfl (by decide) rfl ?_
      refine st_aload_n G 31 rfl 1 rfl dX6_untell_30 rfl ?_
      refine st_cVv G lk_X6_175 (c_X3_clear g.l g.D g.X q_t_w_tx1 q_t_w_tx1_parts q_t_w_tx1_stack (w_tx_size 1) _ h) ⟨rfl, rfl, ⟨Nat.le_of_ble_eq_true rfl, Nat.le_of_ble_eq_true rfl⟩, Nat.zero_le _, Nat.zero_le _⟩ 34 rfl [3] rfl (by decide) 0 3 rfl rfl rfl (Nat.le_of_ble_eq_true rfl) rfl dX6_untell_31 (fun w hq => ?_)
      obtain ⟨o_31_size, h, rfl⟩ := hq
      obtain ⟨w_tx_size_31, ew_tx_size_31⟩ : ∃ y : Nat → Int32, y = va_up w_tx_size 1 o_31_size := ⟨_, rfl⟩
      have h := h w_tx_size_31 ew_tx_size_31
      refine st_wp (ws' := [(q_t, .inr (6, [.ref q_t_w, .ref q_t_k, .int c_images, .ref q_t_errors, .ref q_t_sheets, .ref q_t_r, .ref q_t_th, .ref q_t_sp])), (q_t_w, .inr (5, [.int w_people, .ref q_t_w_km, .ref q_t_w_father, .ref q_t_w_mother, .ref q_t_w_from, .ref q_t_w_spoons, .ref q_t_w_owed, .int w_year, .int w_z, .ref q_t_w_tape, .int w_bytes, .ref q_t_w_tx0, .ref q_t_w_tx1, .ref q_t_w_waiting, .int w_waits])), (q_t_w_tx0, .inr (3, [.ref q_t_w_tx0_parts, .ref q_t_w_tx0_stack, .int (w_tx_size_31 0)])), (q_t_w_tx1, .inr (3, [.ref q_t_w_tx1_parts, .ref q_t_w_tx1_stack, .int (w_tx_size_31 1)])), (q_t_errors, .inl (g.X.cI, 7, .inl c_errors))]) 5 [0, 1, 2, 4] (by decide) rfl rfl (by subst ew_tx_size_31; rfl) [(q_t, .inr (6, [.ref q_t_w, .ref q_t_k, .int c_images, .ref q_t_errors, .ref q_t_sheets, .ref q_t_r, .ref q_t_th, .ref q_t_sp])), (q_t_w, .inr (5, [.int w_people, .ref q_t_w_km, .ref q_t_w_father, .ref q_t_w_mother, .ref q_t_w_from, .ref q_t_w_spoons, .ref q_t_w_owed, .int w_year, .int w_z, .ref q_t_w_tape, .int w_bytes, .ref q_t_w_tx0, .ref q_t_w_tx1, .ref q_t_w_waiting, .int w_waits])), (q_t_w_tx0, .inr (3, [.ref q_t_w_tx0_parts, .ref q_t_w_tx0_stack, .int (w_tx_size 0)])), (q_t_errors, .inl (g.X.cI, 7, .inl c_errors))] (by subst ew_tx_size_31; rfl) rfl ?_
      refine st_iload_n G 35 rfl 0 rfl dX6_untell_34 rfl ?_
      exact R _ _ _ _ dX6_untell_35 (Nat.le_of_ble_eq_true rfl) ⟨_, _, h, rfl⟩
  have h := h.2 c
  refine st_aload_n G 8 rfl 0 rfl dX6_untell_7 rfl ?_
  refine st_iconst G 9 rfl (1 : Int32) (by decide) dX6_untell_8 ?_
  refine st_cVi G lk_X6_55 (c_X6_error g.l g.D g.X q_t q_t_w q_t_k q_t_errors q_t_sheets q_t_r q_t_th q_t_sp c_images c_errors (1 : Int32) _ h) ⟨rfl, rfl, ⟨Nat.le_of_ble_eq_true rfl, Nat.le_of_ble_eq_true rfl⟩, Nat.zero_le _, Nat.zero_le _⟩ 12 rfl [0, 4] rfl (by decide) 0 6 rfl rfl rfl (Nat.le_of_ble_eq_true rfl) rfl dX6_untell_9 (fun r_9 w hq => ?_)
  obtain ⟨c_errors_9, h, rfl⟩ := hq
  refine st_wp (ws' := [(q_t, .inr (6, [.ref q_t_w, .ref q_t_k, .int c_images, .ref q_t_errors, .ref q_t_sheets, .ref q_t_r, .ref q_t_th, .ref q_t_sp])), (q_t_w, .inr (5, [.int w_people, .ref q_t_w_km, .ref q_t_w_father, .ref q_t_w_mother, .ref q_t_w_from, .ref q_t_w_spoons, .ref q_t_w_owed, .int w_year, .int w_z, .ref q_t_w_tape, .int w_bytes, .ref q_t_w_tx0, .ref q_t_w_tx1, .ref q_t_w_waiting, .int w_waits])), (q_t_w_tx0, .inr (3, [.ref q_t_w_tx0_parts, .ref q_t_w_tx0_stack, .int (w_tx_size 0)])), (q_t_w_tx1, .inr (3, [.ref q_t_w_tx1_parts, .ref q_t_w_tx1_stack, .int (w_tx_size 1)])), (q_t_errors, .inl (g.X.cI, 7, .inl c_errors_9))]) 5 [1, 2, 3] (by decide) rfl rfl (by rfl) [(q_t_w, .inr (5, [.int w_people, .ref q_t_w_km, .ref q_t_w_father, .ref q_t_w_mother, .ref q_t_w_from, .ref q_t_w_spoons, .ref q_t_w_owed, .int w_year, .int w_z, .ref q_t_w_tape, .int w_bytes, .ref q_t_w_tx0, .ref q_t_w_tx1, .ref q_t_w_waiting, .int w_waits])), (q_t_w_tx0, .inr (3, [.ref q_t_w_tx0_parts, .ref q_t_w_tx0_stack, .int (w_tx_size 0)])), (q_t_w_tx1, .inr (3, [.ref q_t_w_tx1_parts, .ref q_t_w_tx1_stack, .int (w_tx_size 1)]))] (by rfl) rfl ?_
  exact R _ _ _ _ dX6_untell_12 (Nat.le_of_ble_eq_true rfl) ⟨_, _, h, rfl⟩
set_option maxRecDepth 100000 in
set_option maxHeartbeats 4000000 in
theorem c_X6_untell (l : Launch) (D : va_G) (X : XT) (q_t q_t_w q_t_w_km q_t_w_father q_t_w_mother q_t_w_from q_t_w_spoons q_t_w_owed q_t_w_tape q_t_w_tx0 q_t_w_tx0_parts q_t_w_tx0_stack q_t_w_tx1 q_t_w_tx1_parts q_t_w_tx1_stack q_t_w_waiting q_t_k q_t_errors q_t_sheets q_t_r q_t_th q_t_sp : Nat) (c_images : Int32) (w_people : Int32) (w_year : Int32) (w_z : Int32) (w_bytes : Int32) (w_waits : Int32) (w_tx_size : Nat → Int32) (c_errors : Nat → Int32) (x1 : Int32) (Q : Int32 → (Nat → Int32) → (Nat → Int32) → Prop) (h : wp_X6_untell x1 w_tx_size c_errors Q) : CTi l D X yX6_untell cX6_untell 4 .int rm_X6_untell [.ref q_t, .int x1] [(q_t, .inr (6, [.ref q_t_w, .ref q_t_k, .int c_images, .ref q_t_errors, .ref q_t_sheets, .ref q_t_r, .ref q_t_th, .ref q_t_sp])), (q_t_w, .inr (5, [.int w_people, .ref q_t_w_km, .ref q_t_w_father, .ref q_t_w_mother, .ref q_t_w_from, .ref q_t_w_spoons, .ref q_t_w_owed, .int w_year, .int w_z, .ref q_t_w_tape, .int w_bytes, .ref q_t_w_tx0, .ref q_t_w_tx1, .ref q_t_w_waiting, .int w_waits])), (q_t_w_tx0, .inr (3, [.ref q_t_w_tx0_parts, .ref q_t_w_tx0_stack, .int (w_tx_size 0)])), (q_t_w_tx1, .inr (3, [.ref q_t_w_tx1_parts, .ref q_t_w_tx1_stack, .int (w_tx_size 1)])), (q_t_errors, .inl (X.cI, 7, .inl c_errors))] (fun (r : Int32) w => ∃ (w_tx_size' : Nat → Int32) (c_errors' : Nat → Int32), Q r w_tx_size' c_errors' ∧ w = [(q_t, .inr (6, [.ref q_t_w, .ref q_t_k, .int c_images, .ref q_t_errors, .ref q_t_sheets, .ref q_t_r, .ref q_t_th, .ref q_t_sp])), (q_t_w, .inr (5, [.int w_people, .ref q_t_w_km, .ref q_t_w_father, .ref q_t_w_mother, .ref q_t_w_from, .ref q_t_w_spoons, .ref q_t_w_owed, .int w_year, .int w_z, .ref q_t_w_tape, .int w_bytes, .ref q_t_w_tx0, .ref q_t_w_tx1, .ref q_t_w_waiting, .int w_waits])), (q_t_w_tx0, .inr (3, [.ref q_t_w_tx0_parts, .ref q_t_w_tx0_stack, .int (w_tx_size' 0)])), (q_t_w_tx1, .inr (3, [.ref q_t_w_tx1_parts, .ref q_t_w_tx1_stack, .int (w_tx_size' 1)])), (q_t_errors, .inl (X.cI, 7, .inl c_errors'))]) :=
  ct_i (by decide) (Nat.le_of_ble_eq_true rfl) (fun g hl hD hX G R => by subst hl; subst hD; subst hX; exact b_X6_untell_e G R h)
set_option maxRecDepth 100000 in
set_option maxHeartbeats 4000000 in
theorem b_X6_law_e {g : GT} (G : GOOD g RX6 cX6_law 5 rm_X6_law) {q_t q_t_w q_t_w_km q_t_w_father q_t_w_mother q_t_w_from q_t_w_spoons q_t_w_owed q_t_w_tape q_t_w_tx0 q_t_w_tx0_parts q_t_w_tx0_stack q_t_w_tx1 q_t_w_tx1_parts q_t_w_tx1_stack q_t_w_waiting q_t_k q_t_errors q_t_sheets q_t_r q_t_th q_t_sp : Nat} {c_images : Int32} {w_people : Int32} {w_year : Int32} {w_z : Int32} {w_bytes : Int32} {w_waits : Int32} {w_tx_size : Nat → Int32} {w_tx_parts : Nat → Nat → Int32} {w_tx_stack : Nat → Nat → Int32} {c_errors : Nat → Int32} {x1 : Int32} {x2 : Int32} {x3 : Int32} {x4 : Int32} {Q : Int32 → (Nat → Nat → Int32) → (Nat → Int32) → Prop} (R : RETi g cX6_law 9 (fun (r : Int32) w => ∃ (w_tx_stack' : Nat → Nat → Int32) (c_errors' : Nat → Int32), Q r w_tx_stack' c_errors' ∧ w = [(q_t, .inr (6, [.ref q_t_w, .ref q_t_k, .int c_images, .ref q_t_errors, .ref q_t_sheets, .ref q_t_r, .ref q_t_th, .ref q_t_sp])), (q_t_w, .inr (5, [.int w_people, .ref q_t_w_km, .ref q_t_w_father, .ref q_t_w_mother, .ref q_t_w_from, .ref q_t_w_spoons, .ref q_t_w_owed, .int w_year, .int w_z, .ref q_t_w_tape, .int w_bytes, .ref q_t_w_tx0, .ref q_t_w_tx1, .ref q_t_w_waiting, .int w_waits])), (q_t_w_tx0, .inr (3, [.ref q_t_w_tx0_parts, .ref q_t_w_tx0_stack, .int (w_tx_size 0)])), (q_t_w_tx0_parts, .inl (g.X.cI, 60, .inl (w_tx_parts 0))), (q_t_w_tx0_stack, .inl (g.X.cI, 60, .inl (w_tx_stack' 0))), (q_t_w_tx1, .inr (3, [.ref q_t_w_tx1_parts, .ref q_t_w_tx1_stack, .int (w_tx_size 1)])), (q_t_w_tx1_parts, .inl (g.X.cI, 60, .inl (w_tx_parts 1))), (q_t_w_tx1_stack, .inl (g.X.cI, 60, .inl (w_tx_stack' 1))), (q_t_errors, .inl (g.X.cI, 7, .inl c_errors'))])) (h : wp_X6_law x1 x2 x3 x4 w_tx_size w_tx_parts w_tx_stack c_errors Q) : ST g 0 0 0 [(0, .ref q_t), (1, .int x1), (2, .int x2), (3, .int x3), (4, .int x4)] [] [(q_t, .inr (6, [.ref q_t_w, .ref q_t_k, .int c_images, .ref q_t_errors, .ref q_t_sheets, .ref q_t_r, .ref q_t_th, .ref q_t_sp])), (q_t_w, .inr (5, [.int w_people, .ref q_t_w_km, .ref q_t_w_father, .ref q_t_w_mother, .ref q_t_w_from, .ref q_t_w_spoons, .ref q_t_w_owed, .int w_year, .int w_z, .ref q_t_w_tape, .int w_bytes, .ref q_t_w_tx0, .ref q_t_w_tx1, .ref q_t_w_waiting, .int w_waits])), (q_t_w_tx0, .inr (3, [.ref q_t_w_tx0_parts, .ref q_t_w_tx0_stack, .int (w_tx_size 0)])), (q_t_w_tx0_parts, .inl (g.X.cI, 60, .inl (w_tx_parts 0))), (q_t_w_tx0_stack, .inl (g.X.cI, 60, .inl (w_tx_stack 0))), (q_t_w_tx1, .inr (3, [.ref q_t_w_tx1_parts, .ref q_t_w_tx1_stack, .int (w_tx_size 1)])), (q_t_w_tx1_parts, .inl (g.X.cI, 60, .inl (w_tx_parts 1))), (q_t_w_tx1_stack, .inl (g.X.cI, 60, .inl (w_tx_stack 1))), (q_t_errors, .inl (g.X.cI, 7, .inl c_errors))] := by
  unfold wp_X6_law at h
  refine st_iload_n G 1 rfl 1 rfl dX6_law_0 rfl ?_
  refine st_cSio G lk_X6_146 (c_X6_notUse g.l g.D g.X x1 _ h) ⟨rfl, rfl, ⟨Nat.le_of_ble_eq_true rfl, Nat.le_of_ble_eq_true rfl⟩, Nat.zero_le _, Nat.zero_le _⟩ 4 rfl [] rfl (by decide) rfl (Nat.le_of_ble_eq_true rfl) rfl dX6_law_1 (fun r_1 h => ?_)
  refine st_if_eq G 13 7 rfl dX6_law_4 rfl (fun c => ?_) (fun c => ?_)
  · have h := h.1 c
    refine st_aload_n G 14 rfl 0 rfl dX6_law_13 rfl ?_
    refine st_get G inX6 rfl 0 (by decide) wd_16 17 rfl 0 rfl rfl dX6_law_14 ?_
    refine st_iload_n G 18 rfl 1 rfl dX6_law_17 rfl ?_
    refine st_iload_n G 19 rfl 2 rfl dX6_law_18 rfl ?_
    refine st_iload_n G 20 rfl 3 rfl dX6_law_19 rfl ?_
    refine st_iload G 22 rfl 4 rfl dX6_law_20 ?_
    refine st_cVi G lk_X6_178 (c_X5_given g.l g.D g.X q_t_w q_t_w_km q_t_w_father q_t_w_mother q_t_w_from q_t_w_spoons q_t_w_owed q_t_w_tape q_t_w_tx0 q_t_w_tx0_parts q_t_w_tx0_stack q_t_w_tx1 q_t_w_tx1_parts q_t_w_tx1_stack q_t_w_waiting w_people w_year w_z w_bytes w_waits w_tx_size w_tx_parts w_tx_stack x1 x2 x3 x4 _ h) ⟨rfl, rfl, ⟨Nat.le_of_ble_eq_true rfl, Nat.le_of_ble_eq_true rfl⟩, Nat.zero_le _, Nat.zero_le _⟩ 25 rfl [1, 2, 3, 4, 5, 6, 7] rfl (by decide) 0 5 rfl rfl rfl (Nat.le_of_ble_eq_true rfl) rfl dX6_law_22 (fun r_22 w hq => ?_)
    obtain ⟨w_tx_stack_22, h, rfl⟩ := hq
    refine st_wp (ws' := [(q_t, .inr (6, [.ref q_t_w, .ref q_t_k, .int c_images, .ref q_t_errors, .ref q_t_sheets, .ref q_t_r, .ref q_t_th, .ref q_t_sp])), (q_t_w, .inr (5, [.int w_people, .ref q_t_w_km, .ref q_t_w_father, .ref q_t_w_mother, .ref q_t_w_from, .ref q_t_w_spoons, .ref q_t_w_owed, .int w_year, .int w_z, .ref q_t_w_tape, .int w_bytes, .ref q_t_w_tx0, .ref q_t_w_tx1, .ref q_t_w_waiting, .int w_waits])), (q_t_w_tx0, .inr (3, [.ref q_t_w_tx0_parts, .ref q_t_w_tx0_stack, .int (w_tx_size 0)])), (q_t_w_tx0_parts, .inl (g.X.cI, 60, .inl (w_tx_parts 0))), (q_t_w_tx0_stack, .inl (g.X.cI, 60, .inl (w_tx_stack_22 0))), (q_t_w_tx1, .inr (3, [.ref q_t_w_tx1_parts, .ref q_t_w_tx1_stack, .int (w_tx_size 1)])), (q_t_w_tx1_parts, .inl (g.X.cI, 60, .inl (w_tx_parts 1))), (q_t_w_tx1_stack, .inl (g.X.cI, 60, .inl (w_tx_stack_22 1))), (q_t_errors, .inl (g.X.cI, 7, .inl c_errors))]) 9 [0, 8] (by decide) rfl rfl (by rfl) [(q_t, .inr (6, [.ref q_t_w, .ref q_t_k, .int c_images, .ref q_t_errors, .ref q_t_sheets, .ref q_t_r, .ref q_t_th, .ref q_t_sp])), (q_t_errors, .inl (g.X.cI, 7, .inl c_errors))] (by rfl) rfl ?_
    exact R _ _ _ _ dX6_law_25 (Nat.le_of_ble_eq_true rfl) ⟨_, _, h, rfl⟩
  have h := h.2 c
  refine st_aload_n G 8 rfl 0 rfl dX6_law_7 rfl ?_
  refine st_iconst G 9 rfl (1 : Int32) (by decide) dX6_law_8 ?_
  refine st_cVi G lk_X6_55 (c_X6_error g.l g.D g.X q_t q_t_w q_t_k q_t_errors q_t_sheets q_t_r q_t_th q_t_sp c_images c_errors (1 : Int32) _ h) ⟨rfl, rfl, ⟨Nat.le_of_ble_eq_true rfl, Nat.le_of_ble_eq_true rfl⟩, Nat.zero_le _, Nat.zero_le _⟩ 12 rfl [0, 8] rfl (by decide) 0 6 rfl rfl rfl (Nat.le_of_ble_eq_true rfl) rfl dX6_law_9 (fun r_9 w hq => ?_)
  obtain ⟨c_errors_9, h, rfl⟩ := hq
  refine st_wp (ws' := [(q_t, .inr (6, [.ref q_t_w, .ref q_t_k, .int c_images, .ref q_t_errors, .ref q_t_sheets, .ref q_t_r, .ref q_t_th, .ref q_t_sp])), (q_t_w, .inr (5, [.int w_people, .ref q_t_w_km, .ref q_t_w_father, .ref q_t_w_mother, .ref q_t_w_from, .ref q_t_w_spoons, .ref q_t_w_owed, .int w_year, .int w_z, .ref q_t_w_tape, .int w_bytes, .ref q_t_w_tx0, .ref q_t_w_tx1, .ref q_t_w_waiting, .int w_waits])), (q_t_w_tx0, .inr (3, [.ref q_t_w_tx0_parts, .ref q_t_w_tx0_stack, .int (w_tx_size 0)])), (q_t_w_tx0_parts, .inl (g.X.cI, 60, .inl (w_tx_parts 0))), (q_t_w_tx0_stack, .inl (g.X.cI, 60, .inl (w_tx_stack 0))), (q_t_w_tx1, .inr (3, [.ref q_t_w_tx1_parts, .ref q_t_w_tx1_stack, .int (w_tx_size 1)])), (q_t_w_tx1_parts, .inl (g.X.cI, 60, .inl (w_tx_parts 1))), (q_t_w_tx1_stack, .inl (g.X.cI, 60, .inl (w_tx_stack 1))), (q_t_errors, .inl (g.X.cI, 7, .inl c_errors_9))]) 9 [1, 2, 3, 4, 5, 6, 7] (by decide) rfl rfl (by rfl) [(q_t_w, .inr (5, [.int w_people, .ref q_t_w_km, .ref q_t_w_father, .ref q_t_w_mother, .ref q_t_w_from, .ref q_t_w_spoons, .ref q_t_w_owed, .int w_year, .int w_z, .ref q_t_w_tape, .int w_bytes, .ref q_t_w_tx0, .ref q_t_w_tx1, .ref q_t_w_waiting, .int w_waits])), (q_t_w_tx0, .inr (3, [.ref q_t_w_tx0_parts, .ref q_t_w_tx0_stack, .int (w_tx_size 0)])), (q_t_w_tx0_parts, .inl (g.X.cI, 60, .inl (w_tx_parts 0))), (q_t_w_tx0_stack, .inl (g.X.cI, 60, .inl (w_tx_stack 0))), (q_t_w_tx1, .inr (3, [.ref q_t_w_tx1_parts, .ref q_t_w_tx1_stack, .int (w_tx_size 1)])), (q_t_w_tx1_parts, .inl (g.X.cI, 60, .inl (w_tx_parts 1))), (q_t_w_tx1_stack, .inl (g.X.cI, 60, .inl (w_tx_stack 1)))] (by rfl) rfl ?_
  exact R _ _ _ _ dX6_law_12 (Nat.le_of_ble_eq_true rfl) ⟨_, _, h, rfl⟩
set_option maxRecDepth 100000 in
set_option maxHeartbeats 4000000 in
theorem c_X6_law (l : Launch) (D : va_G) (X : XT) (q_t q_t_w q_t_w_km q_t_w_father q_t_w_mother q_t_w_from q_t_w_spoons q_t_w_owed q_t_w_tape q_t_w_tx0 q_t_w_tx0_parts q_t_w_tx0_stack q_t_w_tx1 q_t_w_tx1_parts q_t_w_tx1_stack q_t_w_waiting q_t_k q_t_errors q_t_sheets q_t_r q_t_th q_t_sp : Nat) (c_images : Int32) (w_people : Int32) (w_year : Int32) (w_z : Int32) (w_bytes : Int32) (w_waits : Int32) (w_tx_size : Nat → Int32) (w_tx_parts : Nat → Nat → Int32) (w_tx_stack : Nat → Nat → Int32) (c_errors : Nat → Int32) (x1 : Int32) (x2 : Int32) (x3 : Int32) (x4 : Int32) (Q : Int32 → (Nat → Nat → Int32) → (Nat → Int32) → Prop) (h : wp_X6_law x1 x2 x3 x4 w_tx_size w_tx_parts w_tx_stack c_errors Q) : CTi l D X yX6_law cX6_law 5 .int rm_X6_law [.ref q_t, .int x1, .int x2, .int x3, .int x4] [(q_t, .inr (6, [.ref q_t_w, .ref q_t_k, .int c_images, .ref q_t_errors, .ref q_t_sheets, .ref q_t_r, .ref q_t_th, .ref q_t_sp])), (q_t_w, .inr (5, [.int w_people, .ref q_t_w_km, .ref q_t_w_father, .ref q_t_w_mother, .ref q_t_w_from, .ref q_t_w_spoons, .ref q_t_w_owed, .int w_year, .int w_z, .ref q_t_w_tape, .int w_bytes, .ref q_t_w_tx0, .ref q_t_w_tx1, .ref q_t_w_waiting, .int w_waits])), (q_t_w_tx0, .inr (3, [.ref q_t_w_tx0_parts, .ref q_t_w_tx0_stack, .int (w_tx_size 0)])), (q_t_w_tx0_parts, .inl (X.cI, 60, .inl (w_tx_parts 0))), (q_t_w_tx0_stack, .inl (X.cI, 60, .inl (w_tx_stack 0))), (q_t_w_tx1, .inr (3, [.ref q_t_w_tx1_parts, .ref q_t_w_tx1_stack, .int (w_tx_size 1)])), (q_t_w_tx1_parts, .inl (X.cI, 60, .inl (w_tx_parts 1))), (q_t_w_tx1_stack, .inl (X.cI, 60, .inl (w_tx_stack 1))), (q_t_errors, .inl (X.cI, 7, .inl c_errors))] (fun (r : Int32) w => ∃ (w_tx_stack' : Nat → Nat → Int32) (c_errors' : Nat → Int32), Q r w_tx_stack' c_errors' ∧ w = [(q_t, .inr (6, [.ref q_t_w, .ref q_t_k, .int c_images, .ref q_t_errors, .ref q_t_sheets, .ref q_t_r, .ref q_t_th, .ref q_t_sp])), (q_t_w, .inr (5, [.int w_people, .ref q_t_w_km, .ref q_t_w_father, .ref q_t_w_mother, .ref q_t_w_from, .ref q_t_w_spoons, .ref q_t_w_owed, .int w_year, .int w_z, .ref q_t_w_tape, .int w_bytes, .ref q_t_w_tx0, .ref q_t_w_tx1, .ref q_t_w_waiting, .int w_waits])), (q_t_w_tx0, .inr (3, [.ref q_t_w_tx0_parts, .ref q_t_w_tx0_stack, .int (w_tx_size 0)])), (q_t_w_tx0_parts, .inl (X.cI, 60, .inl (w_tx_parts 0))), (q_t_w_tx0_stack, .inl (X.cI, 60, .inl (w_tx_stack' 0))), (q_t_w_tx1, .inr (3, [.ref q_t_w_tx1_parts, .ref q_t_w_tx1_stack, .int (w_tx_size 1)])), (q_t_w_tx1_parts, .inl (X.cI, 60, .inl (w_tx_parts 1))), (q_t_w_tx1_stack, .inl (X.cI, 60, .inl (w_tx_stack' 1))), (q_t_errors, .inl (X.cI, 7, .inl c_errors'))]) :=
  ct_i (by decide) (Nat.le_of_ble_eq_true rfl) (fun g hl hD hX G R => by subst hl; subst hD; subst hX; exact b_X6_law_e G R h)
set_option maxRecDepth 100000 in
set_option maxHeartbeats 4000000 in
theorem b_X5_grow_13 {g : GT} (G : GOOD g RX5 cX5_grow 7 rm_X5_grow) {q_t q_t_km q_t_father q_t_mother q_t_from q_t_spoons q_t_owed q_t_tape q_t_tx0 q_t_tx0_parts q_t_tx0_stack q_t_tx1 q_t_tx1_parts q_t_tx1_stack q_t_waiting q_a1 : Nat} {c_people : Int32} {c_year : Int32} {c_z : Int32} {c_bytes : Int32} {c_waits : Int32} {c_km : Nat → Int32} {c_tx_size : Nat → Int32} {c_tx_parts : Nat → Nat → Int32} {Q : (Nat → Nat → Int32) → (Nat → Int32) → Prop} {KK2 : (Int32) → (Int32) → (Nat → Nat → Int32) → (Nat → Int32) → Prop} (R : RETv g cX5_grow 0 0 9 (fun w => ∃ (c_tx_stack' : Nat → Nat → Int32) (a1_row' : Nat → Int32), Q c_tx_stack' a1_row' ∧ w = [(q_t, .inr (5, [.int c_people, .ref q_t_km, .ref q_t_father, .ref q_t_mother, .ref q_t_from, .ref q_t_spoons, .ref q_t_owed, .int c_year, .int c_z, .ref q_t_tape, .int c_bytes, .ref q_t_tx0, .ref q_t_tx1, .ref q_t_waiting, .int c_waits])), (q_t_km, .inl (g.X.cI, 8, .inl c_km)), (q_t_tx0, .inr (3, [.ref q_t_tx0_parts, .ref q_t_tx0_stack, .int (c_tx_size 0)])), (q_t_tx0_parts, .inl (g.X.cI, 60, .inl (c_tx_parts 0))), (q_t_tx0_stack, .inl (g.X.cI, 60, .inl (c_tx_stack' 0))), (q_t_tx1, .inr (3, [.ref q_t_tx1_parts, .ref q_t_tx1_stack, .int (c_tx_size 1)])), (q_t_tx1_parts, .inl (g.X.cI, 60, .inl (c_tx_parts 1))), (q_t_tx1_stack, .inl (g.X.cI, 60, .inl (c_tx_stack' 1))), (q_a1, .inl (g.X.cI, 40, .inl a1_row'))])) (hK2 : ∀ (x2 : Int32) (x3 : Int32) (c_tx_stack : Nat → Nat → Int32) (a1_row : Nat → Int32), KK2 x2 x3 c_tx_stack a1_row → ST g 0 0 2 [(0, .ref q_t), (1, .ref q_a1), (2, .int x2), (3, .int x3)] [] [(q_t, .inr (5, [.int c_people, .ref q_t_km, .ref q_t_father, .ref q_t_mother, .ref q_t_from, .ref q_t_spoons, .ref q_t_owed, .int c_year, .int c_z, .ref q_t_tape, .int c_bytes, .ref q_t_tx0, .ref q_t_tx1, .ref q_t_waiting, .int c_waits])), (q_t_km, .inl (g.X.cI, 8, .inl c_km)), (q_t_tx0, .inr (3, [.ref q_t_tx0_parts, .ref q_t_tx0_stack, .int (c_tx_size 0)])), (q_t_tx0_parts, .inl (g.X.cI, 60, .inl (c_tx_parts 0))), (q_t_tx0_stack, .inl (g.X.cI, 60, .inl (c_tx_stack 0))), (q_t_tx1, .inr (3, [.ref q_t_tx1_parts, .ref q_t_tx1_stack, .int (c_tx_size 1)])), (q_t_tx1_parts, .inl (g.X.cI, 60, .inl (c_tx_parts 1))), (q_t_tx1_stack, .inl (g.X.cI, 60, .inl (c_tx_stack 1))), (q_a1, .inl (g.X.cI, 40, .inl a1_row))]) : ∀ (n : Nat) (x2 : Int32) (x3 : Int32) (x4 : Int32) (c_tx_stack : Nat → Nat → Int32) (a1_row : Nat → Int32), wp_X5_grow_b13 Q KK2 c_people c_km c_tx_size c_tx_parts n x2 x3 x4 c_tx_stack a1_row → ST g 0 0 13 [(0, .ref q_t), (1, .ref q_a1), (2, .int x2), (3, .int x3), (4, .int x4)] [] [(q_t, .inr (5, [.int c_people, .ref q_t_km, .ref q_t_father, .ref q_t_mother, .ref q_t_from, .ref q_t_spoons, .ref q_t_owed, .int c_year, .int c_z, .ref q_t_tape, .int c_bytes, .ref q_t_tx0, .ref q_t_tx1, .ref q_t_waiting, .int c_waits])), (q_t_km, .inl (g.X.cI, 8, .inl c_km)), (q_t_tx0, .inr (3, [.ref q_t_tx0_parts, .ref q_t_tx0_stack, .int (c_tx_size 0)])), (q_t_tx0_parts, .inl (g.X.cI, 60, .inl (c_tx_parts 0))), (q_t_tx0_stack, .inl (g.X.cI, 60, .inl (c_tx_stack 0))), (q_t_tx1, .inr (3, [.ref q_t_tx1_parts, .ref q_t_tx1_stack, .int (c_tx_size 1)])), (q_t_tx1_parts, .inl (g.X.cI, 60, .inl (c_tx_parts 1))), (q_t_tx1_stack, .inl (g.X.cI, 60, .inl (c_tx_stack 1))), (q_a1, .inl (g.X.cI, 40, .inl a1_row))] := by
  intro n
  induction n with
  | zero => intro x2 x3 x4 c_tx_stack a1_row h; exact False.elim h
  | succ n hK13 =>
    intro x2 x3 x4 c_tx_stack a1_row h
    unfold wp_X5_grow_b13 at h
    refine st_iload G 15 rfl 4 rfl dX5_grow_13 ?_
    refine st_iconst G 16 rfl (5 : Int32) (by decide) dX5_grow_15 ?_
    refine st_icmp_ge G 64 19 rfl dX5_grow_16 rfl (fun c => ?_) (fun c => ?_)
    · have h := h.1 c
      obtain ⟨x3_64, ex3_64⟩ : ∃ y : Int32, y = (x3 + (1 : Int32)) := ⟨_, rfl⟩
      have h := h x3_64 ex3_64
      refine st_iinc G 67 rfl [(3, .int x3_64), (0, .ref q_t), (1, .ref q_a1), (2, .int x2), (4, .int x4)] x3_64 3 rfl (by rw [ex3_64]; rfl) dX5_grow_64 (by decide) rfl ?_
      refine st_goto G 2 dX5_grow_67 rfl ?_
      refine st_L (L' := [(0, .ref q_t), (1, .ref q_a1), (2, .int x2), (3, .int x3_64)]) [1, 2, 3, 0] rfl ?_
      exact hK2 _ _ _ _ h
    have h := h.2 c
    refine st_iload_n G 20 rfl 3 rfl dX5_grow_19 rfl ?_
    refine st_iload G 22 rfl 4 rfl dX5_grow_20 ?_
    refine st_cNio G lk_X5_79 (c_X6_cell g.l g.D g.X x3 x4 _ h) ⟨rfl, rfl, ⟨Nat.le_of_ble_eq_true rfl, Nat.le_of_ble_eq_true rfl⟩, Nat.zero_le _, Nat.zero_le _⟩ 25 rfl [] rfl (by decide) rfl (Nat.le_of_ble_eq_true rfl) rfl dX5_grow_22 (fun r_22 h => ?_)
    refine st_istore G 27 rfl [(5, .int r_22), (0, .ref q_t), (1, .ref q_a1), (2, .int x2), (3, .int x3), (4, .int x4)] dX5_grow_25 (by decide) rfl ?_
    refine st_aload_n G 28 rfl 1 rfl dX5_grow_27 rfl ?_
    refine st_iload_n G 29 rfl 4 rfl dX5_grow_28 rfl ?_
    refine st_iload G 31 rfl 5 rfl dX5_grow_29 ?_
    refine st_aload_n G 32 rfl 2 rfl dX5_grow_31 rfl ?_
    refine st_iload G 34 rfl 0 rfl dX5_grow_32 ?_
    obtain ⟨hin, h⟩ := h
    refine st_iald G 35 rfl 8 rfl hin dX5_grow_34 ?_
    refine st_iload_n G 36 rfl 3 rfl dX5_grow_35 rfl ?_
    refine st_cVi G lk_X5_103 (c_X5_gainOf g.l g.D g.X q_t q_t_km q_t_father q_t_mother q_t_from q_t_spoons q_t_owed q_t_tape q_t_tx0 q_t_tx0_parts q_t_tx0_stack q_t_tx1 q_t_tx1_parts q_t_tx1_stack q_t_waiting c_people c_year c_z c_bytes c_waits c_km c_tx_size c_tx_parts c_tx_stack x3 x4 (a1_row r_22.toNatClampNeg) x2 _ h) ⟨rfl, rfl, ⟨Nat.le_of_ble_eq_true rfl, Nat.le_of_ble_eq_true rfl⟩, Nat.zero_le _, Nat.zero_le _⟩ 39 rfl [0, 1, 2, 3, 4, 5, 6, 7] rfl (by decide) 0 5 rfl rfl rfl (Nat.le_of_ble_eq_true rfl) rfl dX5_grow_36 (fun r_36 w hq => ?_)
    obtain ⟨c_tx_stack_36, h, rfl⟩ := hq
    refine st_wp (ws' := [(q_t, .inr (5, [.int c_people, .ref q_t_km, .ref q_t_father, .ref q_t_mother, .ref q_t_from, .ref q_t_spoons, .ref q_t_owed, .int c_year, .int c_z, .ref q_t_tape, .int c_bytes, .ref q_t_tx0, .ref q_t_tx1, .ref q_t_waiting, .int c_waits])), (q_t_km, .inl (g.X.cI, 8, .inl c_km)), (q_t_tx0, .inr (3, [.ref q_t_tx0_parts, .ref q_t_tx0_stack, .int (c_tx_size 0)])), (q_t_tx0_parts, .inl (g.X.cI, 60, .inl (c_tx_parts 0))), (q_t_tx0_stack, .inl (g.X.cI, 60, .inl (c_tx_stack_36 0))), (q_t_tx1, .inr (3, [.ref q_t_tx1_parts, .ref q_t_tx1_stack, .int (c_tx_size 1)])), (q_t_tx1_parts, .inl (g.X.cI, 60, .inl (c_tx_parts 1))), (q_t_tx1_stack, .inl (g.X.cI, 60, .inl (c_tx_stack_36 1))), (q_a1, .inl (g.X.cI, 40, .inl a1_row))]) 9 [8] (by decide) rfl rfl (by rfl) [(q_a1, .inl (g.X.cI, 40, .inl a1_row))] (by rfl) rfl ?_
    refine st_istore G 41 rfl [(6, .int r_36), (5, .int r_22), (0, .ref q_t), (1, .ref q_a1), (2, .int x2), (3, .int x3), (4, .int x4)] dX5_grow_39 (by decide) rfl ?_
    refine st_aload_n G 42 rfl 3 rfl dX5_grow_41 rfl ?_
    refine st_iload G 44 rfl 1 rfl dX5_grow_42 ?_
    refine st_aload_n G 45 rfl 3 rfl dX5_grow_44 rfl ?_
    refine st_iload G 47 rfl 1 rfl dX5_grow_45 ?_
    obtain ⟨hin, h⟩ := h
    refine st_iald G 48 rfl 8 rfl hin dX5_grow_47 ?_
    refine st_iload G 50 rfl 0 rfl dX5_grow_48 ?_
    refine st_iadd G 51 rfl dX5_grow_50 ?_
    refine st_iconst G 52 rfl (0 : Int32) (by decide) dX5_grow_51 ?_
    refine st_bipush G 54 rfl (99 : Int32) (by decide) dX5_grow_52 ?_
    refine st_cNio G lk_X5_106 (c_X6_held g.l g.D g.X ((a1_row r_22.toNatClampNeg) + r_36) (0 : Int32) (99 : Int32) _ h) ⟨rfl, rfl, ⟨Nat.le_of_ble_eq_true rfl, Nat.le_of_ble_eq_true rfl⟩, Nat.zero_le _, Nat.zero_le _⟩ 57 rfl [] rfl (by decide) rfl (Nat.le_of_ble_eq_true rfl) rfl dX5_grow_54 (fun r_54 h => ?_)
    obtain ⟨hin, h⟩ := h
    obtain ⟨a1_row_57, ea1_row_57⟩ : ∃ y : Nat → Int32, y = upd a1_row r_22.toNatClampNeg r_54 := ⟨_, rfl⟩
    have h := h a1_row_57 ea1_row_57
    refine st_iast G [(q_t, .inr (5, [.int c_people, .ref q_t_km, .ref q_t_father, .ref q_t_mother, .ref q_t_from, .ref q_t_spoons, .ref q_t_owed, .int c_year, .int c_z, .ref q_t_tape, .int c_bytes, .ref q_t_tx0, .ref q_t_tx1, .ref q_t_waiting, .int c_waits])), (q_t_km, .inl (g.X.cI, 8, .inl c_km)), (q_t_tx0, .inr (3, [.ref q_t_tx0_parts, .ref q_t_tx0_stack, .int (c_tx_size 0)])), (q_t_tx0_parts, .inl (g.X.cI, 60, .inl (c_tx_parts 0))), (q_t_tx0_stack, .inl (g.X.cI, 60, .inl (c_tx_stack_36 0))), (q_t_tx1, .inr (3, [.ref q_t_tx1_parts, .ref q_t_tx1_stack, .int (c_tx_size 1)])), (q_t_tx1_parts, .inl (g.X.cI, 60, .inl (c_tx_parts 1))), (q_t_tx1_stack, .inl (g.X.cI, 60, .inl (c_tx_stack_36 1))), (q_a1, .inl (g.X.cI, 40, .inl a1_row_57))] 58 rfl 8 rfl hin (by subst ea1_row_57; rfl) dX5_grow_57 ?_
    obtain ⟨x4_58, ex4_58⟩ : ∃ y : Int32, y = (x4 + (1 : Int32)) := ⟨_, rfl⟩
    have h := h x4_58 ex4_58
    refine st_iinc G 61 rfl [(4, .int x4_58), (6, .int r_36), (5, .int r_22), (0, .ref q_t), (1, .ref q_a1), (2, .int x2), (3, .int x3)] x4_58 6 rfl (by rw [ex4_58]; rfl) dX5_grow_58 (by decide) rfl ?_
    refine st_goto G 13 dX5_grow_61 rfl ?_
    refine st_L (L' := [(0, .ref q_t), (1, .ref q_a1), (2, .int x2), (3, .int x3), (4, .int x4_58)]) [3, 4, 5, 6, 0] rfl ?_
    exact hK13 _ _ _ _ _ h
set_option maxRecDepth 100000 in
set_option maxHeartbeats 4000000 in
theorem b_X5_grow_2 {g : GT} (G : GOOD g RX5 cX5_grow 7 rm_X5_grow) {q_t q_t_km q_t_father q_t_mother q_t_from q_t_spoons q_t_owed q_t_tape q_t_tx0 q_t_tx0_parts q_t_tx0_stack q_t_tx1 q_t_tx1_parts q_t_tx1_stack q_t_waiting q_a1 : Nat} {c_people : Int32} {c_year : Int32} {c_z : Int32} {c_bytes : Int32} {c_waits : Int32} {c_km : Nat → Int32} {c_tx_size : Nat → Int32} {c_tx_parts : Nat → Nat → Int32} {Q : (Nat → Nat → Int32) → (Nat → Int32) → Prop} (R : RETv g cX5_grow 0 0 9 (fun w => ∃ (c_tx_stack' : Nat → Nat → Int32) (a1_row' : Nat → Int32), Q c_tx_stack' a1_row' ∧ w = [(q_t, .inr (5, [.int c_people, .ref q_t_km, .ref q_t_father, .ref q_t_mother, .ref q_t_from, .ref q_t_spoons, .ref q_t_owed, .int c_year, .int c_z, .ref q_t_tape, .int c_bytes, .ref q_t_tx0, .ref q_t_tx1, .ref q_t_waiting, .int c_waits])), (q_t_km, .inl (g.X.cI, 8, .inl c_km)), (q_t_tx0, .inr (3, [.ref q_t_tx0_parts, .ref q_t_tx0_stack, .int (c_tx_size 0)])), (q_t_tx0_parts, .inl (g.X.cI, 60, .inl (c_tx_parts 0))), (q_t_tx0_stack, .inl (g.X.cI, 60, .inl (c_tx_stack' 0))), (q_t_tx1, .inr (3, [.ref q_t_tx1_parts, .ref q_t_tx1_stack, .int (c_tx_size 1)])), (q_t_tx1_parts, .inl (g.X.cI, 60, .inl (c_tx_parts 1))), (q_t_tx1_stack, .inl (g.X.cI, 60, .inl (c_tx_stack' 1))), (q_a1, .inl (g.X.cI, 40, .inl a1_row'))])) : ∀ (n : Nat) (x2 : Int32) (x3 : Int32) (c_tx_stack : Nat → Nat → Int32) (a1_row : Nat → Int32), wp_X5_grow_b2 Q c_people c_km c_tx_size c_tx_parts n x2 x3 c_tx_stack a1_row → ST g 0 0 2 [(0, .ref q_t), (1, .ref q_a1), (2, .int x2), (3, .int x3)] [] [(q_t, .inr (5, [.int c_people, .ref q_t_km, .ref q_t_father, .ref q_t_mother, .ref q_t_from, .ref q_t_spoons, .ref q_t_owed, .int c_year, .int c_z, .ref q_t_tape, .int c_bytes, .ref q_t_tx0, .ref q_t_tx1, .ref q_t_waiting, .int c_waits])), (q_t_km, .inl (g.X.cI, 8, .inl c_km)), (q_t_tx0, .inr (3, [.ref q_t_tx0_parts, .ref q_t_tx0_stack, .int (c_tx_size 0)])), (q_t_tx0_parts, .inl (g.X.cI, 60, .inl (c_tx_parts 0))), (q_t_tx0_stack, .inl (g.X.cI, 60, .inl (c_tx_stack 0))), (q_t_tx1, .inr (3, [.ref q_t_tx1_parts, .ref q_t_tx1_stack, .int (c_tx_size 1)])), (q_t_tx1_parts, .inl (g.X.cI, 60, .inl (c_tx_parts 1))), (q_t_tx1_stack, .inl (g.X.cI, 60, .inl (c_tx_stack 1))), (q_a1, .inl (g.X.cI, 40, .inl a1_row))] := by
  intro n
  induction n with
  | zero => intro x2 x3 c_tx_stack a1_row h; exact False.elim h
  | succ n hK2 =>
    intro x2 x3 c_tx_stack a1_row h
    unfold wp_X5_grow_b2 at h
    refine st_iload_n G 3 rfl 3 rfl dX5_grow_2 rfl ?_
    refine st_aload_n G 4 rfl 0 rfl dX5_grow_3 rfl ?_
    refine st_get G inX5 rfl 0 (by decide) wd_116 7 rfl 0 rfl rfl dX5_grow_4 ?_
    refine st_icmp_ge G 70 10 rfl dX5_grow_7 rfl (fun c => ?_) (fun c => ?_)
    · have h := h.1 c
      exact R _ _ _ dX5_grow_70 (Nat.le_of_ble_eq_true rfl) ⟨_, _, h, rfl⟩
    have h := h.2 c
    refine st_iconst G 11 rfl (0 : Int32) (by decide) dX5_grow_10 ?_
    refine st_istore G 13 rfl [(4, .int (0 : Int32)), (0, .ref q_t), (1, .ref q_a1), (2, .int x2), (3, .int x3)] dX5_grow_11 (by decide) rfl ?_
    refine st_L (L' := [(0, .ref q_t), (1, .ref q_a1), (2, .int x2), (3, .int x3), (4, .int (0 : Int32))]) [1, 2, 3, 4, 0] rfl ?_
    obtain ⟨n, h⟩ := h
    exact b_X5_grow_13 G R hK2 n _ _ _ _ _ h
set_option maxRecDepth 100000 in
set_option maxHeartbeats 4000000 in
theorem b_X5_grow_e {g : GT} (G : GOOD g RX5 cX5_grow 7 rm_X5_grow) {q_t q_t_km q_t_father q_t_mother q_t_from q_t_spoons q_t_owed q_t_tape q_t_tx0 q_t_tx0_parts q_t_tx0_stack q_t_tx1 q_t_tx1_parts q_t_tx1_stack q_t_waiting q_a1 : Nat} {c_people : Int32} {c_year : Int32} {c_z : Int32} {c_bytes : Int32} {c_waits : Int32} {c_km : Nat → Int32} {c_tx_size : Nat → Int32} {c_tx_parts : Nat → Nat → Int32} {c_tx_stack : Nat → Nat → Int32} {a1_row : Nat → Int32} {x2 : Int32} {Q : (Nat → Nat → Int32) → (Nat → Int32) → Prop} (R : RETv g cX5_grow 0 0 9 (fun w => ∃ (c_tx_stack' : Nat → Nat → Int32) (a1_row' : Nat → Int32), Q c_tx_stack' a1_row' ∧ w = [(q_t, .inr (5, [.int c_people, .ref q_t_km, .ref q_t_father, .ref q_t_mother, .ref q_t_from, .ref q_t_spoons, .ref q_t_owed, .int c_year, .int c_z, .ref q_t_tape, .int c_bytes, .ref q_t_tx0, .ref q_t_tx1, .ref q_t_waiting, .int c_waits])), (q_t_km, .inl (g.X.cI, 8, .inl c_km)), (q_t_tx0, .inr (3, [.ref q_t_tx0_parts, .ref q_t_tx0_stack, .int (c_tx_size 0)])), (q_t_tx0_parts, .inl (g.X.cI, 60, .inl (c_tx_parts 0))), (q_t_tx0_stack, .inl (g.X.cI, 60, .inl (c_tx_stack' 0))), (q_t_tx1, .inr (3, [.ref q_t_tx1_parts, .ref q_t_tx1_stack, .int (c_tx_size 1)])), (q_t_tx1_parts, .inl (g.X.cI, 60, .inl (c_tx_parts 1))), (q_t_tx1_stack, .inl (g.X.cI, 60, .inl (c_tx_stack' 1))), (q_a1, .inl (g.X.cI, 40, .inl a1_row'))])) (h : wp_X5_grow x2 c_people c_km c_tx_size c_tx_parts c_tx_stack a1_row Q) : ST g 0 0 0 [(0, .ref q_t), (1, .ref q_a1), (2, .int x2)] [] [(q_t, .inr (5, [.int c_people, .ref q_t_km, .ref q_t_father, .ref q_t_mother, .ref q_t_from, .ref q_t_spoons, .ref q_t_owed, .int c_year, .int c_z, .ref q_t_tape, .int c_bytes, .ref q_t_tx0, .ref q_t_tx1, .ref q_t_waiting, .int c_waits])), (q_t_km, .inl (g.X.cI, 8, .inl c_km)), (q_t_tx0, .inr (3, [.ref q_t_tx0_parts, .ref q_t_tx0_stack, .int (c_tx_size 0)])), (q_t_tx0_parts, .inl (g.X.cI, 60, .inl (c_tx_parts 0))), (q_t_tx0_stack, .inl (g.X.cI, 60, .inl (c_tx_stack 0))), (q_t_tx1, .inr (3, [.ref q_t_tx1_parts, .ref q_t_tx1_stack, .int (c_tx_size 1)])), (q_t_tx1_parts, .inl (g.X.cI, 60, .inl (c_tx_parts 1))), (q_t_tx1_stack, .inl (g.X.cI, 60, .inl (c_tx_stack 1))), (q_a1, .inl (g.X.cI, 40, .inl a1_row))] := by
  unfold wp_X5_grow at h
  refine st_iconst G 1 rfl (0 : Int32) (by decide) dX5_grow_0 ?_
  refine st_istore_n G 2 rfl [(3, .int (0 : Int32)), (0, .ref q_t), (1, .ref q_a1), (2, .int x2)] dX5_grow_1 rfl (by decide) rfl ?_
  refine st_L (L' := [(0, .ref q_t), (1, .ref q_a1), (2, .int x2), (3, .int (0 : Int32))]) [1, 2, 3, 0] rfl ?_
  obtain ⟨n, h⟩ := h
  exact b_X5_grow_2 G R n _ _ _ _ h
set_option maxRecDepth 100000 in
set_option maxHeartbeats 4000000 in
theorem c_X5_grow (l : Launch) (D : va_G) (X : XT) (q_t q_t_km q_t_father q_t_mother q_t_from q_t_spoons q_t_owed q_t_tape q_t_tx0 q_t_tx0_parts q_t_tx0_stack q_t_tx1 q_t_tx1_parts q_t_tx1_stack q_t_waiting q_a1 : Nat) (c_people : Int32) (c_year : Int32) (c_z : Int32) (c_bytes : Int32) (c_waits : Int32) (c_km : Nat → Int32) (c_tx_size : Nat → Int32) (c_tx_parts : Nat → Nat → Int32) (c_tx_stack : Nat → Nat → Int32) (a1_row : Nat → Int32) (x2 : Int32) (Q : (Nat → Nat → Int32) → (Nat → Int32) → Prop) (h : wp_X5_grow x2 c_people c_km c_tx_size c_tx_parts c_tx_stack a1_row Q) : CTv l D X yX5_grow cX5_grow 7 rm_X5_grow 0 0 [.ref q_t, .ref q_a1, .int x2] [(q_t, .inr (5, [.int c_people, .ref q_t_km, .ref q_t_father, .ref q_t_mother, .ref q_t_from, .ref q_t_spoons, .ref q_t_owed, .int c_year, .int c_z, .ref q_t_tape, .int c_bytes, .ref q_t_tx0, .ref q_t_tx1, .ref q_t_waiting, .int c_waits])), (q_t_km, .inl (X.cI, 8, .inl c_km)), (q_t_tx0, .inr (3, [.ref q_t_tx0_parts, .ref q_t_tx0_stack, .int (c_tx_size 0)])), (q_t_tx0_parts, .inl (X.cI, 60, .inl (c_tx_parts 0))), (q_t_tx0_stack, .inl (X.cI, 60, .inl (c_tx_stack 0))), (q_t_tx1, .inr (3, [.ref q_t_tx1_parts, .ref q_t_tx1_stack, .int (c_tx_size 1)])), (q_t_tx1_parts, .inl (X.cI, 60, .inl (c_tx_parts 1))), (q_t_tx1_stack, .inl (X.cI, 60, .inl (c_tx_stack 1))), (q_a1, .inl (X.cI, 40, .inl a1_row))] (fun w => ∃ (c_tx_stack' : Nat → Nat → Int32) (a1_row' : Nat → Int32), Q c_tx_stack' a1_row' ∧ w = [(q_t, .inr (5, [.int c_people, .ref q_t_km, .ref q_t_father, .ref q_t_mother, .ref q_t_from, .ref q_t_spoons, .ref q_t_owed, .int c_year, .int c_z, .ref q_t_tape, .int c_bytes, .ref q_t_tx0, .ref q_t_tx1, .ref q_t_waiting, .int c_waits])), (q_t_km, .inl (X.cI, 8, .inl c_km)), (q_t_tx0, .inr (3, [.ref q_t_tx0_parts, .ref q_t_tx0_stack, .int (c_tx_size 0)])), (q_t_tx0_parts, .inl (X.cI, 60, .inl (c_tx_parts 0))), (q_t_tx0_stack, .inl (X.cI, 60, .inl (c_tx_stack' 0))), (q_t_tx1, .inr (3, [.ref q_t_tx1_parts, .ref q_t_tx1_stack, .int (c_tx_size 1)])), (q_t_tx1_parts, .inl (X.cI, 60, .inl (c_tx_parts 1))), (q_t_tx1_stack, .inl (X.cI, 60, .inl (c_tx_stack' 1))), (q_a1, .inl (X.cI, 40, .inl a1_row'))]) :=
  ct_v (by decide) (Nat.le_of_ble_eq_true rfl) (fun g hl hD hX G _ R => by subst hl; subst hD; subst hX; exact b_X5_grow_e G R h)
set_option maxRecDepth 100000 in
set_option maxHeartbeats 4000000 in
theorem b_X5_goBy_e {g : GT} (G : GOOD g RX5 cX5_goBy 1 rm_X5_goBy) {q_t q_t_km q_t_father q_t_mother q_t_from q_t_spoons q_t_owed q_t_tape q_t_tx0 q_t_tx0_parts q_t_tx0_stack q_t_tx1 q_t_tx1_parts q_t_tx1_stack q_t_waiting : Nat} {c_people : Int32} {c_year : Int32} {c_z : Int32} {c_bytes : Int32} {c_waits : Int32} {c_km : Nat → Int32} {c_spoons : Nat → Int32} {c_tx_size : Nat → Int32} {c_tx_parts : Nat → Nat → Int32} {c_tx_stack : Nat → Nat → Int32} {Q : (Int32) → (Nat → Int32) → (Nat → Nat → Int32) → Prop} (R : RETv g cX5_goBy 0 0 9 (fun w => ∃ (c_year' : Int32) (c_spoons' : Nat → Int32) (c_tx_stack' : Nat → Nat → Int32), Q c_year' c_spoons' c_tx_stack' ∧ w = [(q_t, .inr (5, [.int c_people, .ref q_t_km, .ref q_t_father, .ref q_t_mother, .ref q_t_from, .ref q_t_spoons, .ref q_t_owed, .int c_year', .int c_z, .ref q_t_tape, .int c_bytes, .ref q_t_tx0, .ref q_t_tx1, .ref q_t_waiting, .int c_waits])), (q_t_km, .inl (g.X.cI, 8, .inl c_km)), (q_t_spoons, .inl (g.X.cI, 40, .inl c_spoons')), (q_t_tx0, .inr (3, [.ref q_t_tx0_parts, .ref q_t_tx0_stack, .int (c_tx_size 0)])), (q_t_tx0_parts, .inl (g.X.cI, 60, .inl (c_tx_parts 0))), (q_t_tx0_stack, .inl (g.X.cI, 60, .inl (c_tx_stack' 0))), (q_t_tx1, .inr (3, [.ref q_t_tx1_parts, .ref q_t_tx1_stack, .int (c_tx_size 1)])), (q_t_tx1_parts, .inl (g.X.cI, 60, .inl (c_tx_parts 1))), (q_t_tx1_stack, .inl (g.X.cI, 60, .inl (c_tx_stack' 1)))])) (h : wp_X5_goBy c_people c_year c_km c_spoons c_tx_size c_tx_parts c_tx_stack Q) : ST g 0 0 0 [(0, .ref q_t)] [] [(q_t, .inr (5, [.int c_people, .ref q_t_km, .ref q_t_father, .ref q_t_mother, .ref q_t_from, .ref q_t_spoons, .ref q_t_owed, .int c_year, .int c_z, .ref q_t_tape, .int c_bytes, .ref q_t_tx0, .ref q_t_tx1, .ref q_t_waiting, .int c_waits])), (q_t_km, .inl (g.X.cI, 8, .inl c_km)), (q_t_spoons, .inl (g.X.cI, 40, .inl c_spoons)), (q_t_tx0, .inr (3, [.ref q_t_tx0_parts, .ref q_t_tx0_stack, .int (c_tx_size 0)])), (q_t_tx0_parts, .inl (g.X.cI, 60, .inl (c_tx_parts 0))), (q_t_tx0_stack, .inl (g.X.cI, 60, .inl (c_tx_stack 0))), (q_t_tx1, .inr (3, [.ref q_t_tx1_parts, .ref q_t_tx1_stack, .int (c_tx_size 1)])), (q_t_tx1_parts, .inl (g.X.cI, 60, .inl (c_tx_parts 1))), (q_t_tx1_stack, .inl (g.X.cI, 60, .inl (c_tx_stack 1)))] := by
  unfold wp_X5_goBy at h
  refine st_aload_n G 1 rfl 0 rfl dX5_goBy_0 rfl ?_
  refine st_aload_n G 2 rfl 0 rfl dX5_goBy_1 rfl ?_
  refine st_get G inX5 rfl 5 (by decide) wd_43 5 rfl 0 rfl rfl dX5_goBy_2 ?_
  refine st_aload_n G 6 rfl 0 rfl dX5_goBy_5 rfl ?_
  refine st_get G inX5 rfl 7 (by decide) wd_565 9 rfl 0 rfl rfl dX5_goBy_6 ?_
  refine st_cVv G lk_X5_109 (c_X5_grow g.l g.D g.X q_t q_t_km q_t_father q_t_mother q_t_from q_t_spoons q_t_owed q_t_tape q_t_tx0 q_t_tx0_parts q_t_tx0_stack q_t_tx1 q_t_tx1_parts q_t_tx1_stack q_t_waiting q_t_spoons c_people c_year c_z c_bytes c_waits c_km c_tx_size c_tx_parts c_tx_stack c_spoons c_year _ h) ⟨rfl, rfl, ⟨Nat.le_of_ble_eq_true rfl, Nat.le_of_ble_eq_true rfl⟩, Nat.zero_le _, Nat.zero_le _⟩ 12 rfl [0, 1, 3, 4, 5, 6, 7, 8, 2] rfl (by decide) 0 5 rfl rfl rfl (Nat.le_of_ble_eq_true rfl) rfl dX5_goBy_9 (fun w hq => ?_)
  obtain ⟨c_tx_stack_9, c_spoons_9, h, rfl⟩ := hq
  refine st_wp (ws' := [(q_t, .inr (5, [.int c_people, .ref q_t_km, .ref q_t_father, .ref q_t_mother, .ref q_t_from, .ref q_t_spoons, .ref q_t_owed, .int c_year, .int c_z, .ref q_t_tape, .int c_bytes, .ref q_t_tx0, .ref q_t_tx1, .ref q_t_waiting, .int c_waits])), (q_t_km, .inl (g.X.cI, 8, .inl c_km)), (q_t_spoons, .inl (g.X.cI, 40, .inl c_spoons_9)), (q_t_tx0, .inr (3, [.ref q_t_tx0_parts, .ref q_t_tx0_stack, .int (c_tx_size 0)])), (q_t_tx0_parts, .inl (g.X.cI, 60, .inl (c_tx_parts 0))), (q_t_tx0_stack, .inl (g.X.cI, 60, .inl (c_tx_stack_9 0))), (q_t_tx1, .inr (3, [.ref q_t_tx1_parts, .ref q_t_tx1_stack, .int (c_tx_size 1)])), (q_t_tx1_parts, .inl (g.X.cI, 60, .inl (c_tx_parts 1))), (q_t_tx1_stack, .inl (g.X.cI, 60, .inl (c_tx_stack_9 1)))]) 9 [] (by decide) rfl rfl (by rfl) [] (by rfl) rfl ?_
  refine st_aload_n G 13 rfl 0 rfl dX5_goBy_12 rfl ?_
  refine st_dup G 14 rfl dX5_goBy_13 rfl ?_
  refine st_get G inX5 rfl 7 (by decide) wd_565 17 rfl 0 rfl rfl dX5_goBy_14 ?_
  refine st_iconst G 18 rfl (1 : Int32) (by decide) dX5_goBy_17 ?_
  refine st_iadd G 19 rfl dX5_goBy_18 ?_
  refine st_topi (fun c_year_19 ec_year_19 => ?_)
  have h := h c_year_19 ec_year_19
  refine st_put G inX5 tyX5 tyX5_ok nmX5 rfl 7 (by decide) wd_565 rfl [(q_t, .inr (5, [.int c_people, .ref q_t_km, .ref q_t_father, .ref q_t_mother, .ref q_t_from, .ref q_t_spoons, .ref q_t_owed, .int c_year_19, .int c_z, .ref q_t_tape, .int c_bytes, .ref q_t_tx0, .ref q_t_tx1, .ref q_t_waiting, .int c_waits])), (q_t_km, .inl (g.X.cI, 8, .inl c_km)), (q_t_spoons, .inl (g.X.cI, 40, .inl c_spoons_9)), (q_t_tx0, .inr (3, [.ref q_t_tx0_parts, .ref q_t_tx0_stack, .int (c_tx_size 0)])), (q_t_tx0_parts, .inl (g.X.cI, 60, .inl (c_tx_parts 0))), (q_t_tx0_stack, .inl (g.X.cI, 60, .inl (c_tx_stack_9 0))), (q_t_tx1, .inr (3, [.ref q_t_tx1_parts, .ref q_t_tx1_stack, .int (c_tx_size 1)])), (q_t_tx1_parts, .inl (g.X.cI, 60, .inl (c_tx_parts 1))), (q_t_tx1_stack, .inl (g.X.cI, 60, .inl (c_tx_stack_9 1)))] 22 rfl 0 rfl rfl rfl (Nat.le_of_ble_eq_true rfl) rfl dX5_goBy_19 ?_
  exact R _ _ _ dX5_goBy_22 (Nat.le_of_ble_eq_true rfl) ⟨_, _, _, h, rfl⟩
set_option maxRecDepth 100000 in
set_option maxHeartbeats 4000000 in
theorem c_X5_goBy (l : Launch) (D : va_G) (X : XT) (q_t q_t_km q_t_father q_t_mother q_t_from q_t_spoons q_t_owed q_t_tape q_t_tx0 q_t_tx0_parts q_t_tx0_stack q_t_tx1 q_t_tx1_parts q_t_tx1_stack q_t_waiting : Nat) (c_people : Int32) (c_year : Int32) (c_z : Int32) (c_bytes : Int32) (c_waits : Int32) (c_km : Nat → Int32) (c_spoons : Nat → Int32) (c_tx_size : Nat → Int32) (c_tx_parts : Nat → Nat → Int32) (c_tx_stack : Nat → Nat → Int32) (Q : (Int32) → (Nat → Int32) → (Nat → Nat → Int32) → Prop) (h : wp_X5_goBy c_people c_year c_km c_spoons c_tx_size c_tx_parts c_tx_stack Q) : CTv l D X yX5_goBy cX5_goBy 1 rm_X5_goBy 0 0 [.ref q_t] [(q_t, .inr (5, [.int c_people, .ref q_t_km, .ref q_t_father, .ref q_t_mother, .ref q_t_from, .ref q_t_spoons, .ref q_t_owed, .int c_year, .int c_z, .ref q_t_tape, .int c_bytes, .ref q_t_tx0, .ref q_t_tx1, .ref q_t_waiting, .int c_waits])), (q_t_km, .inl (X.cI, 8, .inl c_km)), (q_t_spoons, .inl (X.cI, 40, .inl c_spoons)), (q_t_tx0, .inr (3, [.ref q_t_tx0_parts, .ref q_t_tx0_stack, .int (c_tx_size 0)])), (q_t_tx0_parts, .inl (X.cI, 60, .inl (c_tx_parts 0))), (q_t_tx0_stack, .inl (X.cI, 60, .inl (c_tx_stack 0))), (q_t_tx1, .inr (3, [.ref q_t_tx1_parts, .ref q_t_tx1_stack, .int (c_tx_size 1)])), (q_t_tx1_parts, .inl (X.cI, 60, .inl (c_tx_parts 1))), (q_t_tx1_stack, .inl (X.cI, 60, .inl (c_tx_stack 1)))] (fun w => ∃ (c_year' : Int32) (c_spoons' : Nat → Int32) (c_tx_stack' : Nat → Nat → Int32), Q c_year' c_spoons' c_tx_stack' ∧ w = [(q_t, .inr (5, [.int c_people, .ref q_t_km, .ref q_t_father, .ref q_t_mother, .ref q_t_from, .ref q_t_spoons, .ref q_t_owed, .int c_year', .int c_z, .ref q_t_tape, .int c_bytes, .ref q_t_tx0, .ref q_t_tx1, .ref q_t_waiting, .int c_waits])), (q_t_km, .inl (X.cI, 8, .inl c_km)), (q_t_spoons, .inl (X.cI, 40, .inl c_spoons')), (q_t_tx0, .inr (3, [.ref q_t_tx0_parts, .ref q_t_tx0_stack, .int (c_tx_size 0)])), (q_t_tx0_parts, .inl (X.cI, 60, .inl (c_tx_parts 0))), (q_t_tx0_stack, .inl (X.cI, 60, .inl (c_tx_stack' 0))), (q_t_tx1, .inr (3, [.ref q_t_tx1_parts, .ref q_t_tx1_stack, .int (c_tx_size 1)])), (q_t_tx1_parts, .inl (X.cI, 60, .inl (c_tx_parts 1))), (q_t_tx1_stack, .inl (X.cI, 60, .inl (c_tx_stack' 1)))]) :=
  ct_v (by decide) (Nat.le_of_ble_eq_true rfl) (fun g hl hD hX G _ R => by subst hl; subst hD; subst hX; exact b_X5_goBy_e G R h)
set_option maxRecDepth 100000 in
set_option maxHeartbeats 4000000 in
theorem b_X6_years_39 {g : GT} (G : GOOD g RX6 cX6_years 3 rm_X6_years) {q_t q_t_w q_t_w_km q_t_w_father q_t_w_mother q_t_w_from q_t_w_spoons q_t_w_owed q_t_w_tape q_t_w_tx0 q_t_w_tx0_parts q_t_w_tx0_stack q_t_w_tx1 q_t_w_tx1_parts q_t_w_tx1_stack q_t_w_waiting q_t_k q_t_errors q_t_sheets q_t_r q_t_th q_t_sp : Nat} {c_images : Int32} {w_people : Int32} {w_z : Int32} {w_bytes : Int32} {w_waits : Int32} {w_km : Nat → Int32} {w_tx_size : Nat → Int32} {w_tx_parts : Nat → Nat → Int32} {Q : Int32 → (Int32) → (Nat → Int32) → (Nat → Nat → Int32) → (Nat → Int32) → Prop} (R : RETi g cX6_years 11 (fun (r : Int32) w => ∃ (w_year' : Int32) (w_spoons' : Nat → Int32) (w_tx_stack' : Nat → Nat → Int32) (c_errors' : Nat → Int32), Q r w_year' w_spoons' w_tx_stack' c_errors' ∧ w = [(q_t, .inr (6, [.ref q_t_w, .ref q_t_k, .int c_images, .ref q_t_errors, .ref q_t_sheets, .ref q_t_r, .ref q_t_th, .ref q_t_sp])), (q_t_w, .inr (5, [.int w_people, .ref q_t_w_km, .ref q_t_w_father, .ref q_t_w_mother, .ref q_t_w_from, .ref q_t_w_spoons, .ref q_t_w_owed, .int w_year', .int w_z, .ref q_t_w_tape, .int w_bytes, .ref q_t_w_tx0, .ref q_t_w_tx1, .ref q_t_w_waiting, .int w_waits])), (q_t_w_km, .inl (g.X.cI, 8, .inl w_km)), (q_t_w_spoons, .inl (g.X.cI, 40, .inl w_spoons')), (q_t_w_tx0, .inr (3, [.ref q_t_w_tx0_parts, .ref q_t_w_tx0_stack, .int (w_tx_size 0)])), (q_t_w_tx0_parts, .inl (g.X.cI, 60, .inl (w_tx_parts 0))), (q_t_w_tx0_stack, .inl (g.X.cI, 60, .inl (w_tx_stack' 0))), (q_t_w_tx1, .inr (3, [.ref q_t_w_tx1_parts, .ref q_t_w_tx1_stack, .int (w_tx_size 1)])), (q_t_w_tx1_parts, .inl (g.X.cI, 60, .inl (w_tx_parts 1))), (q_t_w_tx1_stack, .inl (g.X.cI, 60, .inl (w_tx_stack' 1))), (q_t_errors, .inl (g.X.cI, 7, .inl c_errors'))])) : ∀ (n : Nat) (x1 : Int32) (x2 : Int32) (w_year : Int32) (w_spoons : Nat → Int32) (w_tx_stack : Nat → Nat → Int32) (c_errors : Nat → Int32), wp_X6_years_b39 Q w_people w_km w_tx_size w_tx_parts n x1 x2 w_year w_spoons w_tx_stack c_errors → ST g 0 0 39 [(0, .ref q_t), (1, .int x1), (2, .int x2)] [] [(q_t, .inr (6, [.ref q_t_w, .ref q_t_k, .int c_images, .ref q_t_errors, .ref q_t_sheets, .ref q_t_r, .ref q_t_th, .ref q_t_sp])), (q_t_w, .inr (5, [.int w_people, .ref q_t_w_km, .ref q_t_w_father, .ref q_t_w_mother, .ref q_t_w_from, .ref q_t_w_spoons, .ref q_t_w_owed, .int w_year, .int w_z, .ref q_t_w_tape, .int w_bytes, .ref q_t_w_tx0, .ref q_t_w_tx1, .ref q_t_w_waiting, .int w_waits])), (q_t_w_km, .inl (g.X.cI, 8, .inl w_km)), (q_t_w_spoons, .inl (g.X.cI, 40, .inl w_spoons)), (q_t_w_tx0, .inr (3, [.ref q_t_w_tx0_parts, .ref q_t_w_tx0_stack, .int (w_tx_size 0)])), (q_t_w_tx0_parts, .inl (g.X.cI, 60, .inl (w_tx_parts 0))), (q_t_w_tx0_stack, .inl (g.X.cI, 60, .inl (w_tx_stack 0))), (q_t_w_tx1, .inr (3, [.ref q_t_w_tx1_parts, .ref q_t_w_tx1_stack, .int (w_tx_size 1)])), (q_t_w_tx1_parts, .inl (g.X.cI, 60, .inl (w_tx_parts 1))), (q_t_w_tx1_stack, .inl (g.X.cI, 60, .inl (w_tx_stack 1))), (q_t_errors, .inl (g.X.cI, 7, .inl c_errors))] := by
  intro n
  induction n with
  | zero => intro x1 x2 w_year w_spoons w_tx_stack c_errors h; exact False.elim h
  | succ n hK39 =>
    intro x1 x2 w_year w_spoons w_tx_stack c_errors h
    unfold wp_X6_years_b39 at h
    refine st_iload_n G 40 rfl 2 rfl dX6_years_39 rfl ?_
    refine st_iload_n G 41 rfl 1 rfl dX6_years_40 rfl ?_
    refine st_icmp_ge G 57 44 rfl dX6_years_41 rfl (fun c => ?_) (fun c => ?_)
    · have h := h.1 c
      refine st_aload_n G 58 rfl 0 rfl dX6_years_57 rfl ?_
      refine st_get G inX6 rfl 0 (by decide) wd_16 61 rfl 0 rfl rfl dX6_years_58 ?_
      refine st_get G inX5 rfl 7 (by decide) wd_333 64 rfl 1 rfl rfl dX6_years_61 ?_
      exact R _ _ _ _ dX6_years_64 (Nat.le_of_ble_eq_true rfl) ⟨_, _, _, _, h, rfl⟩
    have h := h.2 c
    refine st_aload_n G 45 rfl 0 rfl dX6_years_44 rfl ?_
    refine st_get G inX6 rfl 0 (by decide) wd_16 48 rfl 0 rfl rfl dX6_years_45 ?_
    refine st_cVv G lk_X6_181 (c_X5_goBy g.l g.D g.X q_t_w q_t_w_km q_t_w_father q_t_w_mother q_t_w_from q_t_w_spoons q_t_w_owed q_t_w_tape q_t_w_tx0 q_t_w_tx0_parts q_t_w_tx0_stack q_t_w_tx1 q_t_w_tx1_parts q_t_w_tx1_stack q_t_w_waiting w_people w_year w_z w_bytes w_waits w_km w_spoons w_tx_size w_tx_parts w_tx_stack _ h) ⟨rfl, rfl, ⟨Nat.le_of_ble_eq_true rfl, Nat.le_of_ble_eq_true rfl⟩, Nat.zero_le _, Nat.zero_le _⟩ 51 rfl [1, 2, 3, 4, 5, 6, 7, 8, 9] rfl (by decide) 0 5 rfl rfl rfl (Nat.le_of_ble_eq_true rfl) rfl dX6_years_48 (fun w hq => ?_)
    obtain ⟨w_year_48, w_spoons_48, w_tx_stack_48, h, rfl⟩ := hq
    refine st_wp (ws' := [(q_t, .inr (6, [.ref q_t_w, .ref q_t_k, .int c_images, .ref q_t_errors, .ref q_t_sheets, .ref q_t_r, .ref q_t_th, .ref q_t_sp])), (q_t_w, .inr (5, [.int w_people, .ref q_t_w_km, .ref q_t_w_father, .ref q_t_w_mother, .ref q_t_w_from, .ref q_t_w_spoons, .ref q_t_w_owed, .int w_year_48, .int w_z, .ref q_t_w_tape, .int w_bytes, .ref q_t_w_tx0, .ref q_t_w_tx1, .ref q_t_w_waiting, .int w_waits])), (q_t_w_km, .inl (g.X.cI, 8, .inl w_km)), (q_t_w_spoons, .inl (g.X.cI, 40, .inl w_spoons_48)), (q_t_w_tx0, .inr (3, [.ref q_t_w_tx0_parts, .ref q_t_w_tx0_stack, .int (w_tx_size 0)])), (q_t_w_tx0_parts, .inl (g.X.cI, 60, .inl (w_tx_parts 0))), (q_t_w_tx0_stack, .inl (g.X.cI, 60, .inl (w_tx_stack_48 0))), (q_t_w_tx1, .inr (3, [.ref q_t_w_tx1_parts, .ref q_t_w_tx1_stack, .int (w_tx_size 1)])), (q_t_w_tx1_parts, .inl (g.X.cI, 60, .inl (w_tx_parts 1))), (q_t_w_tx1_stack, .inl (g.X.cI, 60, .inl (w_tx_stack_48 1))), (q_t_errors, .inl (g.X.cI, 7, .inl c_errors))]) 11 [0, 10] (by decide) rfl rfl (by rfl) [(q_t, .inr (6, [.ref q_t_w, .ref q_t_k, .int c_images, .ref q_t_errors, .ref q_t_sheets, .ref q_t_r, .ref q_t_th, .ref q_t_sp])), (q_t_errors, .inl (g.X.cI, 7, .inl c_errors))] (by rfl) rfl ?_
    obtain ⟨x2_51, ex2_51⟩ : ∃ y : Int32, y = (x2 + (1 : Int32)) := ⟨_, rfl⟩
    have h := h x2_51 ex2_51
    refine st_iinc G 54 rfl [(2, .int x2_51), (0, .ref q_t), (1, .int x1)] x2_51 2 rfl (by rw [ex2_51]; rfl) dX6_years_51 (by decide) rfl ?_
    refine st_goto G 39 dX6_years_54 rfl ?_
    refine st_L (L' := [(0, .ref q_t), (1, .int x1), (2, .int x2_51)]) [1, 2, 0] rfl ?_
    exact hK39 _ _ _ _ _ _ h
set_option maxRecDepth 100000 in
set_option maxHeartbeats 4000000 in
theorem b_X6_years_e {g : GT} (G : GOOD g RX6 cX6_years 3 rm_X6_years) {q_t q_t_w q_t_w_km q_t_w_father q_t_w_mother q_t_w_from q_t_w_spoons q_t_w_owed q_t_w_tape q_t_w_tx0 q_t_w_tx0_parts q_t_w_tx0_stack q_t_w_tx1 q_t_w_tx1_parts q_t_w_tx1_stack q_t_w_waiting q_t_k q_t_errors q_t_sheets q_t_r q_t_th q_t_sp : Nat} {c_images : Int32} {w_people : Int32} {w_year : Int32} {w_z : Int32} {w_bytes : Int32} {w_waits : Int32} {w_km : Nat → Int32} {w_spoons : Nat → Int32} {w_tx_size : Nat → Int32} {w_tx_parts : Nat → Nat → Int32} {w_tx_stack : Nat → Nat → Int32} {c_errors : Nat → Int32} {x1 : Int32} {Q : Int32 → (Int32) → (Nat → Int32) → (Nat → Nat → Int32) → (Nat → Int32) → Prop} (R : RETi g cX6_years 11 (fun (r : Int32) w => ∃ (w_year' : Int32) (w_spoons' : Nat → Int32) (w_tx_stack' : Nat → Nat → Int32) (c_errors' : Nat → Int32), Q r w_year' w_spoons' w_tx_stack' c_errors' ∧ w = [(q_t, .inr (6, [.ref q_t_w, .ref q_t_k, .int c_images, .ref q_t_errors, .ref q_t_sheets, .ref q_t_r, .ref q_t_th, .ref q_t_sp])), (q_t_w, .inr (5, [.int w_people, .ref q_t_w_km, .ref q_t_w_father, .ref q_t_w_mother, .ref q_t_w_from, .ref q_t_w_spoons, .ref q_t_w_owed, .int w_year', .int w_z, .ref q_t_w_tape, .int w_bytes, .ref q_t_w_tx0, .ref q_t_w_tx1, .ref q_t_w_waiting, .int w_waits])), (q_t_w_km, .inl (g.X.cI, 8, .inl w_km)), (q_t_w_spoons, .inl (g.X.cI, 40, .inl w_spoons')), (q_t_w_tx0, .inr (3, [.ref q_t_w_tx0_parts, .ref q_t_w_tx0_stack, .int (w_tx_size 0)])), (q_t_w_tx0_parts, .inl (g.X.cI, 60, .inl (w_tx_parts 0))), (q_t_w_tx0_stack, .inl (g.X.cI, 60, .inl (w_tx_stack' 0))), (q_t_w_tx1, .inr (3, [.ref q_t_w_tx1_parts, .ref q_t_w_tx1_stack, .int (w_tx_size 1)])), (q_t_w_tx1_parts, .inl (g.X.cI, 60, .inl (w_tx_parts 1))), (q_t_w_tx1_stack, .inl (g.X.cI, 60, .inl (w_tx_stack' 1))), (q_t_errors, .inl (g.X.cI, 7, .inl c_errors'))])) (h : wp_X6_years x1 w_people w_year w_km w_spoons w_tx_size w_tx_parts w_tx_stack c_errors Q) : ST g 0 0 0 [(0, .ref q_t), (1, .int x1)] [] [(q_t, .inr (6, [.ref q_t_w, .ref q_t_k, .int c_images, .ref q_t_errors, .ref q_t_sheets, .ref q_t_r, .ref q_t_th, .ref q_t_sp])), (q_t_w, .inr (5, [.int w_people, .ref q_t_w_km, .ref q_t_w_father, .ref q_t_w_mother, .ref q_t_w_from, .ref q_t_w_spoons, .ref q_t_w_owed, .int w_year, .int w_z, .ref q_t_w_tape, .int w_bytes, .ref q_t_w_tx0, .ref q_t_w_tx1, .ref q_t_w_waiting, .int w_waits])), (q_t_w_km, .inl (g.X.cI, 8, .inl w_km)), (q_t_w_spoons, .inl (g.X.cI, 40, .inl w_spoons)), (q_t_w_tx0, .inr (3, [.ref q_t_w_tx0_parts, .ref q_t_w_tx0_stack, .int (w_tx_size 0)])), (q_t_w_tx0_parts, .inl (g.X.cI, 60, .inl (w_tx_parts 0))), (q_t_w_tx0_stack, .inl (g.X.cI, 60, .inl (w_tx_stack 0))), (q_t_w_tx1, .inr (3, [.ref q_t_w_tx1_parts, .ref q_t_w_tx1_stack, .int (w_tx_size 1)])), (q_t_w_tx1_parts, .inl (g.X.cI, 60, .inl (w_tx_parts 1))), (q_t_w_tx1_stack, .inl (g.X.cI, 60, .inl (w_tx_stack 1))), (q_t_errors, .inl (g.X.cI, 7, .inl c_errors))] := by
  unfold wp_X6_years at h
  refine st_iload_n G 1 rfl 1 rfl dX6_years_0 rfl ?_
  refine st_iconst G 2 rfl (1 : Int32) (by decide) dX6_years_1 ?_
  refine st_bipush G 4 rfl (60 : Int32) (by decide) dX6_years_2 ?_
  refine st_cSio G lk_X6_115 (c_X6_notWithin g.l g.D g.X x1 (1 : Int32) (60 : Int32) _ h) ⟨rfl, rfl, ⟨Nat.le_of_ble_eq_true rfl, Nat.le_of_ble_eq_true rfl⟩, Nat.zero_le _, Nat.zero_le _⟩ 7 rfl [] rfl (by decide) rfl (Nat.le_of_ble_eq_true rfl) rfl dX6_years_4 (fun r_4 h => ?_)
  refine st_if_eq G 16 10 rfl dX6_years_7 rfl (fun c => ?_) (fun c => ?_)
  · have h := h.1 c
    refine st_aload_n G 17 rfl 0 rfl dX6_years_16 rfl ?_
    refine st_get G inX6 rfl 0 (by decide) wd_16 20 rfl 0 rfl rfl dX6_years_17 ?_
    refine st_get G inX5 rfl 7 (by decide) wd_333 23 rfl 1 rfl rfl dX6_years_20 ?_
    refine st_iload_n G 24 rfl 1 rfl dX6_years_23 rfl ?_
    refine st_iadd G 25 rfl dX6_years_24 ?_
    refine st_sipush G 28 rfl (999 : Int32) (by decide) dX6_years_25 ?_
    refine st_icmp_le G 37 31 rfl dX6_years_28 rfl (fun c => ?_) (fun c => ?_)
    · have h := h.1 c
      refine st_iconst G 38 rfl (0 : Int32) (by decide) dX6_years_37 ?_
      refine st_istore_n G 39 rfl [(2, .int (0 : Int32)), (0, .ref q_t), (1, .int x1)] dX6_years_38 rfl (by decide) rfl ?_
      refine st_L (L' := [(0, .ref q_t), (1, .int x1), (2, .int (0 : Int32))]) [1, 2, 0] rfl ?_
      obtain ⟨n, h⟩ := h
      exact b_X6_years_39 G R n _ _ _ _ _ _ h
    have h := h.2 c
    refine st_aload_n G 32 rfl 0 rfl dX6_years_31 rfl ?_
    refine st_iconst G 33 rfl (3 : Int32) (by decide) dX6_years_32 ?_
    refine st_cVi G lk_X6_55 (c_X6_error g.l g.D g.X q_t q_t_w q_t_k q_t_errors q_t_sheets q_t_r q_t_th q_t_sp c_images c_errors (3 : Int32) _ h) ⟨rfl, rfl, ⟨Nat.le_of_ble_eq_true rfl, Nat.le_of_ble_eq_true rfl⟩, Nat.zero_le _, Nat.zero_le _⟩ 36 rfl [0, 10] rfl (by decide) 0 6 rfl rfl rfl (Nat.le_of_ble_eq_true rfl) rfl dX6_years_33 (fun r_33 w hq => ?_)
    obtain ⟨c_errors_33, h, rfl⟩ := hq
    refine st_wp (ws' := [(q_t, .inr (6, [.ref q_t_w, .ref q_t_k, .int c_images, .ref q_t_errors, .ref q_t_sheets, .ref q_t_r, .ref q_t_th, .ref q_t_sp])), (q_t_w, .inr (5, [.int w_people, .ref q_t_w_km, .ref q_t_w_father, .ref q_t_w_mother, .ref q_t_w_from, .ref q_t_w_spoons, .ref q_t_w_owed, .int w_year, .int w_z, .ref q_t_w_tape, .int w_bytes, .ref q_t_w_tx0, .ref q_t_w_tx1, .ref q_t_w_waiting, .int w_waits])), (q_t_w_km, .inl (g.X.cI, 8, .inl w_km)), (q_t_w_spoons, .inl (g.X.cI, 40, .inl w_spoons)), (q_t_w_tx0, .inr (3, [.ref q_t_w_tx0_parts, .ref q_t_w_tx0_stack, .int (w_tx_size 0)])), (q_t_w_tx0_parts, .inl (g.X.cI, 60, .inl (w_tx_parts 0))), (q_t_w_tx0_stack, .inl (g.X.cI, 60, .inl (w_tx_stack 0))), (q_t_w_tx1, .inr (3, [.ref q_t_w_tx1_parts, .ref q_t_w_tx1_stack, .int (w_tx_size 1)])), (q_t_w_tx1_parts, .inl (g.X.cI, 60, .inl (w_tx_parts 1))), (q_t_w_tx1_stack, .inl (g.X.cI, 60, .inl (w_tx_stack 1))), (q_t_errors, .inl (g.X.cI, 7, .inl c_errors_33))]) 11 [1, 2, 3, 4, 5, 6, 7, 8, 9] (by decide) rfl rfl (by rfl) [(q_t_w, .inr (5, [.int w_people, .ref q_t_w_km, .ref q_t_w_father, .ref q_t_w_mother, .ref q_t_w_from, .ref q_t_w_spoons, .ref q_t_w_owed, .int w_year, .int w_z, .ref q_t_w_tape, .int w_bytes, .ref q_t_w_tx0, .ref q_t_w_tx1, .ref q_t_w_waiting, .int w_waits])), (q_t_w_km, .inl (g.X.cI, 8, .inl w_km)), (q_t_w_spoons, .inl (g.X.cI, 40, .inl w_spoons)), (q_t_w_tx0, .inr (3, [.ref q_t_w_tx0_parts, .ref q_t_w_tx0_stack, .int (w_tx_size 0)])), (q_t_w_tx0_parts, .inl (g.X.cI, 60, .inl (w_tx_parts 0))), (q_t_w_tx0_stack, .inl (g.X.cI, 60, .inl (w_tx_stack 0))), (q_t_w_tx1, .inr (3, [.ref q_t_w_tx1_parts, .ref q_t_w_tx1_stack, .int (w_tx_size 1)])), (q_t_w_tx1_parts, .inl (g.X.cI, 60, .inl (w_tx_parts 1))), (q_t_w_tx1_stack, .inl (g.X.cI, 60, .inl (w_tx_stack 1)))] (by rfl) rfl ?_
    exact R _ _ _ _ dX6_years_36 (Nat.le_of_ble_eq_true rfl) ⟨_, _, _, _, h, rfl⟩
  have h := h.2 c
  refine st_aload_n G 11 rfl 0 rfl dX6_years_10 rfl ?_
  refine st_iconst G 12 rfl (1 : Int32) (by decide) dX6_years_11 ?_
  refine st_cVi G lk_X6_55 (c_X6_error g.l g.D g.X q_t q_t_w q_t_k q_t_errors q_t_sheets q_t_r q_t_th q_t_sp c_images c_errors (1 : Int32) _ h) ⟨rfl, rfl, ⟨Nat.le_of_ble_eq_true rfl, Nat.le_of_ble_eq_true rfl⟩, Nat.zero_le _, Nat.zero_le _⟩ 15 rfl [0, 10] rfl (by decide) 0 6 rfl rfl rfl (Nat.le_of_ble_eq_true rfl) rfl dX6_years_12 (fun r_12 w hq => ?_)
  obtain ⟨c_errors_12, h, rfl⟩ := hq
  refine st_wp (ws' := [(q_t, .inr (6, [.ref q_t_w, .ref q_t_k, .int c_images, .ref q_t_errors, .ref q_t_sheets, .ref q_t_r, .ref q_t_th, .ref q_t_sp])), (q_t_w, .inr (5, [.int w_people, .ref q_t_w_km, .ref q_t_w_father, .ref q_t_w_mother, .ref q_t_w_from, .ref q_t_w_spoons, .ref q_t_w_owed, .int w_year, .int w_z, .ref q_t_w_tape, .int w_bytes, .ref q_t_w_tx0, .ref q_t_w_tx1, .ref q_t_w_waiting, .int w_waits])), (q_t_w_km, .inl (g.X.cI, 8, .inl w_km)), (q_t_w_spoons, .inl (g.X.cI, 40, .inl w_spoons)), (q_t_w_tx0, .inr (3, [.ref q_t_w_tx0_parts, .ref q_t_w_tx0_stack, .int (w_tx_size 0)])), (q_t_w_tx0_parts, .inl (g.X.cI, 60, .inl (w_tx_parts 0))), (q_t_w_tx0_stack, .inl (g.X.cI, 60, .inl (w_tx_stack 0))), (q_t_w_tx1, .inr (3, [.ref q_t_w_tx1_parts, .ref q_t_w_tx1_stack, .int (w_tx_size 1)])), (q_t_w_tx1_parts, .inl (g.X.cI, 60, .inl (w_tx_parts 1))), (q_t_w_tx1_stack, .inl (g.X.cI, 60, .inl (w_tx_stack 1))), (q_t_errors, .inl (g.X.cI, 7, .inl c_errors_12))]) 11 [1, 2, 3, 4, 5, 6, 7, 8, 9] (by decide) rfl rfl (by rfl) [(q_t_w, .inr (5, [.int w_people, .ref q_t_w_km, .ref q_t_w_father, .ref q_t_w_mother, .ref q_t_w_from, .ref q_t_w_spoons, .ref q_t_w_owed, .int w_year, .int w_z, .ref q_t_w_tape, .int w_bytes, .ref q_t_w_tx0, .ref q_t_w_tx1, .ref q_t_w_waiting, .int w_waits])), (q_t_w_km, .inl (g.X.cI, 8, .inl w_km)), (q_t_w_spoons, .inl (g.X.cI, 40, .inl w_spoons)), (q_t_w_tx0, .inr (3, [.ref q_t_w_tx0_parts, .ref q_t_w_tx0_stack, .int (w_tx_size 0)])), (q_t_w_tx0_parts, .inl (g.X.cI, 60, .inl (w_tx_parts 0))), (q_t_w_tx0_stack, .inl (g.X.cI, 60, .inl (w_tx_stack 0))), (q_t_w_tx1, .inr (3, [.ref q_t_w_tx1_parts, .ref q_t_w_tx1_stack, .int (w_tx_size 1)])), (q_t_w_tx1_parts, .inl (g.X.cI, 60, .inl (w_tx_parts 1))), (q_t_w_tx1_stack, .inl (g.X.cI, 60, .inl (w_tx_stack 1)))] (by rfl) rfl ?_
  exact R _ _ _ _ dX6_years_15 (Nat.le_of_ble_eq_true rfl) ⟨_, _, _, _, h, rfl⟩
set_option maxRecDepth 100000 in
set_option maxHeartbeats 4000000 in
theorem c_X6_years (l : Launch) (D : va_G) (X : XT) (q_t q_t_w q_t_w_km q_t_w_father q_t_w_mother q_t_w_from q_t_w_spoons q_t_w_owed q_t_w_tape q_t_w_tx0 q_t_w_tx0_parts q_t_w_tx0_stack q_t_w_tx1 q_t_w_tx1_parts q_t_w_tx1_stack q_t_w_waiting q_t_k q_t_errors q_t_sheets q_t_r q_t_th q_t_sp : Nat) (c_images : Int32) (w_people : Int32) (w_year : Int32) (w_z : Int32) (w_bytes : Int32) (w_waits : Int32) (w_km : Nat → Int32) (w_spoons : Nat → Int32) (w_tx_size : Nat → Int32) (w_tx_parts : Nat → Nat → Int32) (w_tx_stack : Nat → Nat → Int32) (c_errors : Nat → Int32) (x1 : Int32) (Q : Int32 → (Int32) → (Nat → Int32) → (Nat → Nat → Int32) → (Nat → Int32) → Prop) (h : wp_X6_years x1 w_people w_year w_km w_spoons w_tx_size w_tx_parts w_tx_stack c_errors Q) : CTi l D X yX6_years cX6_years 3 .int rm_X6_years [.ref q_t, .int x1] [(q_t, .inr (6, [.ref q_t_w, .ref q_t_k, .int c_images, .ref q_t_errors, .ref q_t_sheets, .ref q_t_r, .ref q_t_th, .ref q_t_sp])), (q_t_w, .inr (5, [.int w_people, .ref q_t_w_km, .ref q_t_w_father, .ref q_t_w_mother, .ref q_t_w_from, .ref q_t_w_spoons, .ref q_t_w_owed, .int w_year, .int w_z, .ref q_t_w_tape, .int w_bytes, .ref q_t_w_tx0, .ref q_t_w_tx1, .ref q_t_w_waiting, .int w_waits])), (q_t_w_km, .inl (X.cI, 8, .inl w_km)), (q_t_w_spoons, .inl (X.cI, 40, .inl w_spoons)), (q_t_w_tx0, .inr (3, [.ref q_t_w_tx0_parts, .ref q_t_w_tx0_stack, .int (w_tx_size 0)])), (q_t_w_tx0_parts, .inl (X.cI, 60, .inl (w_tx_parts 0))), (q_t_w_tx0_stack, .inl (X.cI, 60, .inl (w_tx_stack 0))), (q_t_w_tx1, .inr (3, [.ref q_t_w_tx1_parts, .ref q_t_w_tx1_stack, .int (w_tx_size 1)])), (q_t_w_tx1_parts, .inl (X.cI, 60, .inl (w_tx_parts 1))), (q_t_w_tx1_stack, .inl (X.cI, 60, .inl (w_tx_stack 1))), (q_t_errors, .inl (X.cI, 7, .inl c_errors))] (fun (r : Int32) w => ∃ (w_year' : Int32) (w_spoons' : Nat → Int32) (w_tx_stack' : Nat → Nat → Int32) (c_errors' : Nat → Int32), Q r w_year' w_spoons' w_tx_stack' c_errors' ∧ w = [(q_t, .inr (6, [.ref q_t_w, .ref q_t_k, .int c_images, .ref q_t_errors, .ref q_t_sheets, .ref q_t_r, .ref q_t_th, .ref q_t_sp])), (q_t_w, .inr (5, [.int w_people, .ref q_t_w_km, .ref q_t_w_father, .ref q_t_w_mother, .ref q_t_w_from, .ref q_t_w_spoons, .ref q_t_w_owed, .int w_year', .int w_z, .ref q_t_w_tape, .int w_bytes, .ref q_t_w_tx0, .ref q_t_w_tx1, .ref q_t_w_waiting, .int w_waits])), (q_t_w_km, .inl (X.cI, 8, .inl w_km)), (q_t_w_spoons, .inl (X.cI, 40, .inl w_spoons')), (q_t_w_tx0, .inr (3, [.ref q_t_w_tx0_parts, .ref q_t_w_tx0_stack, .int (w_tx_size 0)])), (q_t_w_tx0_parts, .inl (X.cI, 60, .inl (w_tx_parts 0))), (q_t_w_tx0_stack, .inl (X.cI, 60, .inl (w_tx_stack' 0))), (q_t_w_tx1, .inr (3, [.ref q_t_w_tx1_parts, .ref q_t_w_tx1_stack, .int (w_tx_size 1)])), (q_t_w_tx1_parts, .inl (X.cI, 60, .inl (w_tx_parts 1))), (q_t_w_tx1_stack, .inl (X.cI, 60, .inl (w_tx_stack' 1))), (q_t_errors, .inl (X.cI, 7, .inl c_errors'))]) :=
  ct_i (by decide) (Nat.le_of_ble_eq_true rfl) (fun g hl hD hX G R => by subst hl; subst hD; subst hX; exact b_X6_years_e G R h)
set_option maxRecDepth 100000 in
set_option maxHeartbeats 4000000 in
theorem b_X5_draw_e {g : GT} (G : GOOD g RX5 cX5_draw 1 rm_X5_draw) {q_t q_t_km q_t_father q_t_mother q_t_from q_t_spoons q_t_owed q_t_tape q_t_tx0 q_t_tx1 q_t_waiting : Nat} {c_people : Int32} {c_year : Int32} {c_z : Int32} {c_bytes : Int32} {c_waits : Int32} {Q : Int32 → (Int32) → Prop} (R : RETi g cX5_draw 1 (fun (r : Int32) w => ∃ (c_z' : Int32), Q r c_z' ∧ w = [(q_t, .inr (5, [.int c_people, .ref q_t_km, .ref q_t_father, .ref q_t_mother, .ref q_t_from, .ref q_t_spoons, .ref q_t_owed, .int c_year, .int c_z', .ref q_t_tape, .int c_bytes, .ref q_t_tx0, .ref q_t_tx1, .ref q_t_waiting, .int c_waits]))])) (h : wp_X5_draw c_z Q) : ST g 0 0 0 [(0, .ref q_t)] [] [(q_t, .inr (5, [.int c_people, .ref q_t_km, .ref q_t_father, .ref q_t_mother, .ref q_t_from, .ref q_t_spoons, .ref q_t_owed, .int c_year, .int c_z, .ref q_t_tape, .int c_bytes, .ref q_t_tx0, .ref q_t_tx1, .ref q_t_waiting, .int c_waits]))] := by
  unfold wp_X5_draw at h
  refine st_aload_n G 1 rfl 0 rfl dX5_draw_0 rfl ?_
  refine st_aload_n G 2 rfl 0 rfl dX5_draw_1 rfl ?_
  refine st_get G inX5 rfl 8 (by decide) wd_45 5 rfl 0 rfl rfl dX5_draw_2 ?_
  refine st_ldc G 7 rfl wd_596 dX5_draw_5 ?_
  refine st_imul G 8 rfl dX5_draw_7 ?_
  refine st_sipush G 11 rfl (12345 : Int32) (by decide) dX5_draw_8 ?_
  refine st_iadd G 12 rfl dX5_draw_11 ?_
  refine st_topi (fun c_z_12 ec_z_12 => ?_)
  have h := h c_z_12 ec_z_12
  refine st_put G inX5 tyX5 tyX5_ok nmX5 rfl 8 (by decide) wd_45 rfl [(q_t, .inr (5, [.int c_people, .ref q_t_km, .ref q_t_father, .ref q_t_mother, .ref q_t_from, .ref q_t_spoons, .ref q_t_owed, .int c_year, .int c_z_12, .ref q_t_tape, .int c_bytes, .ref q_t_tx0, .ref q_t_tx1, .ref q_t_waiting, .int c_waits]))] 15 rfl 0 rfl rfl rfl (Nat.le_of_ble_eq_true rfl) rfl dX5_draw_12 ?_
  refine st_aload_n G 16 rfl 0 rfl dX5_draw_15 rfl ?_
  refine st_get G inX5 rfl 8 (by decide) wd_45 19 rfl 0 rfl rfl dX5_draw_16 ?_
  refine st_bipush G 21 rfl (8 : Int32) (by decide) dX5_draw_19 ?_
  refine st_iushr G 22 rfl dX5_draw_21 ?_
  exact R _ _ _ _ dX5_draw_22 (Nat.le_of_ble_eq_true rfl) ⟨_, h, rfl⟩
set_option maxRecDepth 100000 in
set_option maxHeartbeats 4000000 in
theorem c_X5_draw (l : Launch) (D : va_G) (X : XT) (q_t q_t_km q_t_father q_t_mother q_t_from q_t_spoons q_t_owed q_t_tape q_t_tx0 q_t_tx1 q_t_waiting : Nat) (c_people : Int32) (c_year : Int32) (c_z : Int32) (c_bytes : Int32) (c_waits : Int32) (Q : Int32 → (Int32) → Prop) (h : wp_X5_draw c_z Q) : CTi l D X yX5_draw cX5_draw 1 .int rm_X5_draw [.ref q_t] [(q_t, .inr (5, [.int c_people, .ref q_t_km, .ref q_t_father, .ref q_t_mother, .ref q_t_from, .ref q_t_spoons, .ref q_t_owed, .int c_year, .int c_z, .ref q_t_tape, .int c_bytes, .ref q_t_tx0, .ref q_t_tx1, .ref q_t_waiting, .int c_waits]))] (fun (r : Int32) w => ∃ (c_z' : Int32), Q r c_z' ∧ w = [(q_t, .inr (5, [.int c_people, .ref q_t_km, .ref q_t_father, .ref q_t_mother, .ref q_t_from, .ref q_t_spoons, .ref q_t_owed, .int c_year, .int c_z', .ref q_t_tape, .int c_bytes, .ref q_t_tx0, .ref q_t_tx1, .ref q_t_waiting, .int c_waits]))]) :=
  ct_i (by decide) (Nat.le_of_ble_eq_true rfl) (fun g hl hD hX G R => by subst hl; subst hD; subst hX; exact b_X5_draw_e G R h)
set_option maxRecDepth 100000 in
set_option maxHeartbeats 4000000 in
theorem b_X5_steal_e {g : GT} (G : GOOD g RX5 cX5_steal 6 rm_X5_steal) {q_t q_t_km q_t_father q_t_mother q_t_from q_t_spoons q_t_owed q_t_tape q_t_tx0 q_t_tx1 q_t_waiting : Nat} {c_people : Int32} {c_year : Int32} {c_z : Int32} {c_bytes : Int32} {c_waits : Int32} {c_spoons : Nat → Int32} {Q : Int32 → (Int32) → (Nat → Int32) → Prop} (R : RETi g cX5_steal 2 (fun (r : Int32) w => ∃ (c_z' : Int32) (c_spoons' : Nat → Int32), Q r c_z' c_spoons' ∧ w = [(q_t, .inr (5, [.int c_people, .ref q_t_km, .ref q_t_father, .ref q_t_mother, .ref q_t_from, .ref q_t_spoons, .ref q_t_owed, .int c_year, .int c_z', .ref q_t_tape, .int c_bytes, .ref q_t_tx0, .ref q_t_tx1, .ref q_t_waiting, .int c_waits])), (q_t_spoons, .inl (g.X.cI, 40, .inl c_spoons'))])) (h : wp_X5_steal c_people c_z c_spoons Q) : ST g 0 0 0 [(0, .ref q_t)] [] [(q_t, .inr (5, [.int c_people, .ref q_t_km, .ref q_t_father, .ref q_t_mother, .ref q_t_from, .ref q_t_spoons, .ref q_t_owed, .int c_year, .int c_z, .ref q_t_tape, .int c_bytes, .ref q_t_tx0, .ref q_t_tx1, .ref q_t_waiting, .int c_waits])), (q_t_spoons, .inl (g.X.cI, 40, .inl c_spoons))] := by
  unfold wp_X5_steal at h
  refine st_aload_n G 1 rfl 0 rfl dX5_steal_0 rfl ?_
  refine st_get G inX5 rfl 0 (by decide) wd_116 4 rfl 0 rfl rfl dX5_steal_1 ?_
  refine st_if_ne G 9 7 rfl dX5_steal_4 rfl (fun c => ?_) (fun c => ?_)
  · have h := h.1 c
    refine st_aload_n G 10 rfl 0 rfl dX5_steal_9 rfl ?_
    refine st_cVi G lk_X5_114 (c_X5_draw g.l g.D g.X q_t q_t_km q_t_father q_t_mother q_t_from q_t_spoons q_t_owed q_t_tape q_t_tx0 q_t_tx1 q_t_waiting c_people c_year c_z c_bytes c_waits _ h) ⟨rfl, rfl, ⟨Nat.le_of_ble_eq_true rfl, Nat.le_of_ble_eq_true rfl⟩, Nat.zero_le _, Nat.zero_le _⟩ 13 rfl [0] rfl (by decide) 0 5 rfl rfl rfl (Nat.le_of_ble_eq_true rfl) rfl dX5_steal_10 (fun r_10 w hq => ?_)
    obtain ⟨c_z_10, h, rfl⟩ := hq
    refine st_wp (ws' := [(q_t, .inr (5, [.int c_people, .ref q_t_km, .ref q_t_father, .ref q_t_mother, .ref q_t_from, .ref q_t_spoons, .ref q_t_owed, .int c_year, .int c_z_10, .ref q_t_tape, .int c_bytes, .ref q_t_tx0, .ref q_t_tx1, .ref q_t_waiting, .int c_waits])), (q_t_spoons, .inl (g.X.cI, 40, .inl c_spoons))]) 2 [1] (by decide) rfl rfl (by rfl) [(q_t_spoons, .inl (g.X.cI, 40, .inl c_spoons))] (by rfl) rfl ?_
    refine st_aload_n G 14 rfl 0 rfl dX5_steal_13 rfl ?_
    refine st_get G inX5 rfl 0 (by decide) wd_116 17 rfl 0 rfl rfl dX5_steal_14 ?_
    obtain ⟨hne, h⟩ := h
    refine st_irem G 18 rfl hne dX5_steal_17 ?_
    refine st_topi (fun x1_18 ex1_18 => ?_)
    have h := h x1_18 ex1_18
    refine st_istore_n G 19 rfl [(1, .int x1_18), (0, .ref q_t)] dX5_steal_18 rfl (by decide) rfl ?_
    refine st_aload_n G 20 rfl 1 rfl dX5_steal_19 rfl ?_
    refine st_cVi G lk_X5_114 (c_X5_draw g.l g.D g.X q_t q_t_km q_t_father q_t_mother q_t_from q_t_spoons q_t_owed q_t_tape q_t_tx0 q_t_tx1 q_t_waiting c_people c_year c_z_10 c_bytes c_waits _ h) ⟨rfl, rfl, ⟨Nat.le_of_ble_eq_true rfl, Nat.le_of_ble_eq_true rfl⟩, Nat.zero_le _, Nat.zero_le _⟩ 23 rfl [0] rfl (by decide) 0 5 rfl rfl rfl (Nat.le_of_ble_eq_true rfl) rfl dX5_steal_20 (fun r_20 w hq => ?_)
    obtain ⟨c_z_20, h, rfl⟩ := hq
    refine st_wp (ws' := [(q_t, .inr (5, [.int c_people, .ref q_t_km, .ref q_t_father, .ref q_t_mother, .ref q_t_from, .ref q_t_spoons, .ref q_t_owed, .int c_year, .int c_z_20, .ref q_t_tape, .int c_bytes, .ref q_t_tx0, .ref q_t_tx1, .ref q_t_waiting, .int c_waits])), (q_t_spoons, .inl (g.X.cI, 40, .inl c_spoons))]) 2 [1] (by decide) rfl rfl (by rfl) [(q_t_spoons, .inl (g.X.cI, 40, .inl c_spoons))] (by rfl) rfl ?_
    refine st_aload_n G 24 rfl 1 rfl dX5_steal_23 rfl ?_
    refine st_get G inX5 rfl 0 (by decide) wd_116 27 rfl 0 rfl rfl dX5_steal_24 ?_
    obtain ⟨hne, h⟩ := h
    refine st_irem G 28 rfl hne dX5_steal_27 ?_
    refine st_topi (fun x2_28 ex2_28 => ?_)
    have h := h x2_28 ex2_28
    refine st_istore_n G 29 rfl [(2, .int x2_28), (1, .int x1_18), (0, .ref q_t)] dX5_steal_28 rfl (by decide) rfl ?_
    refine st_aload_n G 30 rfl 2 rfl dX5_steal_29 rfl ?_
    refine st_cVi G lk_X5_114 (c_X5_draw g.l g.D g.X q_t q_t_km q_t_father q_t_mother q_t_from q_t_spoons q_t_owed q_t_tape q_t_tx0 q_t_tx1 q_t_waiting c_people c_year c_z_20 c_bytes c_waits _ h) ⟨rfl, rfl, ⟨Nat.le_of_ble_eq_true rfl, Nat.le_of_ble_eq_true rfl⟩, Nat.zero_le _, Nat.zero_le _⟩ 33 rfl [0] rfl (by decide) 0 5 rfl rfl rfl (Nat.le_of_ble_eq_true rfl) rfl dX5_steal_30 (fun r_30 w hq => ?_)
    obtain ⟨c_z_30, h, rfl⟩ := hq
    refine st_wp (ws' := [(q_t, .inr (5, [.int c_people, .ref q_t_km, .ref q_t_father, .ref q_t_mother, .ref q_t_from, .ref q_t_spoons, .ref q_t_owed, .int c_year, .int c_z_30, .ref q_t_tape, .int c_bytes, .ref q_t_tx0, .ref q_t_tx1, .ref q_t_waiting, .int c_waits])), (q_t_spoons, .inl (g.X.cI, 40, .inl c_spoons))]) 2 [1] (by decide) rfl rfl (by rfl) [(q_t_spoons, .inl (g.X.cI, 40, .inl c_spoons))] (by rfl) rfl ?_
    refine st_iconst G 34 rfl (5 : Int32) (by decide) dX5_steal_33 ?_
    refine st_irem G 35 rfl (by decide) dX5_steal_34 ?_
    refine st_topi (fun x3_35 ex3_35 => ?_)
    have h := h x3_35 ex3_35
    refine st_istore_n G 36 rfl [(3, .int x3_35), (2, .int x2_28), (1, .int x1_18), (0, .ref q_t)] dX5_steal_35 rfl (by decide) rfl ?_
    refine st_iload_n G 37 rfl 2 rfl dX5_steal_36 rfl ?_
    refine st_iload_n G 38 rfl 1 rfl dX5_steal_37 rfl ?_
    refine st_icmp_ne G 43 41 rfl dX5_steal_38 rfl (fun c => ?_) (fun c => ?_)
    · have h := h.1 c
      refine st_bipush G 45 rfl (99 : Int32) (by decide) dX5_steal_43 ?_
      refine st_aload_n G 46 rfl 3 rfl dX5_steal_45 rfl ?_
      refine st_get G inX5 rfl 5 (by decide) wd_43 49 rfl 0 rfl rfl dX5_steal_46 ?_
      refine st_iload_n G 50 rfl 1 rfl dX5_steal_49 rfl ?_
      refine st_iload_n G 51 rfl 0 rfl dX5_steal_50 rfl ?_
      refine st_cNio G lk_X5_79 (c_X6_cell g.l g.D g.X x2_28 x3_35 _ h) ⟨rfl, rfl, ⟨Nat.le_of_ble_eq_true rfl, Nat.le_of_ble_eq_true rfl⟩, Nat.zero_le _, Nat.zero_le _⟩ 54 rfl [] rfl (by decide) rfl (Nat.le_of_ble_eq_true rfl) rfl dX5_steal_51 (fun r_51 h => ?_)
      obtain ⟨hin, h⟩ := h
      refine st_iald G 55 rfl 1 rfl hin dX5_steal_54 ?_
      refine st_isub G 56 rfl dX5_steal_55 ?_
      refine st_topi (fun x4_56 ex4_56 => ?_)
      have h := h x4_56 ex4_56
      refine st_istore G 58 rfl [(4, .int x4_56), (3, .int x3_35), (2, .int x2_28), (1, .int x1_18), (0, .ref q_t)] dX5_steal_56 (by decide) rfl ?_
      refine st_aload_n G 59 rfl 4 rfl dX5_steal_58 rfl ?_
      refine st_get G inX5 rfl 5 (by decide) wd_43 62 rfl 0 rfl rfl dX5_steal_59 ?_
      refine st_iload_n G 63 rfl 3 rfl dX5_steal_62 rfl ?_
      refine st_iload_n G 64 rfl 1 rfl dX5_steal_63 rfl ?_
      refine st_cNio G lk_X5_79 (c_X6_cell g.l g.D g.X x1_18 x3_35 _ h) ⟨rfl, rfl, ⟨Nat.le_of_ble_eq_true rfl, Nat.le_of_ble_eq_true rfl⟩, Nat.zero_le _, Nat.zero_le _⟩ 67 rfl [] rfl (by decide) rfl (Nat.le_of_ble_eq_true rfl) rfl dX5_steal_64 (fun r_64 h => ?_)
      obtain ⟨hin, h⟩ := h
      refine st_iald G 68 rfl 1 rfl hin dX5_steal_67 ?_
      refine st_iload G 70 rfl 0 rfl dX5_steal_68 ?_
      refine st_mmin G wd_591 wd_235 wd_236 wd_237 ⟨Nat.le_of_ble_eq_true rfl, Nat.le_of_ble_eq_true rfl, Nat.zero_le _, Nat.zero_le _⟩ 73 rfl dX5_steal_70 ?_
      refine st_iconst G 74 rfl (2 : Int32) (by decide) dX5_steal_73 ?_
      refine st_idiv G 75 rfl (by decide) dX5_steal_74 ?_
      refine st_topi (fun x5_75 ex5_75 => ?_)
      have h := h x5_75 ex5_75
      refine st_istore G 77 rfl [(5, .int x5_75), (4, .int x4_56), (3, .int x3_35), (2, .int x2_28), (1, .int x1_18), (0, .ref q_t)] dX5_steal_75 (by decide) rfl ?_
      refine st_aload_n G 78 rfl 5 rfl dX5_steal_77 rfl ?_
      refine st_iload_n G 79 rfl 4 rfl dX5_steal_78 rfl ?_
      refine st_iload_n G 80 rfl 3 rfl dX5_steal_79 rfl ?_
      refine st_iload_n G 81 rfl 2 rfl dX5_steal_80 rfl ?_
      refine st_iload G 83 rfl 0 rfl dX5_steal_81 ?_
      refine st_cVv G lk_X5_123 (c_X5_go g.l g.D g.X q_t q_t_km q_t_father q_t_mother q_t_from q_t_spoons q_t_owed q_t_tape q_t_tx0 q_t_tx1 q_t_waiting c_people c_year c_z_30 c_bytes c_waits c_spoons x1_18 x2_28 x3_35 x5_75 _ h) ⟨rfl, rfl, ⟨Nat.le_of_ble_eq_true rfl, Nat.le_of_ble_eq_true rfl⟩, Nat.zero_le _, Nat.zero_le _⟩ 86 rfl [0, 1] rfl (by decide) 0 5 rfl rfl rfl (Nat.le_of_ble_eq_true rfl) rfl dX5_steal_83 (fun w hq => ?_)
      obtain ⟨c_spoons_83, h, rfl⟩ := hq
      refine st_wp (ws' := [(q_t, .inr (5, [.int c_people, .ref q_t_km, .ref q_t_father, .ref q_t_mother, .ref q_t_from, .ref q_t_spoons, .ref q_t_owed, .int c_year, .int c_z_30, .ref q_t_tape, .int c_bytes, .ref q_t_tx0, .ref q_t_tx1, .ref q_t_waiting, .int c_waits])), (q_t_spoons, .inl (g.X.cI, 40, .inl c_spoons_83))]) 2 [] (by decide) rfl rfl (by rfl) [] (by rfl) rfl ?_
      refine st_iload G 88 rfl 0 rfl dX5_steal_86 ?_
      exact R _ _ _ _ dX5_steal_88 (Nat.le_of_ble_eq_true rfl) ⟨_, _, h, rfl⟩
    have h := h.2 c
    refine st_iconst G 42 rfl (0 : Int32) (by decide) dX5_steal_41 ?_
    exact R _ _ _ _ dX5_steal_42 (Nat.le_of_ble_eq_true rfl) ⟨_, _, h, rfl⟩
  have h := h.2 c
  refine st_iconst G 8 rfl (0 : Int32) (by decide) dX5_steal_7 ?_
  exact R _ _ _ _ dX5_steal_8 (Nat.le_of_ble_eq_true rfl) ⟨_, _, h, rfl⟩
set_option maxRecDepth 100000 in
set_option maxHeartbeats 4000000 in
theorem c_X5_steal (l : Launch) (D : va_G) (X : XT) (q_t q_t_km q_t_father q_t_mother q_t_from q_t_spoons q_t_owed q_t_tape q_t_tx0 q_t_tx1 q_t_waiting : Nat) (c_people : Int32) (c_year : Int32) (c_z : Int32) (c_bytes : Int32) (c_waits : Int32) (c_spoons : Nat → Int32) (Q : Int32 → (Int32) → (Nat → Int32) → Prop) (h : wp_X5_steal c_people c_z c_spoons Q) : CTi l D X yX5_steal cX5_steal 6 .int rm_X5_steal [.ref q_t] [(q_t, .inr (5, [.int c_people, .ref q_t_km, .ref q_t_father, .ref q_t_mother, .ref q_t_from, .ref q_t_spoons, .ref q_t_owed, .int c_year, .int c_z, .ref q_t_tape, .int c_bytes, .ref q_t_tx0, .ref q_t_tx1, .ref q_t_waiting, .int c_waits])), (q_t_spoons, .inl (X.cI, 40, .inl c_spoons))] (fun (r : Int32) w => ∃ (c_z' : Int32) (c_spoons' : Nat → Int32), Q r c_z' c_spoons' ∧ w = [(q_t, .inr (5, [.int c_people, .ref q_t_km, .ref q_t_father, .ref q_t_mother, .ref q_t_from, .ref q_t_spoons, .ref q_t_owed, .int c_year, .int c_z', .ref q_t_tape, .int c_bytes, .ref q_t_tx0, .ref q_t_tx1, .ref q_t_waiting, .int c_waits])), (q_t_spoons, .inl (X.cI, 40, .inl c_spoons'))]) :=
  ct_i (by decide) (Nat.le_of_ble_eq_true rfl) (fun g hl hD hX G R => by subst hl; subst hD; subst hX; exact b_X5_steal_e G R h)
set_option maxRecDepth 100000 in
set_option maxHeartbeats 4000000 in
theorem b_X6_loose_41 {g : GT} (G : GOOD g RX6 cX6_loose 4 rm_X6_loose) {q_t q_t_w q_t_w_km q_t_w_father q_t_w_mother q_t_w_from q_t_w_spoons q_t_w_owed q_t_w_tape q_t_w_tx0 q_t_w_tx0_parts q_t_w_tx0_stack q_t_w_tx1 q_t_w_tx1_parts q_t_w_tx1_stack q_t_w_waiting q_t_k q_t_errors q_t_sheets q_t_r q_t_th q_t_sp : Nat} {c_images : Int32} {w_people : Int32} {w_bytes : Int32} {w_waits : Int32} {w_km : Nat → Int32} {w_tx_size : Nat → Int32} {w_tx_parts : Nat → Nat → Int32} {Q : Int32 → (Int32) → (Int32) → (Nat → Int32) → (Nat → Nat → Int32) → (Nat → Int32) → Prop} (R : RETi g cX6_loose 11 (fun (r : Int32) w => ∃ (w_year' : Int32) (w_z' : Int32) (w_spoons' : Nat → Int32) (w_tx_stack' : Nat → Nat → Int32) (c_errors' : Nat → Int32), Q r w_year' w_z' w_spoons' w_tx_stack' c_errors' ∧ w = [(q_t, .inr (6, [.ref q_t_w, .ref q_t_k, .int c_images, .ref q_t_errors, .ref q_t_sheets, .ref q_t_r, .ref q_t_th, .ref q_t_sp])), (q_t_w, .inr (5, [.int w_people, .ref q_t_w_km, .ref q_t_w_father, .ref q_t_w_mother, .ref q_t_w_from, .ref q_t_w_spoons, .ref q_t_w_owed, .int w_year', .int w_z', .ref q_t_w_tape, .int w_bytes, .ref q_t_w_tx0, .ref q_t_w_tx1, .ref q_t_w_waiting, .int w_waits])), (q_t_w_km, .inl (g.X.cI, 8, .inl w_km)), (q_t_w_spoons, .inl (g.X.cI, 40, .inl w_spoons')), (q_t_w_tx0, .inr (3, [.ref q_t_w_tx0_parts, .ref q_t_w_tx0_stack, .int (w_tx_size 0)])), (q_t_w_tx0_parts, .inl (g.X.cI, 60, .inl (w_tx_parts 0))), (q_t_w_tx0_stack, .inl (g.X.cI, 60, .inl (w_tx_stack' 0))), (q_t_w_tx1, .inr (3, [.ref q_t_w_tx1_parts, .ref q_t_w_tx1_stack, .int (w_tx_size 1)])), (q_t_w_tx1_parts, .inl (g.X.cI, 60, .inl (w_tx_parts 1))), (q_t_w_tx1_stack, .inl (g.X.cI, 60, .inl (w_tx_stack' 1))), (q_t_errors, .inl (g.X.cI, 7, .inl c_errors'))])) : ∀ (n : Nat) (x1 : Int32) (x2 : Int32) (x3 : Int32) (w_year : Int32) (w_z : Int32) (w_spoons : Nat → Int32) (w_tx_stack : Nat → Nat → Int32) (c_errors : Nat → Int32), wp_X6_loose_b41 Q w_people w_km w_tx_size w_tx_parts n x1 x2 x3 w_year w_z w_spoons w_tx_stack c_errors → ST g 0 0 41 [(0, .ref q_t), (1, .int x1), (2, .int x2), (3, .int x3)] [] [(q_t, .inr (6, [.ref q_t_w, .ref q_t_k, .int c_images, .ref q_t_errors, .ref q_t_sheets, .ref q_t_r, .ref q_t_th, .ref q_t_sp])), (q_t_w, .inr (5, [.int w_people, .ref q_t_w_km, .ref q_t_w_father, .ref q_t_w_mother, .ref q_t_w_from, .ref q_t_w_spoons, .ref q_t_w_owed, .int w_year, .int w_z, .ref q_t_w_tape, .int w_bytes, .ref q_t_w_tx0, .ref q_t_w_tx1, .ref q_t_w_waiting, .int w_waits])), (q_t_w_km, .inl (g.X.cI, 8, .inl w_km)), (q_t_w_spoons, .inl (g.X.cI, 40, .inl w_spoons)), (q_t_w_tx0, .inr (3, [.ref q_t_w_tx0_parts, .ref q_t_w_tx0_stack, .int (w_tx_size 0)])), (q_t_w_tx0_parts, .inl (g.X.cI, 60, .inl (w_tx_parts 0))), (q_t_w_tx0_stack, .inl (g.X.cI, 60, .inl (w_tx_stack 0))), (q_t_w_tx1, .inr (3, [.ref q_t_w_tx1_parts, .ref q_t_w_tx1_stack, .int (w_tx_size 1)])), (q_t_w_tx1_parts, .inl (g.X.cI, 60, .inl (w_tx_parts 1))), (q_t_w_tx1_stack, .inl (g.X.cI, 60, .inl (w_tx_stack 1))), (q_t_errors, .inl (g.X.cI, 7, .inl c_errors))] := by
  intro n
  induction n with
  | zero => intro x1 x2 x3 w_year w_z w_spoons w_tx_stack c_errors h; exact False.elim h
  | succ n hK41 =>
    intro x1 x2 x3 w_year w_z w_spoons w_tx_stack c_errors h
    unfold wp_X6_loose_b41 at h
    refine st_iload_n G 42 rfl 3 rfl dX6_loose_41 rfl ?_
    refine st_iload_n G 43 rfl 1 rfl dX6_loose_42 rfl ?_
    refine st_icmp_ge G 69 46 rfl dX6_loose_43 rfl (fun c => ?_) (fun c => ?_)
    · have h := h.1 c
      refine st_iload_n G 70 rfl 2 rfl dX6_loose_69 rfl ?_
      exact R _ _ _ _ dX6_loose_70 (Nat.le_of_ble_eq_true rfl) ⟨_, _, _, _, _, h, rfl⟩
    have h := h.2 c
    refine st_iload_n G 47 rfl 2 rfl dX6_loose_46 rfl ?_
    refine st_aload_n G 48 rfl 0 rfl dX6_loose_47 rfl ?_
    refine st_get G inX6 rfl 0 (by decide) wd_16 51 rfl 0 rfl rfl dX6_loose_48 ?_
    refine st_cVi G lk_X6_184 (c_X5_steal g.l g.D g.X q_t_w q_t_w_km q_t_w_father q_t_w_mother q_t_w_from q_t_w_spoons q_t_w_owed q_t_w_tape q_t_w_tx0 q_t_w_tx1 q_t_w_waiting w_people w_year w_z w_bytes w_waits w_spoons _ h) ⟨rfl, rfl, ⟨Nat.le_of_ble_eq_true rfl, Nat.le_of_ble_eq_true rfl⟩, Nat.zero_le _, Nat.zero_le _⟩ 54 rfl [1, 3] rfl (by decide) 0 5 rfl rfl rfl (Nat.le_of_ble_eq_true rfl) rfl dX6_loose_51 (fun r_51 w hq => ?_)
    obtain ⟨w_z_51, w_spoons_51, h, rfl⟩ := hq
    refine st_wp (ws' := [(q_t, .inr (6, [.ref q_t_w, .ref q_t_k, .int c_images, .ref q_t_errors, .ref q_t_sheets, .ref q_t_r, .ref q_t_th, .ref q_t_sp])), (q_t_w, .inr (5, [.int w_people, .ref q_t_w_km, .ref q_t_w_father, .ref q_t_w_mother, .ref q_t_w_from, .ref q_t_w_spoons, .ref q_t_w_owed, .int w_year, .int w_z_51, .ref q_t_w_tape, .int w_bytes, .ref q_t_w_tx0, .ref q_t_w_tx1, .ref q_t_w_waiting, .int w_waits])), (q_t_w_km, .inl (g.X.cI, 8, .inl w_km)), (q_t_w_spoons, .inl (g.X.cI, 40, .inl w_spoons_51)), (q_t_w_tx0, .inr (3, [.ref q_t_w_tx0_parts, .ref q_t_w_tx0_stack, .int (w_tx_size 0)])), (q_t_w_tx0_parts, .inl (g.X.cI, 60, .inl (w_tx_parts 0))), (q_t_w_tx0_stack, .inl (g.X.cI, 60, .inl (w_tx_stack 0))), (q_t_w_tx1, .inr (3, [.ref q_t_w_tx1_parts, .ref q_t_w_tx1_stack, .int (w_tx_size 1)])), (q_t_w_tx1_parts, .inl (g.X.cI, 60, .inl (w_tx_parts 1))), (q_t_w_tx1_stack, .inl (g.X.cI, 60, .inl (w_tx_stack 1))), (q_t_errors, .inl (g.X.cI, 7, .inl c_errors))]) 11 [0, 2, 4, 5, 6, 7, 8, 9, 10] (by decide) rfl rfl (by rfl) [(q_t, .inr (6, [.ref q_t_w, .ref q_t_k, .int c_images, .ref q_t_errors, .ref q_t_sheets, .ref q_t_r, .ref q_t_th, .ref q_t_sp])), (q_t_w_km, .inl (g.X.cI, 8, .inl w_km)), (q_t_w_tx0, .inr (3, [.ref q_t_w_tx0_parts, .ref q_t_w_tx0_stack, .int (w_tx_size 0)])), (q_t_w_tx0_parts, .inl (g.X.cI, 60, .inl (w_tx_parts 0))), (q_t_w_tx0_stack, .inl (g.X.cI, 60, .inl (w_tx_stack 0))), (q_t_w_tx1, .inr (3, [.ref q_t_w_tx1_parts, .ref q_t_w_tx1_stack, .int (w_tx_size 1)])), (q_t_w_tx1_parts, .inl (g.X.cI, 60, .inl (w_tx_parts 1))), (q_t_w_tx1_stack, .inl (g.X.cI, 60, .inl (w_tx_stack 1))), (q_t_errors, .inl (g.X.cI, 7, .inl c_errors))] (by rfl) rfl ?_
    refine st_iadd G 55 rfl dX6_loose_54 ?_
    refine st_topi (fun x2_55 ex2_55 => ?_)
    have h := h x2_55 ex2_55
    refine st_istore_n G 56 rfl [(2, .int x2_55), (0, .ref q_t), (1, .int x1), (3, .int x3)] dX6_loose_55 rfl (by decide) rfl ?_
    refine st_aload_n G 57 rfl 1 rfl dX6_loose_56 rfl ?_
    refine st_get G inX6 rfl 0 (by decide) wd_16 60 rfl 0 rfl rfl dX6_loose_57 ?_
    refine st_cVv G lk_X6_181 (c_X5_goBy g.l g.D g.X q_t_w q_t_w_km q_t_w_father q_t_w_mother q_t_w_from q_t_w_spoons q_t_w_owed q_t_w_tape q_t_w_tx0 q_t_w_tx0_parts q_t_w_tx0_stack q_t_w_tx1 q_t_w_tx1_parts q_t_w_tx1_stack q_t_w_waiting w_people w_year w_z_51 w_bytes w_waits w_km w_spoons_51 w_tx_size w_tx_parts w_tx_stack _ h) ⟨rfl, rfl, ⟨Nat.le_of_ble_eq_true rfl, Nat.le_of_ble_eq_true rfl⟩, Nat.zero_le _, Nat.zero_le _⟩ 63 rfl [1, 2, 3, 4, 5, 6, 7, 8, 9] rfl (by decide) 0 5 rfl rfl rfl (Nat.le_of_ble_eq_true rfl) rfl dX6_loose_60 (fun w hq => ?_)
    obtain ⟨w_year_60, w_spoons_60, w_tx_stack_60, h, rfl⟩ := hq
    refine st_wp (ws' := [(q_t, .inr (6, [.ref q_t_w, .ref q_t_k, .int c_images, .ref q_t_errors, .ref q_t_sheets, .ref q_t_r, .ref q_t_th, .ref q_t_sp])), (q_t_w, .inr (5, [.int w_people, .ref q_t_w_km, .ref q_t_w_father, .ref q_t_w_mother, .ref q_t_w_from, .ref q_t_w_spoons, .ref q_t_w_owed, .int w_year_60, .int w_z_51, .ref q_t_w_tape, .int w_bytes, .ref q_t_w_tx0, .ref q_t_w_tx1, .ref q_t_w_waiting, .int w_waits])), (q_t_w_km, .inl (g.X.cI, 8, .inl w_km)), (q_t_w_spoons, .inl (g.X.cI, 40, .inl w_spoons_60)), (q_t_w_tx0, .inr (3, [.ref q_t_w_tx0_parts, .ref q_t_w_tx0_stack, .int (w_tx_size 0)])), (q_t_w_tx0_parts, .inl (g.X.cI, 60, .inl (w_tx_parts 0))), (q_t_w_tx0_stack, .inl (g.X.cI, 60, .inl (w_tx_stack_60 0))), (q_t_w_tx1, .inr (3, [.ref q_t_w_tx1_parts, .ref q_t_w_tx1_stack, .int (w_tx_size 1)])), (q_t_w_tx1_parts, .inl (g.X.cI, 60, .inl (w_tx_parts 1))), (q_t_w_tx1_stack, .inl (g.X.cI, 60, .inl (w_tx_stack_60 1))), (q_t_errors, .inl (g.X.cI, 7, .inl c_errors))]) 11 [0, 10] (by decide) rfl rfl (by rfl) [(q_t, .inr (6, [.ref q_t_w, .ref q_t_k, .int c_images, .ref q_t_errors, .ref q_t_sheets, .ref q_t_r, .ref q_t_th, .ref q_t_sp])), (q_t_errors, .inl (g.X.cI, 7, .inl c_errors))] (by rfl) rfl ?_
    obtain ⟨x3_63, ex3_63⟩ : ∃ y : Int32, y = (x3 + (1 : Int32)) := ⟨_, rfl⟩
    have h := h x3_63 ex3_63
    refine st_iinc G 66 rfl [(3, .int x3_63), (2, .int x2_55), (0, .ref q_t), (1, .int x1)] x3_63 3 rfl (by rw [ex3_63]; rfl) dX6_loose_63 (by decide) rfl ?_
    refine st_goto G 41 dX6_loose_66 rfl ?_
    refine st_L (L' := [(0, .ref q_t), (1, .int x1), (2, .int x2_55), (3, .int x3_63)]) [2, 3, 1, 0] rfl ?_
    exact hK41 _ _ _ _ _ _ _ _ h
set_option maxRecDepth 100000 in
set_option maxHeartbeats 4000000 in
theorem b_X6_loose_e {g : GT} (G : GOOD g RX6 cX6_loose 4 rm_X6_loose) {q_t q_t_w q_t_w_km q_t_w_father q_t_w_mother q_t_w_from q_t_w_spoons q_t_w_owed q_t_w_tape q_t_w_tx0 q_t_w_tx0_parts q_t_w_tx0_stack q_t_w_tx1 q_t_w_tx1_parts q_t_w_tx1_stack q_t_w_waiting q_t_k q_t_errors q_t_sheets q_t_r q_t_th q_t_sp : Nat} {c_images : Int32} {w_people : Int32} {w_year : Int32} {w_z : Int32} {w_bytes : Int32} {w_waits : Int32} {w_km : Nat → Int32} {w_spoons : Nat → Int32} {w_tx_size : Nat → Int32} {w_tx_parts : Nat → Nat → Int32} {w_tx_stack : Nat → Nat → Int32} {c_errors : Nat → Int32} {x1 : Int32} {Q : Int32 → (Int32) → (Int32) → (Nat → Int32) → (Nat → Nat → Int32) → (Nat → Int32) → Prop} (R : RETi g cX6_loose 11 (fun (r : Int32) w => ∃ (w_year' : Int32) (w_z' : Int32) (w_spoons' : Nat → Int32) (w_tx_stack' : Nat → Nat → Int32) (c_errors' : Nat → Int32), Q r w_year' w_z' w_spoons' w_tx_stack' c_errors' ∧ w = [(q_t, .inr (6, [.ref q_t_w, .ref q_t_k, .int c_images, .ref q_t_errors, .ref q_t_sheets, .ref q_t_r, .ref q_t_th, .ref q_t_sp])), (q_t_w, .inr (5, [.int w_people, .ref q_t_w_km, .ref q_t_w_father, .ref q_t_w_mother, .ref q_t_w_from, .ref q_t_w_spoons, .ref q_t_w_owed, .int w_year', .int w_z', .ref q_t_w_tape, .int w_bytes, .ref q_t_w_tx0, .ref q_t_w_tx1, .ref q_t_w_waiting, .int w_waits])), (q_t_w_km, .inl (g.X.cI, 8, .inl w_km)), (q_t_w_spoons, .inl (g.X.cI, 40, .inl w_spoons')), (q_t_w_tx0, .inr (3, [.ref q_t_w_tx0_parts, .ref q_t_w_tx0_stack, .int (w_tx_size 0)])), (q_t_w_tx0_parts, .inl (g.X.cI, 60, .inl (w_tx_parts 0))), (q_t_w_tx0_stack, .inl (g.X.cI, 60, .inl (w_tx_stack' 0))), (q_t_w_tx1, .inr (3, [.ref q_t_w_tx1_parts, .ref q_t_w_tx1_stack, .int (w_tx_size 1)])), (q_t_w_tx1_parts, .inl (g.X.cI, 60, .inl (w_tx_parts 1))), (q_t_w_tx1_stack, .inl (g.X.cI, 60, .inl (w_tx_stack' 1))), (q_t_errors, .inl (g.X.cI, 7, .inl c_errors'))])) (h : wp_X6_loose x1 w_people w_year w_z w_km w_spoons w_tx_size w_tx_parts w_tx_stack c_errors Q) : ST g 0 0 0 [(0, .ref q_t), (1, .int x1)] [] [(q_t, .inr (6, [.ref q_t_w, .ref q_t_k, .int c_images, .ref q_t_errors, .ref q_t_sheets, .ref q_t_r, .ref q_t_th, .ref q_t_sp])), (q_t_w, .inr (5, [.int w_people, .ref q_t_w_km, .ref q_t_w_father, .ref q_t_w_mother, .ref q_t_w_from, .ref q_t_w_spoons, .ref q_t_w_owed, .int w_year, .int w_z, .ref q_t_w_tape, .int w_bytes, .ref q_t_w_tx0, .ref q_t_w_tx1, .ref q_t_w_waiting, .int w_waits])), (q_t_w_km, .inl (g.X.cI, 8, .inl w_km)), (q_t_w_spoons, .inl (g.X.cI, 40, .inl w_spoons)), (q_t_w_tx0, .inr (3, [.ref q_t_w_tx0_parts, .ref q_t_w_tx0_stack, .int (w_tx_size 0)])), (q_t_w_tx0_parts, .inl (g.X.cI, 60, .inl (w_tx_parts 0))), (q_t_w_tx0_stack, .inl (g.X.cI, 60, .inl (w_tx_stack 0))), (q_t_w_tx1, .inr (3, [.ref q_t_w_tx1_parts, .ref q_t_w_tx1_stack, .int (w_tx_size 1)])), (q_t_w_tx1_parts, .inl (g.X.cI, 60, .inl (w_tx_parts 1))), (q_t_w_tx1_stack, .inl (g.X.cI, 60, .inl (w_tx_stack 1))), (q_t_errors, .inl (g.X.cI, 7, .inl c_errors))] := by
  unfold wp_X6_loose at h
  refine st_iload_n G 1 rfl 1 rfl dX6_loose_0 rfl ?_
  refine st_iconst G 2 rfl (1 : Int32) (by decide) dX6_loose_1 ?_
  refine st_bipush G 4 rfl (20 : Int32) (by decide) dX6_loose_2 ?_
  refine st_cSio G lk_X6_115 (c_X6_notWithin g.l g.D g.X x1 (1 : Int32) (20 : Int32) _ h) ⟨rfl, rfl, ⟨Nat.le_of_ble_eq_true rfl, Nat.le_of_ble_eq_true rfl⟩, Nat.zero_le _, Nat.zero_le _⟩ 7 rfl [] rfl (by decide) rfl (Nat.le_of_ble_eq_true rfl) rfl dX6_loose_4 (fun r_4 h => ?_)
  refine st_if_eq G 16 10 rfl dX6_loose_7 rfl (fun c => ?_) (fun c => ?_)
  · have h := h.1 c
    refine st_aload_n G 17 rfl 0 rfl dX6_loose_16 rfl ?_
    refine st_get G inX6 rfl 0 (by decide) wd_16 20 rfl 0 rfl rfl dX6_loose_17 ?_
    refine st_get G inX5 rfl 7 (by decide) wd_333 23 rfl 1 rfl rfl dX6_loose_20 ?_
    refine st_iload_n G 24 rfl 1 rfl dX6_loose_23 rfl ?_
    refine st_iadd G 25 rfl dX6_loose_24 ?_
    refine st_sipush G 28 rfl (999 : Int32) (by decide) dX6_loose_25 ?_
    refine st_icmp_le G 37 31 rfl dX6_loose_28 rfl (fun c => ?_) (fun c => ?_)
    · have h := h.1 c
      refine st_iconst G 38 rfl (0 : Int32) (by decide) dX6_loose_37 ?_
      refine st_istore_n G 39 rfl [(2, .int (0 : Int32)), (0, .ref q_t), (1, .int x1)] dX6_loose_38 rfl (by decide) rfl ?_
      refine st_iconst G 40 rfl (0 : Int32) (by decide) dX6_loose_39 ?_
      refine st_istore_n G 41 rfl [(3, .int (0 : Int32)), (2, .int (0 : Int32)), (0, .ref q_t), (1, .int x1)] dX6_loose_40 rfl (by decide) rfl ?_
      refine st_L (L' := [(0, .ref q_t), (1, .int x1), (2, .int (0 : Int32)), (3, .int (0 : Int32))]) [2, 3, 1, 0] rfl ?_
      obtain ⟨n, h⟩ := h
      exact b_X6_loose_41 G R n _ _ _ _ _ _ _ _ h
    have h := h.2 c
    refine st_aload_n G 32 rfl 0 rfl dX6_loose_31 rfl ?_
    refine st_iconst G 33 rfl (3 : Int32) (by decide) dX6_loose_32 ?_
    refine st_cVi G lk_X6_55 (c_X6_error g.l g.D g.X q_t q_t_w q_t_k q_t_errors q_t_sheets q_t_r q_t_th q_t_sp c_images c_errors (3 : Int32) _ h) ⟨rfl, rfl, ⟨Nat.le_of_ble_eq_true rfl, Nat.le_of_ble_eq_true rfl⟩, Nat.zero_le _, Nat.zero_le _⟩ 36 rfl [0, 10] rfl (by decide) 0 6 rfl rfl rfl (Nat.le_of_ble_eq_true rfl) rfl dX6_loose_33 (fun r_33 w hq => ?_)
    obtain ⟨c_errors_33, h, rfl⟩ := hq
    refine st_wp (ws' := [(q_t, .inr (6, [.ref q_t_w, .ref q_t_k, .int c_images, .ref q_t_errors, .ref q_t_sheets, .ref q_t_r, .ref q_t_th, .ref q_t_sp])), (q_t_w, .inr (5, [.int w_people, .ref q_t_w_km, .ref q_t_w_father, .ref q_t_w_mother, .ref q_t_w_from, .ref q_t_w_spoons, .ref q_t_w_owed, .int w_year, .int w_z, .ref q_t_w_tape, .int w_bytes, .ref q_t_w_tx0, .ref q_t_w_tx1, .ref q_t_w_waiting, .int w_waits])), (q_t_w_km, .inl (g.X.cI, 8, .inl w_km)), (q_t_w_spoons, .inl (g.X.cI, 40, .inl w_spoons)), (q_t_w_tx0, .inr (3, [.ref q_t_w_tx0_parts, .ref q_t_w_tx0_stack, .int (w_tx_size 0)])), (q_t_w_tx0_parts, .inl (g.X.cI, 60, .inl (w_tx_parts 0))), (q_t_w_tx0_stack, .inl (g.X.cI, 60, .inl (w_tx_stack 0))), (q_t_w_tx1, .inr (3, [.ref q_t_w_tx1_parts, .ref q_t_w_tx1_stack, .int (w_tx_size 1)])), (q_t_w_tx1_parts, .inl (g.X.cI, 60, .inl (w_tx_parts 1))), (q_t_w_tx1_stack, .inl (g.X.cI, 60, .inl (w_tx_stack 1))), (q_t_errors, .inl (g.X.cI, 7, .inl c_errors_33))]) 11 [1, 2, 3, 4, 5, 6, 7, 8, 9] (by decide) rfl rfl (by rfl) [(q_t_w, .inr (5, [.int w_people, .ref q_t_w_km, .ref q_t_w_father, .ref q_t_w_mother, .ref q_t_w_from, .ref q_t_w_spoons, .ref q_t_w_owed, .int w_year, .int w_z, .ref q_t_w_tape, .int w_bytes, .ref q_t_w_tx0, .ref q_t_w_tx1, .ref q_t_w_waiting, .int w_waits])), (q_t_w_km, .inl (g.X.cI, 8, .inl w_km)), (q_t_w_spoons, .inl (g.X.cI, 40, .inl w_spoons)), (q_t_w_tx0, .inr (3, [.ref q_t_w_tx0_parts, .ref q_t_w_tx0_stack, .int (w_tx_size 0)])), (q_t_w_tx0_parts, .inl (g.X.cI, 60, .inl (w_tx_parts 0))), (q_t_w_tx0_stack, .inl (g.X.cI, 60, .inl (w_tx_stack 0))), (q_t_w_tx1, .inr (3, [.ref q_t_w_tx1_parts, .ref q_t_w_tx1_stack, .int (w_tx_size 1)])), (q_t_w_tx1_parts, .inl (g.X.cI, 60, .inl (w_tx_parts 1))), (q_t_w_tx1_stack, .inl (g.X.cI, 60, .inl (w_tx_stack 1)))] (by rfl) rfl ?_
    exact R _ _ _ _ dX6_loose_36 (Nat.le_of_ble_eq_true rfl) ⟨_, _, _, _, _, h, rfl⟩
  have h := h.2 c
  refine st_aload_n G 11 rfl 0 rfl dX6_loose_10 rfl ?_
  refine st_iconst G 12 rfl (1 : Int32) (by decide) dX6_loose_11 ?_
  refine st_cVi G lk_X6_55 (c_X6_error g.l g.D g.X q_t q_t_w q_t_k q_t_errors q_t_sheets q_t_r q_t_th q_t_sp c_images c_errors (1 : Int32) _ h) ⟨rfl, rfl, ⟨Nat.le_of_ble_eq_true rfl, Nat.le_of_ble_eq_true rfl⟩, Nat.zero_le _, Nat.zero_le _⟩ 15 rfl [0, 10] rfl (by decide) 0 6 rfl rfl rfl (Nat.le_of_ble_eq_true rfl) rfl dX6_loose_12 (fun r_12 w hq => ?_)
  obtain ⟨c_errors_12, h, rfl⟩ := hq
  refine st_wp (ws' := [(q_t, .inr (6, [.ref q_t_w, .ref q_t_k, .int c_images, .ref q_t_errors, .ref q_t_sheets, .ref q_t_r, .ref q_t_th, .ref q_t_sp])), (q_t_w, .inr (5, [.int w_people, .ref q_t_w_km, .ref q_t_w_father, .ref q_t_w_mother, .ref q_t_w_from, .ref q_t_w_spoons, .ref q_t_w_owed, .int w_year, .int w_z, .ref q_t_w_tape, .int w_bytes, .ref q_t_w_tx0, .ref q_t_w_tx1, .ref q_t_w_waiting, .int w_waits])), (q_t_w_km, .inl (g.X.cI, 8, .inl w_km)), (q_t_w_spoons, .inl (g.X.cI, 40, .inl w_spoons)), (q_t_w_tx0, .inr (3, [.ref q_t_w_tx0_parts, .ref q_t_w_tx0_stack, .int (w_tx_size 0)])), (q_t_w_tx0_parts, .inl (g.X.cI, 60, .inl (w_tx_parts 0))), (q_t_w_tx0_stack, .inl (g.X.cI, 60, .inl (w_tx_stack 0))), (q_t_w_tx1, .inr (3, [.ref q_t_w_tx1_parts, .ref q_t_w_tx1_stack, .int (w_tx_size 1)])), (q_t_w_tx1_parts, .inl (g.X.cI, 60, .inl (w_tx_parts 1))), (q_t_w_tx1_stack, .inl (g.X.cI, 60, .inl (w_tx_stack 1))), (q_t_errors, .inl (g.X.cI, 7, .inl c_errors_12))]) 11 [1, 2, 3, 4, 5, 6, 7, 8, 9] (by decide) rfl rfl (by rfl) [(q_t_w, .inr (5, [.int w_people, .ref q_t_w_km, .ref q_t_w_father, .ref q_t_w_mother, .ref q_t_w_from, .ref q_t_w_spoons, .ref q_t_w_owed, .int w_year, .int w_z, .ref q_t_w_tape, .int w_bytes, .ref q_t_w_tx0, .ref q_t_w_tx1, .ref q_t_w_waiting, .int w_waits])), (q_t_w_km, .inl (g.X.cI, 8, .inl w_km)), (q_t_w_spoons, .inl (g.X.cI, 40, .inl w_spoons)), (q_t_w_tx0, .inr (3, [.ref q_t_w_tx0_parts, .ref q_t_w_tx0_stack, .int (w_tx_size 0)])), (q_t_w_tx0_parts, .inl (g.X.cI, 60, .inl (w_tx_parts 0))), (q_t_w_tx0_stack, .inl (g.X.cI, 60, .inl (w_tx_stack 0))), (q_t_w_tx1, .inr (3, [.ref q_t_w_tx1_parts, .ref q_t_w_tx1_stack, .int (w_tx_size 1)])), (q_t_w_tx1_parts, .inl (g.X.cI, 60, .inl (w_tx_parts 1))), (q_t_w_tx1_stack, .inl (g.X.cI, 60, .inl (w_tx_stack 1)))] (by rfl) rfl ?_
  exact R _ _ _ _ dX6_loose_15 (Nat.le_of_ble_eq_true rfl) ⟨_, _, _, _, _, h, rfl⟩
set_option maxRecDepth 100000 in
set_option maxHeartbeats 4000000 in
theorem c_X6_loose (l : Launch) (D : va_G) (X : XT) (q_t q_t_w q_t_w_km q_t_w_father q_t_w_mother q_t_w_from q_t_w_spoons q_t_w_owed q_t_w_tape q_t_w_tx0 q_t_w_tx0_parts q_t_w_tx0_stack q_t_w_tx1 q_t_w_tx1_parts q_t_w_tx1_stack q_t_w_waiting q_t_k q_t_errors q_t_sheets q_t_r q_t_th q_t_sp : Nat) (c_images : Int32) (w_people : Int32) (w_year : Int32) (w_z : Int32) (w_bytes : Int32) (w_waits : Int32) (w_km : Nat → Int32) (w_spoons : Nat → Int32) (w_tx_size : Nat → Int32) (w_tx_parts : Nat → Nat → Int32) (w_tx_stack : Nat → Nat → Int32) (c_errors : Nat → Int32) (x1 : Int32) (Q : Int32 → (Int32) → (Int32) → (Nat → Int32) → (Nat → Nat → Int32) → (Nat → Int32) → Prop) (h : wp_X6_loose x1 w_people w_year w_z w_km w_spoons w_tx_size w_tx_parts w_tx_stack c_errors Q) : CTi l D X yX6_loose cX6_loose 4 .int rm_X6_loose [.ref q_t, .int x1] [(q_t, .inr (6, [.ref q_t_w, .ref q_t_k, .int c_images, .ref q_t_errors, .ref q_t_sheets, .ref q_t_r, .ref q_t_th, .ref q_t_sp])), (q_t_w, .inr (5, [.int w_people, .ref q_t_w_km, .ref q_t_w_father, .ref q_t_w_mother, .ref q_t_w_from, .ref q_t_w_spoons, .ref q_t_w_owed, .int w_year, .int w_z, .ref q_t_w_tape, .int w_bytes, .ref q_t_w_tx0, .ref q_t_w_tx1, .ref q_t_w_waiting, .int w_waits])), (q_t_w_km, .inl (X.cI, 8, .inl w_km)), (q_t_w_spoons, .inl (X.cI, 40, .inl w_spoons)), (q_t_w_tx0, .inr (3, [.ref q_t_w_tx0_parts, .ref q_t_w_tx0_stack, .int (w_tx_size 0)])), (q_t_w_tx0_parts, .inl (X.cI, 60, .inl (w_tx_parts 0))), (q_t_w_tx0_stack, .inl (X.cI, 60, .inl (w_tx_stack 0))), (q_t_w_tx1, .inr (3, [.ref q_t_w_tx1_parts, .ref q_t_w_tx1_stack, .int (w_tx_size 1)])), (q_t_w_tx1_parts, .inl (X.cI, 60, .inl (w_tx_parts 1))), (q_t_w_tx1_stack, .inl (X.cI, 60, .inl (w_tx_stack 1))), (q_t_errors, .inl (X.cI, 7, .inl c_errors))] (fun (r : Int32) w => ∃ (w_year' : Int32) (w_z' : Int32) (w_spoons' : Nat → Int32) (w_tx_stack' : Nat → Nat → Int32) (c_errors' : Nat → Int32), Q r w_year' w_z' w_spoons' w_tx_stack' c_errors' ∧ w = [(q_t, .inr (6, [.ref q_t_w, .ref q_t_k, .int c_images, .ref q_t_errors, .ref q_t_sheets, .ref q_t_r, .ref q_t_th, .ref q_t_sp])), (q_t_w, .inr (5, [.int w_people, .ref q_t_w_km, .ref q_t_w_father, .ref q_t_w_mother, .ref q_t_w_from, .ref q_t_w_spoons, .ref q_t_w_owed, .int w_year', .int w_z', .ref q_t_w_tape, .int w_bytes, .ref q_t_w_tx0, .ref q_t_w_tx1, .ref q_t_w_waiting, .int w_waits])), (q_t_w_km, .inl (X.cI, 8, .inl w_km)), (q_t_w_spoons, .inl (X.cI, 40, .inl w_spoons')), (q_t_w_tx0, .inr (3, [.ref q_t_w_tx0_parts, .ref q_t_w_tx0_stack, .int (w_tx_size 0)])), (q_t_w_tx0_parts, .inl (X.cI, 60, .inl (w_tx_parts 0))), (q_t_w_tx0_stack, .inl (X.cI, 60, .inl (w_tx_stack' 0))), (q_t_w_tx1, .inr (3, [.ref q_t_w_tx1_parts, .ref q_t_w_tx1_stack, .int (w_tx_size 1)])), (q_t_w_tx1_parts, .inl (X.cI, 60, .inl (w_tx_parts 1))), (q_t_w_tx1_stack, .inl (X.cI, 60, .inl (w_tx_stack' 1))), (q_t_errors, .inl (X.cI, 7, .inl c_errors'))]) :=
  ct_i (by decide) (Nat.le_of_ble_eq_true rfl) (fun g hl hD hX G R => by subst hl; subst hD; subst hX; exact b_X6_loose_e G R h)
set_option maxRecDepth 100000 in
set_option maxHeartbeats 4000000 in
theorem b_X6_year_e {g : GT} (G : GOOD g RX6 cX6_year 3 rm_X6_year) {q_t q_t_w q_t_w_km q_t_w_father q_t_w_mother q_t_w_from q_t_w_spoons q_t_w_owed q_t_w_tape q_t_w_tx0 q_t_w_tx1 q_t_w_waiting q_t_k q_t_errors q_t_sheets q_t_r q_t_th q_t_sp : Nat} {c_images : Int32} {w_people : Int32} {w_year : Int32} {w_z : Int32} {w_bytes : Int32} {w_waits : Int32} {c_errors : Nat → Int32} {x1 : Int32} {Q : Int32 → (Int32) → (Nat → Int32) → Prop} (R : RETi g cX6_year 3 (fun (r : Int32) w => ∃ (w_year' : Int32) (c_errors' : Nat → Int32), Q r w_year' c_errors' ∧ w = [(q_t, .inr (6, [.ref q_t_w, .ref q_t_k, .int c_images, .ref q_t_errors, .ref q_t_sheets, .ref q_t_r, .ref q_t_th, .ref q_t_sp])), (q_t_w, .inr (5, [.int w_people, .ref q_t_w_km, .ref q_t_w_father, .ref q_t_w_mother, .ref q_t_w_from, .ref q_t_w_spoons, .ref q_t_w_owed, .int w_year', .int w_z, .ref q_t_w_tape, .int w_bytes, .ref q_t_w_tx0, .ref q_t_w_tx1, .ref q_t_w_waiting, .int w_waits])), (q_t_errors, .inl (g.X.cI, 7, .inl c_errors'))])) (h : wp_X6_year x1 w_year c_errors Q) : ST g 0 0 0 [(0, .ref q_t), (1, .int x1)] [] [(q_t, .inr (6, [.ref q_t_w, .ref q_t_k, .int c_images, .ref q_t_errors, .ref q_t_sheets, .ref q_t_r, .ref q_t_th, .ref q_t_sp])), (q_t_w, .inr (5, [.int w_people, .ref q_t_w_km, .ref q_t_w_father, .ref q_t_w_mother, .ref q_t_w_from, .ref q_t_w_spoons, .ref q_t_w_owed, .int w_year, .int w_z, .ref q_t_w_tape, .int w_bytes, .ref q_t_w_tx0, .ref q_t_w_tx1, .ref q_t_w_waiting, .int w_waits])), (q_t_errors, .inl (g.X.cI, 7, .inl c_errors))] := by
  unfold wp_X6_year at h
  refine st_iload_n G 1 rfl 1 rfl dX6_year_0 rfl ?_
  refine st_iconst G 2 rfl (0 : Int32) (by decide) dX6_year_1 ?_
  refine st_sipush G 5 rfl (999 : Int32) (by decide) dX6_year_2 ?_
  refine st_cSio G lk_X6_115 (c_X6_notWithin g.l g.D g.X x1 (0 : Int32) (999 : Int32) _ h) ⟨rfl, rfl, ⟨Nat.le_of_ble_eq_true rfl, Nat.le_of_ble_eq_true rfl⟩, Nat.zero_le _, Nat.zero_le _⟩ 8 rfl [] rfl (by decide) rfl (Nat.le_of_ble_eq_true rfl) rfl dX6_year_5 (fun r_5 h => ?_)
  refine st_if_eq G 17 11 rfl dX6_year_8 rfl (fun c => ?_) (fun c => ?_)
  · have h := h.1 c
    refine st_aload_n G 18 rfl 0 rfl dX6_year_17 rfl ?_
    refine st_get G inX6 rfl 0 (by decide) wd_16 21 rfl 0 rfl rfl dX6_year_18 ?_
    refine st_get G inX5 rfl 7 (by decide) wd_333 24 rfl 1 rfl rfl dX6_year_21 ?_
    refine st_istore_n G 25 rfl [(2, .int w_year), (0, .ref q_t), (1, .int x1)] dX6_year_24 rfl (by decide) rfl ?_
    refine st_aload_n G 26 rfl 1 rfl dX6_year_25 rfl ?_
    refine st_get G inX6 rfl 0 (by decide) wd_16 29 rfl 0 rfl rfl dX6_year_26 ?_
    refine st_iload_n G 30 rfl 2 rfl dX6_year_29 rfl ?_
    refine st_put G inX5 tyX5 tyX5_ok nmX5 rfl 7 (by decide) wd_333 rfl [(q_t, .inr (6, [.ref q_t_w, .ref q_t_k, .int c_images, .ref q_t_errors, .ref q_t_sheets, .ref q_t_r, .ref q_t_th, .ref q_t_sp])), (q_t_w, .inr (5, [.int w_people, .ref q_t_w_km, .ref q_t_w_father, .ref q_t_w_mother, .ref q_t_w_from, .ref q_t_w_spoons, .ref q_t_w_owed, .int x1, .int w_z, .ref q_t_w_tape, .int w_bytes, .ref q_t_w_tx0, .ref q_t_w_tx1, .ref q_t_w_waiting, .int w_waits])), (q_t_errors, .inl (g.X.cI, 7, .inl c_errors))] 33 rfl 1 rfl rfl rfl (Nat.le_of_ble_eq_true rfl) rfl dX6_year_30 ?_
    refine st_iload_n G 34 rfl 0 rfl dX6_year_33 rfl ?_
    exact R _ _ _ _ dX6_year_34 (Nat.le_of_ble_eq_true rfl) ⟨_, _, h, rfl⟩
  have h := h.2 c
  refine st_aload_n G 12 rfl 0 rfl dX6_year_11 rfl ?_
  refine st_iconst G 13 rfl (1 : Int32) (by decide) dX6_year_12 ?_
  refine st_cVi G lk_X6_55 (c_X6_error g.l g.D g.X q_t q_t_w q_t_k q_t_errors q_t_sheets q_t_r q_t_th q_t_sp c_images c_errors (1 : Int32) _ h) ⟨rfl, rfl, ⟨Nat.le_of_ble_eq_true rfl, Nat.le_of_ble_eq_true rfl⟩, Nat.zero_le _, Nat.zero_le _⟩ 16 rfl [0, 2] rfl (by decide) 0 6 rfl rfl rfl (Nat.le_of_ble_eq_true rfl) rfl dX6_year_13 (fun r_13 w hq => ?_)
  obtain ⟨c_errors_13, h, rfl⟩ := hq
  refine st_wp (ws' := [(q_t, .inr (6, [.ref q_t_w, .ref q_t_k, .int c_images, .ref q_t_errors, .ref q_t_sheets, .ref q_t_r, .ref q_t_th, .ref q_t_sp])), (q_t_w, .inr (5, [.int w_people, .ref q_t_w_km, .ref q_t_w_father, .ref q_t_w_mother, .ref q_t_w_from, .ref q_t_w_spoons, .ref q_t_w_owed, .int w_year, .int w_z, .ref q_t_w_tape, .int w_bytes, .ref q_t_w_tx0, .ref q_t_w_tx1, .ref q_t_w_waiting, .int w_waits])), (q_t_errors, .inl (g.X.cI, 7, .inl c_errors_13))]) 3 [1] (by decide) rfl rfl (by rfl) [(q_t_w, .inr (5, [.int w_people, .ref q_t_w_km, .ref q_t_w_father, .ref q_t_w_mother, .ref q_t_w_from, .ref q_t_w_spoons, .ref q_t_w_owed, .int w_year, .int w_z, .ref q_t_w_tape, .int w_bytes, .ref q_t_w_tx0, .ref q_t_w_tx1, .ref q_t_w_waiting, .int w_waits]))] (by rfl) rfl ?_
  exact R _ _ _ _ dX6_year_16 (Nat.le_of_ble_eq_true rfl) ⟨_, _, h, rfl⟩
set_option maxRecDepth 100000 in
set_option maxHeartbeats 4000000 in
theorem c_X6_year (l : Launch) (D : va_G) (X : XT) (q_t q_t_w q_t_w_km q_t_w_father q_t_w_mother q_t_w_from q_t_w_spoons q_t_w_owed q_t_w_tape q_t_w_tx0 q_t_w_tx1 q_t_w_waiting q_t_k q_t_errors q_t_sheets q_t_r q_t_th q_t_sp : Nat) (c_images : Int32) (w_people : Int32) (w_year : Int32) (w_z : Int32) (w_bytes : Int32) (w_waits : Int32) (c_errors : Nat → Int32) (x1 : Int32) (Q : Int32 → (Int32) → (Nat → Int32) → Prop) (h : wp_X6_year x1 w_year c_errors Q) : CTi l D X yX6_year cX6_year 3 .int rm_X6_year [.ref q_t, .int x1] [(q_t, .inr (6, [.ref q_t_w, .ref q_t_k, .int c_images, .ref q_t_errors, .ref q_t_sheets, .ref q_t_r, .ref q_t_th, .ref q_t_sp])), (q_t_w, .inr (5, [.int w_people, .ref q_t_w_km, .ref q_t_w_father, .ref q_t_w_mother, .ref q_t_w_from, .ref q_t_w_spoons, .ref q_t_w_owed, .int w_year, .int w_z, .ref q_t_w_tape, .int w_bytes, .ref q_t_w_tx0, .ref q_t_w_tx1, .ref q_t_w_waiting, .int w_waits])), (q_t_errors, .inl (X.cI, 7, .inl c_errors))] (fun (r : Int32) w => ∃ (w_year' : Int32) (c_errors' : Nat → Int32), Q r w_year' c_errors' ∧ w = [(q_t, .inr (6, [.ref q_t_w, .ref q_t_k, .int c_images, .ref q_t_errors, .ref q_t_sheets, .ref q_t_r, .ref q_t_th, .ref q_t_sp])), (q_t_w, .inr (5, [.int w_people, .ref q_t_w_km, .ref q_t_w_father, .ref q_t_w_mother, .ref q_t_w_from, .ref q_t_w_spoons, .ref q_t_w_owed, .int w_year', .int w_z, .ref q_t_w_tape, .int w_bytes, .ref q_t_w_tx0, .ref q_t_w_tx1, .ref q_t_w_waiting, .int w_waits])), (q_t_errors, .inl (X.cI, 7, .inl c_errors'))]) :=
  ct_i (by decide) (Nat.le_of_ble_eq_true rfl) (fun g hl hD hX G R => by subst hl; subst hD; subst hX; exact b_X6_year_e G R h)
set_option maxRecDepth 100000 in
set_option maxHeartbeats 4000000 in
theorem b_X6_seed_e {g : GT} (G : GOOD g RX6 cX6_seed 3 rm_X6_seed) {q_t q_t_w q_t_w_km q_t_w_father q_t_w_mother q_t_w_from q_t_w_spoons q_t_w_owed q_t_w_tape q_t_w_tx0 q_t_w_tx1 q_t_w_waiting q_t_k q_t_errors q_t_sheets q_t_r q_t_th q_t_sp : Nat} {c_images : Int32} {w_people : Int32} {w_year : Int32} {w_z : Int32} {w_bytes : Int32} {w_waits : Int32} {x1 : Int32} {Q : Int32 → (Int32) → Prop} (R : RETi g cX6_seed 2 (fun (r : Int32) w => ∃ (w_z' : Int32), Q r w_z' ∧ w = [(q_t, .inr (6, [.ref q_t_w, .ref q_t_k, .int c_images, .ref q_t_errors, .ref q_t_sheets, .ref q_t_r, .ref q_t_th, .ref q_t_sp])), (q_t_w, .inr (5, [.int w_people, .ref q_t_w_km, .ref q_t_w_father, .ref q_t_w_mother, .ref q_t_w_from, .ref q_t_w_spoons, .ref q_t_w_owed, .int w_year, .int w_z', .ref q_t_w_tape, .int w_bytes, .ref q_t_w_tx0, .ref q_t_w_tx1, .ref q_t_w_waiting, .int w_waits]))])) (h : wp_X6_seed x1 w_z Q) : ST g 0 0 0 [(0, .ref q_t), (1, .int x1)] [] [(q_t, .inr (6, [.ref q_t_w, .ref q_t_k, .int c_images, .ref q_t_errors, .ref q_t_sheets, .ref q_t_r, .ref q_t_th, .ref q_t_sp])), (q_t_w, .inr (5, [.int w_people, .ref q_t_w_km, .ref q_t_w_father, .ref q_t_w_mother, .ref q_t_w_from, .ref q_t_w_spoons, .ref q_t_w_owed, .int w_year, .int w_z, .ref q_t_w_tape, .int w_bytes, .ref q_t_w_tx0, .ref q_t_w_tx1, .ref q_t_w_waiting, .int w_waits]))] := by
  unfold wp_X6_seed at h
  refine st_aload_n G 1 rfl 0 rfl dX6_seed_0 rfl ?_
  refine st_get G inX6 rfl 0 (by decide) wd_16 4 rfl 0 rfl rfl dX6_seed_1 ?_
  refine st_get G inX5 rfl 8 (by decide) wd_623 7 rfl 1 rfl rfl dX6_seed_4 ?_
  refine st_istore_n G 8 rfl [(2, .int w_z), (0, .ref q_t), (1, .int x1)] dX6_seed_7 rfl (by decide) rfl ?_
  refine st_aload_n G 9 rfl 1 rfl dX6_seed_8 rfl ?_
  refine st_get G inX6 rfl 0 (by decide) wd_16 12 rfl 0 rfl rfl dX6_seed_9 ?_
  refine st_iload_n G 13 rfl 2 rfl dX6_seed_12 rfl ?_
  refine st_put G inX5 tyX5 tyX5_ok nmX5 rfl 8 (by decide) wd_623 rfl [(q_t, .inr (6, [.ref q_t_w, .ref q_t_k, .int c_images, .ref q_t_errors, .ref q_t_sheets, .ref q_t_r, .ref q_t_th, .ref q_t_sp])), (q_t_w, .inr (5, [.int w_people, .ref q_t_w_km, .ref q_t_w_father, .ref q_t_w_mother, .ref q_t_w_from, .ref q_t_w_spoons, .ref q_t_w_owed, .int w_year, .int x1, .ref q_t_w_tape, .int w_bytes, .ref q_t_w_tx0, .ref q_t_w_tx1, .ref q_t_w_waiting, .int w_waits]))] 16 rfl 1 rfl rfl rfl (Nat.le_of_ble_eq_true rfl) rfl dX6_seed_13 ?_
  refine st_iload_n G 17 rfl 0 rfl dX6_seed_16 rfl ?_
  exact R _ _ _ _ dX6_seed_17 (Nat.le_of_ble_eq_true rfl) ⟨_, h, rfl⟩
set_option maxRecDepth 100000 in
set_option maxHeartbeats 4000000 in
theorem c_X6_seed (l : Launch) (D : va_G) (X : XT) (q_t q_t_w q_t_w_km q_t_w_father q_t_w_mother q_t_w_from q_t_w_spoons q_t_w_owed q_t_w_tape q_t_w_tx0 q_t_w_tx1 q_t_w_waiting q_t_k q_t_errors q_t_sheets q_t_r q_t_th q_t_sp : Nat) (c_images : Int32) (w_people : Int32) (w_year : Int32) (w_z : Int32) (w_bytes : Int32) (w_waits : Int32) (x1 : Int32) (Q : Int32 → (Int32) → Prop) (h : wp_X6_seed x1 w_z Q) : CTi l D X yX6_seed cX6_seed 3 .int rm_X6_seed [.ref q_t, .int x1] [(q_t, .inr (6, [.ref q_t_w, .ref q_t_k, .int c_images, .ref q_t_errors, .ref q_t_sheets, .ref q_t_r, .ref q_t_th, .ref q_t_sp])), (q_t_w, .inr (5, [.int w_people, .ref q_t_w_km, .ref q_t_w_father, .ref q_t_w_mother, .ref q_t_w_from, .ref q_t_w_spoons, .ref q_t_w_owed, .int w_year, .int w_z, .ref q_t_w_tape, .int w_bytes, .ref q_t_w_tx0, .ref q_t_w_tx1, .ref q_t_w_waiting, .int w_waits]))] (fun (r : Int32) w => ∃ (w_z' : Int32), Q r w_z' ∧ w = [(q_t, .inr (6, [.ref q_t_w, .ref q_t_k, .int c_images, .ref q_t_errors, .ref q_t_sheets, .ref q_t_r, .ref q_t_th, .ref q_t_sp])), (q_t_w, .inr (5, [.int w_people, .ref q_t_w_km, .ref q_t_w_father, .ref q_t_w_mother, .ref q_t_w_from, .ref q_t_w_spoons, .ref q_t_w_owed, .int w_year, .int w_z', .ref q_t_w_tape, .int w_bytes, .ref q_t_w_tx0, .ref q_t_w_tx1, .ref q_t_w_waiting, .int w_waits]))]) :=
  ct_i (by decide) (Nat.le_of_ble_eq_true rfl) (fun g hl hD hX G R => by subst hl; subst hD; subst hX; exact b_X6_seed_e G R h)
set_option maxRecDepth 100000 in
set_option maxHeartbeats 4000000 in
theorem b_X4_later_15 {g : GT} (G : GOOD g RX4 cX4_later 8 rm_X4_later) {q_t q_t_cells q_t_sums q_t_groups q_a1 q_a1_km q_a1_father q_a1_mother q_a1_from q_a1_spoons q_a1_owed q_a1_tape q_a1_tx0 q_a1_tx0_parts q_a1_tx0_stack q_a1_tx1 q_a1_tx1_parts q_a1_tx1_stack q_a1_waiting : Nat} {a1_people : Int32} {a1_year : Int32} {a1_z : Int32} {a1_bytes : Int32} {a1_waits : Int32} {a1_km : Nat → Int32} {a1_spoons : Nat → Int32} {a1_tx_size : Nat → Int32} {a1_tx_parts : Nat → Nat → Int32} {Q : Int32 → (Nat → Nat → Int32) → Prop} (R : RETi g cX4_later 10 (fun (r : Int32) w => ∃ (a1_tx_stack' : Nat → Nat → Int32), Q r a1_tx_stack' ∧ w = [(q_t, .inr (4, [.ref q_t_cells, .ref q_t_sums, .ref q_t_groups])), (q_a1, .inr (5, [.int a1_people, .ref q_a1_km, .ref q_a1_father, .ref q_a1_mother, .ref q_a1_from, .ref q_a1_spoons, .ref q_a1_owed, .int a1_year, .int a1_z, .ref q_a1_tape, .int a1_bytes, .ref q_a1_tx0, .ref q_a1_tx1, .ref q_a1_waiting, .int a1_waits])), (q_a1_km, .inl (g.X.cI, 8, .inl a1_km)), (q_a1_spoons, .inl (g.X.cI, 40, .inl a1_spoons)), (q_a1_tx0, .inr (3, [.ref q_a1_tx0_parts, .ref q_a1_tx0_stack, .int (a1_tx_size 0)])), (q_a1_tx0_parts, .inl (g.X.cI, 60, .inl (a1_tx_parts 0))), (q_a1_tx0_stack, .inl (g.X.cI, 60, .inl (a1_tx_stack' 0))), (q_a1_tx1, .inr (3, [.ref q_a1_tx1_parts, .ref q_a1_tx1_stack, .int (a1_tx_size 1)])), (q_a1_tx1_parts, .inl (g.X.cI, 60, .inl (a1_tx_parts 1))), (q_a1_tx1_stack, .inl (g.X.cI, 60, .inl (a1_tx_stack' 1)))])) : ∀ (n : Nat) (x2 : Int32) (x3 : Int32) (x4 : Int32) (x5 : Int32) (x6 : Int32) (a1_tx_stack : Nat → Nat → Int32), wp_X4_later_b15 Q a1_year a1_km a1_spoons a1_tx_size a1_tx_parts n x2 x3 x4 x5 x6 a1_tx_stack → ST g 0 0 15 [(1, .ref q_a1), (2, .int x2), (3, .int x3), (4, .int x4), (5, .int x5), (6, .int x6)] [] [(q_t, .inr (4, [.ref q_t_cells, .ref q_t_sums, .ref q_t_groups])), (q_a1, .inr (5, [.int a1_people, .ref q_a1_km, .ref q_a1_father, .ref q_a1_mother, .ref q_a1_from, .ref q_a1_spoons, .ref q_a1_owed, .int a1_year, .int a1_z, .ref q_a1_tape, .int a1_bytes, .ref q_a1_tx0, .ref q_a1_tx1, .ref q_a1_waiting, .int a1_waits])), (q_a1_km, .inl (g.X.cI, 8, .inl a1_km)), (q_a1_spoons, .inl (g.X.cI, 40, .inl a1_spoons)), (q_a1_tx0, .inr (3, [.ref q_a1_tx0_parts, .ref q_a1_tx0_stack, .int (a1_tx_size 0)])), (q_a1_tx0_parts, .inl (g.X.cI, 60, .inl (a1_tx_parts 0))), (q_a1_tx0_stack, .inl (g.X.cI, 60, .inl (a1_tx_stack 0))), (q_a1_tx1, .inr (3, [.ref q_a1_tx1_parts, .ref q_a1_tx1_stack, .int (a1_tx_size 1)])), (q_a1_tx1_parts, .inl (g.X.cI, 60, .inl (a1_tx_parts 1))), (q_a1_tx1_stack, .inl (g.X.cI, 60, .inl (a1_tx_stack 1)))] := by
  intro n
  induction n with
  | zero => intro x2 x3 x4 x5 x6 a1_tx_stack h; exact False.elim h
  | succ n hK15 =>
    intro x2 x3 x4 x5 x6 a1_tx_stack h
    unfold wp_X4_later_b15 at h
    refine st_iload G 17 rfl 5 rfl dX4_later_15 ?_
    refine st_iload G 19 rfl 3 rfl dX4_later_17 ?_
    refine st_icmp_ge G 58 22 rfl dX4_later_19 rfl (fun c => ?_) (fun c => ?_)
    · have h := h.1 c
      refine st_iload G 60 rfl 4 rfl dX4_later_58 ?_
      exact R _ _ _ _ dX4_later_60 (Nat.le_of_ble_eq_true rfl) ⟨_, h, rfl⟩
    have h := h.2 c
    refine st_aload_n G 23 rfl 0 rfl dX4_later_22 rfl ?_
    refine st_iload_n G 24 rfl 1 rfl dX4_later_23 rfl ?_
    refine st_iload_n G 25 rfl 2 rfl dX4_later_24 rfl ?_
    refine st_iload G 27 rfl 4 rfl dX4_later_25 ?_
    refine st_aload_n G 28 rfl 0 rfl dX4_later_27 rfl ?_
    refine st_get G inX5 rfl 7 (by decide) wd_637 31 rfl 1 rfl rfl dX4_later_28 ?_
    refine st_iload G 33 rfl 5 rfl dX4_later_31 ?_
    refine st_iadd G 34 rfl dX4_later_33 ?_
    refine st_cVi G lk_X4_34 (c_X5_gainOf g.l g.D g.X q_a1 q_a1_km q_a1_father q_a1_mother q_a1_from q_a1_spoons q_a1_owed q_a1_tape q_a1_tx0 q_a1_tx0_parts q_a1_tx0_stack q_a1_tx1 q_a1_tx1_parts q_a1_tx1_stack q_a1_waiting a1_people a1_year a1_z a1_bytes a1_waits a1_km a1_tx_size a1_tx_parts a1_tx_stack x2 x3 x5 (a1_year + x6) _ h) ⟨rfl, rfl, ⟨Nat.le_of_ble_eq_true rfl, Nat.le_of_ble_eq_true rfl⟩, Nat.zero_le _, Nat.zero_le _⟩ 37 rfl [1, 2, 4, 5, 6, 7, 8, 9] rfl (by decide) 0 5 rfl rfl rfl (Nat.le_of_ble_eq_true rfl) rfl dX4_later_34 (fun r_34 w hq => ?_)
    obtain ⟨a1_tx_stack_34, h, rfl⟩ := hq
    refine st_wp (ws' := [(q_t, .inr (4, [.ref q_t_cells, .ref q_t_sums, .ref q_t_groups])), (q_a1, .inr (5, [.int a1_people, .ref q_a1_km, .ref q_a1_father, .ref q_a1_mother, .ref q_a1_from, .ref q_a1_spoons, .ref q_a1_owed, .int a1_year, .int a1_z, .ref q_a1_tape, .int a1_bytes, .ref q_a1_tx0, .ref q_a1_tx1, .ref q_a1_waiting, .int a1_waits])), (q_a1_km, .inl (g.X.cI, 8, .inl a1_km)), (q_a1_spoons, .inl (g.X.cI, 40, .inl a1_spoons)), (q_a1_tx0, .inr (3, [.ref q_a1_tx0_parts, .ref q_a1_tx0_stack, .int (a1_tx_size 0)])), (q_a1_tx0_parts, .inl (g.X.cI, 60, .inl (a1_tx_parts 0))), (q_a1_tx0_stack, .inl (g.X.cI, 60, .inl (a1_tx_stack_34 0))), (q_a1_tx1, .inr (3, [.ref q_a1_tx1_parts, .ref q_a1_tx1_stack, .int (a1_tx_size 1)])), (q_a1_tx1_parts, .inl (g.X.cI, 60, .inl (a1_tx_parts 1))), (q_a1_tx1_stack, .inl (g.X.cI, 60, .inl (a1_tx_stack_34 1)))]) 10 [0, 3] (by decide) rfl rfl (by rfl) [(q_t, .inr (4, [.ref q_t_cells, .ref q_t_sums, .ref q_t_groups])), (q_a1_spoons, .inl (g.X.cI, 40, .inl a1_spoons))] (by rfl) rfl ?_
    refine st_istore G 39 rfl [(7, .int r_34), (1, .ref q_a1), (2, .int x2), (3, .int x3), (4, .int x4), (5, .int x5), (6, .int x6)] dX4_later_37 (by decide) rfl ?_
    refine st_iload G 41 rfl 5 rfl dX4_later_39 ?_
    refine st_iload G 43 rfl 0 rfl dX4_later_41 ?_
    refine st_iadd G 44 rfl dX4_later_43 ?_
    refine st_iconst G 45 rfl (0 : Int32) (by decide) dX4_later_44 ?_
    refine st_bipush G 47 rfl (99 : Int32) (by decide) dX4_later_45 ?_
    refine st_cNio G lk_X4_38 (c_X6_held g.l g.D g.X (x5 + r_34) (0 : Int32) (99 : Int32) _ h) ⟨rfl, rfl, ⟨Nat.le_of_ble_eq_true rfl, Nat.le_of_ble_eq_true rfl⟩, Nat.zero_le _, Nat.zero_le _⟩ 50 rfl [] rfl (by decide) rfl (Nat.le_of_ble_eq_true rfl) rfl dX4_later_47 (fun r_47 h => ?_)
    refine st_istore G 52 rfl [(5, .int r_47), (7, .int r_34), (1, .ref q_a1), (2, .int x2), (3, .int x3), (4, .int x4), (6, .int x6)] dX4_later_50 (by decide) rfl ?_
    obtain ⟨x6_52, ex6_52⟩ : ∃ y : Int32, y = (x6 + (1 : Int32)) := ⟨_, rfl⟩
    have h := h x6_52 ex6_52
    refine st_iinc G 55 rfl [(6, .int x6_52), (5, .int r_47), (7, .int r_34), (1, .ref q_a1), (2, .int x2), (3, .int x3), (4, .int x4)] x6_52 6 rfl (by rw [ex6_52]; rfl) dX4_later_52 (by decide) rfl ?_
    refine st_goto G 15 dX4_later_55 rfl ?_
    refine st_L (L' := [(1, .ref q_a1), (2, .int x2), (3, .int x3), (4, .int x4), (5, .int r_47), (6, .int x6_52)]) [3, 4, 5, 6, 1, 0] rfl ?_
    exact hK15 _ _ _ _ _ _ h
set_option maxRecDepth 100000 in
set_option maxHeartbeats 4000000 in
theorem b_X4_later_e {g : GT} (G : GOOD g RX4 cX4_later 8 rm_X4_later) {q_t q_t_cells q_t_sums q_t_groups q_a1 q_a1_km q_a1_father q_a1_mother q_a1_from q_a1_spoons q_a1_owed q_a1_tape q_a1_tx0 q_a1_tx0_parts q_a1_tx0_stack q_a1_tx1 q_a1_tx1_parts q_a1_tx1_stack q_a1_waiting : Nat} {a1_people : Int32} {a1_year : Int32} {a1_z : Int32} {a1_bytes : Int32} {a1_waits : Int32} {a1_km : Nat → Int32} {a1_spoons : Nat → Int32} {a1_tx_size : Nat → Int32} {a1_tx_parts : Nat → Nat → Int32} {a1_tx_stack : Nat → Nat → Int32} {x2 : Int32} {x3 : Int32} {x4 : Int32} {Q : Int32 → (Nat → Nat → Int32) → Prop} (R : RETi g cX4_later 10 (fun (r : Int32) w => ∃ (a1_tx_stack' : Nat → Nat → Int32), Q r a1_tx_stack' ∧ w = [(q_t, .inr (4, [.ref q_t_cells, .ref q_t_sums, .ref q_t_groups])), (q_a1, .inr (5, [.int a1_people, .ref q_a1_km, .ref q_a1_father, .ref q_a1_mother, .ref q_a1_from, .ref q_a1_spoons, .ref q_a1_owed, .int a1_year, .int a1_z, .ref q_a1_tape, .int a1_bytes, .ref q_a1_tx0, .ref q_a1_tx1, .ref q_a1_waiting, .int a1_waits])), (q_a1_km, .inl (g.X.cI, 8, .inl a1_km)), (q_a1_spoons, .inl (g.X.cI, 40, .inl a1_spoons)), (q_a1_tx0, .inr (3, [.ref q_a1_tx0_parts, .ref q_a1_tx0_stack, .int (a1_tx_size 0)])), (q_a1_tx0_parts, .inl (g.X.cI, 60, .inl (a1_tx_parts 0))), (q_a1_tx0_stack, .inl (g.X.cI, 60, .inl (a1_tx_stack' 0))), (q_a1_tx1, .inr (3, [.ref q_a1_tx1_parts, .ref q_a1_tx1_stack, .int (a1_tx_size 1)])), (q_a1_tx1_parts, .inl (g.X.cI, 60, .inl (a1_tx_parts 1))), (q_a1_tx1_stack, .inl (g.X.cI, 60, .inl (a1_tx_stack' 1)))])) (h : wp_X4_later x2 x3 x4 a1_year a1_km a1_spoons a1_tx_size a1_tx_parts a1_tx_stack Q) : ST g 0 0 0 [(0, .ref q_t), (1, .ref q_a1), (2, .int x2), (3, .int x3), (4, .int x4)] [] [(q_t, .inr (4, [.ref q_t_cells, .ref q_t_sums, .ref q_t_groups])), (q_a1, .inr (5, [.int a1_people, .ref q_a1_km, .ref q_a1_father, .ref q_a1_mother, .ref q_a1_from, .ref q_a1_spoons, .ref q_a1_owed, .int a1_year, .int a1_z, .ref q_a1_tape, .int a1_bytes, .ref q_a1_tx0, .ref q_a1_tx1, .ref q_a1_waiting, .int a1_waits])), (q_a1_km, .inl (g.X.cI, 8, .inl a1_km)), (q_a1_spoons, .inl (g.X.cI, 40, .inl a1_spoons)), (q_a1_tx0, .inr (3, [.ref q_a1_tx0_parts, .ref q_a1_tx0_stack, .int (a1_tx_size 0)])), (q_a1_tx0_parts, .inl (g.X.cI, 60, .inl (a1_tx_parts 0))), (q_a1_tx0_stack, .inl (g.X.cI, 60, .inl (a1_tx_stack 0))), (q_a1_tx1, .inr (3, [.ref q_a1_tx1_parts, .ref q_a1_tx1_stack, .int (a1_tx_size 1)])), (q_a1_tx1_parts, .inl (g.X.cI, 60, .inl (a1_tx_parts 1))), (q_a1_tx1_stack, .inl (g.X.cI, 60, .inl (a1_tx_stack 1)))] := by
  unfold wp_X4_later at h
  refine st_aload_n G 1 rfl 1 rfl dX4_later_0 rfl ?_
  refine st_get G inX5 rfl 5 (by decide) wd_636 4 rfl 1 rfl rfl dX4_later_1 ?_
  refine st_iload_n G 5 rfl 2 rfl dX4_later_4 rfl ?_
  refine st_iload_n G 6 rfl 3 rfl dX4_later_5 rfl ?_
  refine st_cNio G lk_X4_26 (c_X6_cell g.l g.D g.X x2 x3 _ h) ⟨rfl, rfl, ⟨Nat.le_of_ble_eq_true rfl, Nat.le_of_ble_eq_true rfl⟩, Nat.zero_le _, Nat.zero_le _⟩ 9 rfl [] rfl (by decide) rfl (Nat.le_of_ble_eq_true rfl) rfl dX4_later_6 (fun r_6 h => ?_)
  obtain ⟨hin, h⟩ := h
  refine st_iald G 10 rfl 3 rfl hin dX4_later_9 ?_
  refine st_topi (fun x5_10 ex5_10 => ?_)
  have h := h x5_10 ex5_10
  refine st_istore G 12 rfl [(5, .int x5_10), (0, .ref q_t), (1, .ref q_a1), (2, .int x2), (3, .int x3), (4, .int x4)] dX4_later_10 (by decide) rfl ?_
  refine st_iconst G 13 rfl (0 : Int32) (by decide) dX4_later_12 ?_
  refine st_istore G 15 rfl [(6, .int (0 : Int32)), (5, .int x5_10), (0, .ref q_t), (1, .ref q_a1), (2, .int x2), (3, .int x3), (4, .int x4)] dX4_later_13 (by decide) rfl ?_
  refine st_L (L' := [(1, .ref q_a1), (2, .int x2), (3, .int x3), (4, .int x4), (5, .int x5_10), (6, .int (0 : Int32))]) [3, 4, 5, 6, 1, 0] rfl ?_
  obtain ⟨n, h⟩ := h
  exact b_X4_later_15 G R n _ _ _ _ _ _ h
set_option maxRecDepth 100000 in
set_option maxHeartbeats 4000000 in
theorem c_X4_later (l : Launch) (D : va_G) (X : XT) (q_t q_t_cells q_t_sums q_t_groups q_a1 q_a1_km q_a1_father q_a1_mother q_a1_from q_a1_spoons q_a1_owed q_a1_tape q_a1_tx0 q_a1_tx0_parts q_a1_tx0_stack q_a1_tx1 q_a1_tx1_parts q_a1_tx1_stack q_a1_waiting : Nat) (a1_people : Int32) (a1_year : Int32) (a1_z : Int32) (a1_bytes : Int32) (a1_waits : Int32) (a1_km : Nat → Int32) (a1_spoons : Nat → Int32) (a1_tx_size : Nat → Int32) (a1_tx_parts : Nat → Nat → Int32) (a1_tx_stack : Nat → Nat → Int32) (x2 : Int32) (x3 : Int32) (x4 : Int32) (Q : Int32 → (Nat → Nat → Int32) → Prop) (h : wp_X4_later x2 x3 x4 a1_year a1_km a1_spoons a1_tx_size a1_tx_parts a1_tx_stack Q) : CTi l D X yX4_later cX4_later 8 .int rm_X4_later [.ref q_t, .ref q_a1, .int x2, .int x3, .int x4] [(q_t, .inr (4, [.ref q_t_cells, .ref q_t_sums, .ref q_t_groups])), (q_a1, .inr (5, [.int a1_people, .ref q_a1_km, .ref q_a1_father, .ref q_a1_mother, .ref q_a1_from, .ref q_a1_spoons, .ref q_a1_owed, .int a1_year, .int a1_z, .ref q_a1_tape, .int a1_bytes, .ref q_a1_tx0, .ref q_a1_tx1, .ref q_a1_waiting, .int a1_waits])), (q_a1_km, .inl (X.cI, 8, .inl a1_km)), (q_a1_spoons, .inl (X.cI, 40, .inl a1_spoons)), (q_a1_tx0, .inr (3, [.ref q_a1_tx0_parts, .ref q_a1_tx0_stack, .int (a1_tx_size 0)])), (q_a1_tx0_parts, .inl (X.cI, 60, .inl (a1_tx_parts 0))), (q_a1_tx0_stack, .inl (X.cI, 60, .inl (a1_tx_stack 0))), (q_a1_tx1, .inr (3, [.ref q_a1_tx1_parts, .ref q_a1_tx1_stack, .int (a1_tx_size 1)])), (q_a1_tx1_parts, .inl (X.cI, 60, .inl (a1_tx_parts 1))), (q_a1_tx1_stack, .inl (X.cI, 60, .inl (a1_tx_stack 1)))] (fun (r : Int32) w => ∃ (a1_tx_stack' : Nat → Nat → Int32), Q r a1_tx_stack' ∧ w = [(q_t, .inr (4, [.ref q_t_cells, .ref q_t_sums, .ref q_t_groups])), (q_a1, .inr (5, [.int a1_people, .ref q_a1_km, .ref q_a1_father, .ref q_a1_mother, .ref q_a1_from, .ref q_a1_spoons, .ref q_a1_owed, .int a1_year, .int a1_z, .ref q_a1_tape, .int a1_bytes, .ref q_a1_tx0, .ref q_a1_tx1, .ref q_a1_waiting, .int a1_waits])), (q_a1_km, .inl (X.cI, 8, .inl a1_km)), (q_a1_spoons, .inl (X.cI, 40, .inl a1_spoons)), (q_a1_tx0, .inr (3, [.ref q_a1_tx0_parts, .ref q_a1_tx0_stack, .int (a1_tx_size 0)])), (q_a1_tx0_parts, .inl (X.cI, 60, .inl (a1_tx_parts 0))), (q_a1_tx0_stack, .inl (X.cI, 60, .inl (a1_tx_stack' 0))), (q_a1_tx1, .inr (3, [.ref q_a1_tx1_parts, .ref q_a1_tx1_stack, .int (a1_tx_size 1)])), (q_a1_tx1_parts, .inl (X.cI, 60, .inl (a1_tx_parts 1))), (q_a1_tx1_stack, .inl (X.cI, 60, .inl (a1_tx_stack' 1)))]) :=
  ct_i (by decide) (Nat.le_of_ble_eq_true rfl) (fun g hl hD hX G R => by subst hl; subst hD; subst hX; exact b_X4_later_e G R h)
set_option maxRecDepth 100000 in
set_option maxHeartbeats 4000000 in
theorem b_X6_then_e {g : GT} (G : GOOD g RX6 cX6_then 4 rm_X6_then) {q_t q_t_w q_t_w_km q_t_w_father q_t_w_mother q_t_w_from q_t_w_spoons q_t_w_owed q_t_w_tape q_t_w_tx0 q_t_w_tx0_parts q_t_w_tx0_stack q_t_w_tx1 q_t_w_tx1_parts q_t_w_tx1_stack q_t_w_waiting q_t_k q_t_errors q_t_sheets q_t_r q_t_th q_t_th_cells q_t_th_sums q_t_th_groups q_t_sp : Nat} {c_images : Int32} {w_people : Int32} {w_year : Int32} {w_z : Int32} {w_bytes : Int32} {w_waits : Int32} {w_km : Nat → Int32} {w_spoons : Nat → Int32} {w_tx_size : Nat → Int32} {w_tx_parts : Nat → Nat → Int32} {w_tx_stack : Nat → Nat → Int32} {c_errors : Nat → Int32} {x1 : Int32} {x2 : Int32} {x3 : Int32} {Q : Int32 → (Nat → Nat → Int32) → (Nat → Int32) → Prop} (R : RETi g cX6_then 12 (fun (r : Int32) w => ∃ (w_tx_stack' : Nat → Nat → Int32) (c_errors' : Nat → Int32), Q r w_tx_stack' c_errors' ∧ w = [(q_t, .inr (6, [.ref q_t_w, .ref q_t_k, .int c_images, .ref q_t_errors, .ref q_t_sheets, .ref q_t_r, .ref q_t_th, .ref q_t_sp])), (q_t_w, .inr (5, [.int w_people, .ref q_t_w_km, .ref q_t_w_father, .ref q_t_w_mother, .ref q_t_w_from, .ref q_t_w_spoons, .ref q_t_w_owed, .int w_year, .int w_z, .ref q_t_w_tape, .int w_bytes, .ref q_t_w_tx0, .ref q_t_w_tx1, .ref q_t_w_waiting, .int w_waits])), (q_t_w_km, .inl (g.X.cI, 8, .inl w_km)), (q_t_w_spoons, .inl (g.X.cI, 40, .inl w_spoons)), (q_t_w_tx0, .inr (3, [.ref q_t_w_tx0_parts, .ref q_t_w_tx0_stack, .int (w_tx_size 0)])), (q_t_w_tx0_parts, .inl (g.X.cI, 60, .inl (w_tx_parts 0))), (q_t_w_tx0_stack, .inl (g.X.cI, 60, .inl (w_tx_stack' 0))), (q_t_w_tx1, .inr (3, [.ref q_t_w_tx1_parts, .ref q_t_w_tx1_stack, .int (w_tx_size 1)])), (q_t_w_tx1_parts, .inl (g.X.cI, 60, .inl (w_tx_parts 1))), (q_t_w_tx1_stack, .inl (g.X.cI, 60, .inl (w_tx_stack' 1))), (q_t_errors, .inl (g.X.cI, 7, .inl c_errors')), (q_t_th, .inr (4, [.ref q_t_th_cells, .ref q_t_th_sums, .ref q_t_th_groups]))])) (h : wp_X6_then x1 x2 x3 w_people w_year w_km w_spoons w_tx_size w_tx_parts w_tx_stack c_errors Q) : ST g 0 0 0 [(0, .ref q_t), (1, .int x1), (2, .int x2), (3, .int x3)] [] [(q_t, .inr (6, [.ref q_t_w, .ref q_t_k, .int c_images, .ref q_t_errors, .ref q_t_sheets, .ref q_t_r, .ref q_t_th, .ref q_t_sp])), (q_t_w, .inr (5, [.int w_people, .ref q_t_w_km, .ref q_t_w_father, .ref q_t_w_mother, .ref q_t_w_from, .ref q_t_w_spoons, .ref q_t_w_owed, .int w_year, .int w_z, .ref q_t_w_tape, .int w_bytes, .ref q_t_w_tx0, .ref q_t_w_tx1, .ref q_t_w_waiting, .int w_waits])), (q_t_w_km, .inl (g.X.cI, 8, .inl w_km)), (q_t_w_spoons, .inl (g.X.cI, 40, .inl w_spoons)), (q_t_w_tx0, .inr (3, [.ref q_t_w_tx0_parts, .ref q_t_w_tx0_stack, .int (w_tx_size 0)])), (q_t_w_tx0_parts, .inl (g.X.cI, 60, .inl (w_tx_parts 0))), (q_t_w_tx0_stack, .inl (g.X.cI, 60, .inl (w_tx_stack 0))), (q_t_w_tx1, .inr (3, [.ref q_t_w_tx1_parts, .ref q_t_w_tx1_stack, .int (w_tx_size 1)])), (q_t_w_tx1_parts, .inl (g.X.cI, 60, .inl (w_tx_parts 1))), (q_t_w_tx1_stack, .inl (g.X.cI, 60, .inl (w_tx_stack 1))), (q_t_errors, .inl (g.X.cI, 7, .inl c_errors)), (q_t_th, .inr (4, [.ref q_t_th_cells, .ref q_t_th_sums, .ref q_t_th_groups]))] := by
  unfold wp_X6_then at h
  refine st_aload_n G 1 rfl 0 rfl dX6_then_0 rfl ?_
  refine st_iload_n G 2 rfl 1 rfl dX6_then_1 rfl ?_
  refine st_cVio G lk_X6_74 (c_X6_notOne g.l g.D g.X q_t q_t_w q_t_w_km q_t_w_father q_t_w_mother q_t_w_from q_t_w_spoons q_t_w_owed q_t_w_tape q_t_w_tx0 q_t_w_tx1 q_t_w_waiting q_t_k q_t_errors q_t_sheets q_t_r q_t_th q_t_sp c_images w_people w_year w_z w_bytes w_waits x1 _ h) ⟨rfl, rfl, ⟨Nat.le_of_ble_eq_true rfl, Nat.le_of_ble_eq_true rfl⟩, Nat.zero_le _, Nat.zero_le _⟩ 5 rfl [0, 1] rfl (by decide) 0 6 rfl rfl rfl (Nat.le_of_ble_eq_true rfl) rfl dX6_then_2 (fun r_2 h => ?_)
  refine st_if_ne G 25 8 rfl dX6_then_5 rfl (fun c => ?_) (fun c => ?_)
  · have h := h.1 c
    refine st_aload_n G 26 rfl 0 rfl dX6_then_25 rfl ?_
    refine st_iconst G 27 rfl (1 : Int32) (by decide) dX6_then_26 ?_
    refine st_cVi G lk_X6_55 (c_X6_error g.l g.D g.X q_t q_t_w q_t_k q_t_errors q_t_sheets q_t_r q_t_th q_t_sp c_images c_errors (1 : Int32) _ h) ⟨rfl, rfl, ⟨Nat.le_of_ble_eq_true rfl, Nat.le_of_ble_eq_true rfl⟩, Nat.zero_le _, Nat.zero_le _⟩ 30 rfl [0, 10] rfl (by decide) 0 6 rfl rfl rfl (Nat.le_of_ble_eq_true rfl) rfl dX6_then_27 (fun r_27 w hq => ?_)
    obtain ⟨c_errors_27, h, rfl⟩ := hq
    refine st_wp (ws' := [(q_t, .inr (6, [.ref q_t_w, .ref q_t_k, .int c_images, .ref q_t_errors, .ref q_t_sheets, .ref q_t_r, .ref q_t_th, .ref q_t_sp])), (q_t_w, .inr (5, [.int w_people, .ref q_t_w_km, .ref q_t_w_father, .ref q_t_w_mother, .ref q_t_w_from, .ref q_t_w_spoons, .ref q_t_w_owed, .int w_year, .int w_z, .ref q_t_w_tape, .int w_bytes, .ref q_t_w_tx0, .ref q_t_w_tx1, .ref q_t_w_waiting, .int w_waits])), (q_t_w_km, .inl (g.X.cI, 8, .inl w_km)), (q_t_w_spoons, .inl (g.X.cI, 40, .inl w_spoons)), (q_t_w_tx0, .inr (3, [.ref q_t_w_tx0_parts, .ref q_t_w_tx0_stack, .int (w_tx_size 0)])), (q_t_w_tx0_parts, .inl (g.X.cI, 60, .inl (w_tx_parts 0))), (q_t_w_tx0_stack, .inl (g.X.cI, 60, .inl (w_tx_stack 0))), (q_t_w_tx1, .inr (3, [.ref q_t_w_tx1_parts, .ref q_t_w_tx1_stack, .int (w_tx_size 1)])), (q_t_w_tx1_parts, .inl (g.X.cI, 60, .inl (w_tx_parts 1))), (q_t_w_tx1_stack, .inl (g.X.cI, 60, .inl (w_tx_stack 1))), (q_t_errors, .inl (g.X.cI, 7, .inl c_errors_27)), (q_t_th, .inr (4, [.ref q_t_th_cells, .ref q_t_th_sums, .ref q_t_th_groups]))]) 12 [1, 2, 3, 4, 5, 6, 7, 8, 9, 11] (by decide) rfl rfl (by rfl) [(q_t_w, .inr (5, [.int w_people, .ref q_t_w_km, .ref q_t_w_father, .ref q_t_w_mother, .ref q_t_w_from, .ref q_t_w_spoons, .ref q_t_w_owed, .int w_year, .int w_z, .ref q_t_w_tape, .int w_bytes, .ref q_t_w_tx0, .ref q_t_w_tx1, .ref q_t_w_waiting, .int w_waits])), (q_t_w_km, .inl (g.X.cI, 8, .inl w_km)), (q_t_w_spoons, .inl (g.X.cI, 40, .inl w_spoons)), (q_t_w_tx0, .inr (3, [.ref q_t_w_tx0_parts, .ref q_t_w_tx0_stack, .int (w_tx_size 0)])), (q_t_w_tx0_parts, .inl (g.X.cI, 60, .inl (w_tx_parts 0))), (q_t_w_tx0_stack, .inl (g.X.cI, 60, .inl (w_tx_stack 0))), (q_t_w_tx1, .inr (3, [.ref q_t_w_tx1_parts, .ref q_t_w_tx1_stack, .int (w_tx_size 1)])), (q_t_w_tx1_parts, .inl (g.X.cI, 60, .inl (w_tx_parts 1))), (q_t_w_tx1_stack, .inl (g.X.cI, 60, .inl (w_tx_stack 1))), (q_t_th, .inr (4, [.ref q_t_th_cells, .ref q_t_th_sums, .ref q_t_th_groups]))] (by rfl) rfl ?_
    exact R _ _ _ _ dX6_then_30 (Nat.le_of_ble_eq_true rfl) ⟨_, _, h, rfl⟩
  have h := h.2 c
  refine st_iload_n G 9 rfl 2 rfl dX6_then_8 rfl ?_
  refine st_cSio G lk_X6_108 (c_X6_notSort g.l g.D g.X x2 _ h) ⟨rfl, rfl, ⟨Nat.le_of_ble_eq_true rfl, Nat.le_of_ble_eq_true rfl⟩, Nat.zero_le _, Nat.zero_le _⟩ 12 rfl [] rfl (by decide) rfl (Nat.le_of_ble_eq_true rfl) rfl dX6_then_9 (fun r_9 h => ?_)
  refine st_if_ne G 25 15 rfl dX6_then_12 rfl (fun c => ?_) (fun c => ?_)
  · have h := h.1 c
    refine st_aload_n G 26 rfl 0 rfl dX6_then_25 rfl ?_
    refine st_iconst G 27 rfl (1 : Int32) (by decide) dX6_then_26 ?_
    refine st_cVi G lk_X6_55 (c_X6_error g.l g.D g.X q_t q_t_w q_t_k q_t_errors q_t_sheets q_t_r q_t_th q_t_sp c_images c_errors (1 : Int32) _ h) ⟨rfl, rfl, ⟨Nat.le_of_ble_eq_true rfl, Nat.le_of_ble_eq_true rfl⟩, Nat.zero_le _, Nat.zero_le _⟩ 30 rfl [0, 10] rfl (by decide) 0 6 rfl rfl rfl (Nat.le_of_ble_eq_true rfl) rfl dX6_then_27 (fun r_27 w hq => ?_)
    obtain ⟨c_errors_27, h, rfl⟩ := hq
    refine st_wp (ws' := [(q_t, .inr (6, [.ref q_t_w, .ref q_t_k, .int c_images, .ref q_t_errors, .ref q_t_sheets, .ref q_t_r, .ref q_t_th, .ref q_t_sp])), (q_t_w, .inr (5, [.int w_people, .ref q_t_w_km, .ref q_t_w_father, .ref q_t_w_mother, .ref q_t_w_from, .ref q_t_w_spoons, .ref q_t_w_owed, .int w_year, .int w_z, .ref q_t_w_tape, .int w_bytes, .ref q_t_w_tx0, .ref q_t_w_tx1, .ref q_t_w_waiting, .int w_waits])), (q_t_w_km, .inl (g.X.cI, 8, .inl w_km)), (q_t_w_spoons, .inl (g.X.cI, 40, .inl w_spoons)), (q_t_w_tx0, .inr (3, [.ref q_t_w_tx0_parts, .ref q_t_w_tx0_stack, .int (w_tx_size 0)])), (q_t_w_tx0_parts, .inl (g.X.cI, 60, .inl (w_tx_parts 0))), (q_t_w_tx0_stack, .inl (g.X.cI, 60, .inl (w_tx_stack 0))), (q_t_w_tx1, .inr (3, [.ref q_t_w_tx1_parts, .ref q_t_w_tx1_stack, .int (w_tx_size 1)])), (q_t_w_tx1_parts, .inl (g.X.cI, 60, .inl (w_tx_parts 1))), (q_t_w_tx1_stack, .inl (g.X.cI, 60, .inl (w_tx_stack 1))), (q_t_errors, .inl (g.X.cI, 7, .inl c_errors_27)), (q_t_th, .inr (4, [.ref q_t_th_cells, .ref q_t_th_sums, .ref q_t_th_groups]))]) 12 [1, 2, 3, 4, 5, 6, 7, 8, 9, 11] (by decide) rfl rfl (by rfl) [(q_t_w, .inr (5, [.int w_people, .ref q_t_w_km, .ref q_t_w_father, .ref q_t_w_mother, .ref q_t_w_from, .ref q_t_w_spoons, .ref q_t_w_owed, .int w_year, .int w_z, .ref q_t_w_tape, .int w_bytes, .ref q_t_w_tx0, .ref q_t_w_tx1, .ref q_t_w_waiting, .int w_waits])), (q_t_w_km, .inl (g.X.cI, 8, .inl w_km)), (q_t_w_spoons, .inl (g.X.cI, 40, .inl w_spoons)), (q_t_w_tx0, .inr (3, [.ref q_t_w_tx0_parts, .ref q_t_w_tx0_stack, .int (w_tx_size 0)])), (q_t_w_tx0_parts, .inl (g.X.cI, 60, .inl (w_tx_parts 0))), (q_t_w_tx0_stack, .inl (g.X.cI, 60, .inl (w_tx_stack 0))), (q_t_w_tx1, .inr (3, [.ref q_t_w_tx1_parts, .ref q_t_w_tx1_stack, .int (w_tx_size 1)])), (q_t_w_tx1_parts, .inl (g.X.cI, 60, .inl (w_tx_parts 1))), (q_t_w_tx1_stack, .inl (g.X.cI, 60, .inl (w_tx_stack 1))), (q_t_th, .inr (4, [.ref q_t_th_cells, .ref q_t_th_sums, .ref q_t_th_groups]))] (by rfl) rfl ?_
    exact R _ _ _ _ dX6_then_30 (Nat.le_of_ble_eq_true rfl) ⟨_, _, h, rfl⟩
  have h := h.2 c
  refine st_iload_n G 16 rfl 3 rfl dX6_then_15 rfl ?_
  refine st_iconst G 17 rfl (0 : Int32) (by decide) dX6_then_16 ?_
  refine st_bipush G 19 rfl (60 : Int32) (by decide) dX6_then_17 ?_
  refine st_cSio G lk_X6_115 (c_X6_notWithin g.l g.D g.X x3 (0 : Int32) (60 : Int32) _ h) ⟨rfl, rfl, ⟨Nat.le_of_ble_eq_true rfl, Nat.le_of_ble_eq_true rfl⟩, Nat.zero_le _, Nat.zero_le _⟩ 22 rfl [] rfl (by decide) rfl (Nat.le_of_ble_eq_true rfl) rfl dX6_then_19 (fun r_19 h => ?_)
  refine st_if_eq G 31 25 rfl dX6_then_22 rfl (fun c => ?_) (fun c => ?_)
  · have h := h.1 c
    refine st_aload_n G 32 rfl 0 rfl dX6_then_31 rfl ?_
    refine st_get G inX6 rfl 6 (by decide) wd_31 35 rfl 0 rfl rfl dX6_then_32 ?_
    refine st_aload_n G 36 rfl 0 rfl dX6_then_35 rfl ?_
    refine st_get G inX6 rfl 0 (by decide) wd_16 39 rfl 0 rfl rfl dX6_then_36 ?_
    refine st_iload_n G 40 rfl 1 rfl dX6_then_39 rfl ?_
    refine st_iload_n G 41 rfl 2 rfl dX6_then_40 rfl ?_
    refine st_iload_n G 42 rfl 3 rfl dX6_then_41 rfl ?_
    refine st_cVi G lk_X6_191 (c_X4_later g.l g.D g.X q_t_th q_t_th_cells q_t_th_sums q_t_th_groups q_t_w q_t_w_km q_t_w_father q_t_w_mother q_t_w_from q_t_w_spoons q_t_w_owed q_t_w_tape q_t_w_tx0 q_t_w_tx0_parts q_t_w_tx0_stack q_t_w_tx1 q_t_w_tx1_parts q_t_w_tx1_stack q_t_w_waiting w_people w_year w_z w_bytes w_waits w_km w_spoons w_tx_size w_tx_parts w_tx_stack x1 x2 x3 _ h) ⟨rfl, rfl, ⟨Nat.le_of_ble_eq_true rfl, Nat.le_of_ble_eq_true rfl⟩, Nat.zero_le _, Nat.zero_le _⟩ 45 rfl [11, 1, 2, 3, 4, 5, 6, 7, 8, 9] rfl (by decide) 0 4 rfl rfl rfl (Nat.le_of_ble_eq_true rfl) rfl dX6_then_42 (fun r_42 w hq => ?_)
    obtain ⟨w_tx_stack_42, h, rfl⟩ := hq
    refine st_wp (ws' := [(q_t, .inr (6, [.ref q_t_w, .ref q_t_k, .int c_images, .ref q_t_errors, .ref q_t_sheets, .ref q_t_r, .ref q_t_th, .ref q_t_sp])), (q_t_w, .inr (5, [.int w_people, .ref q_t_w_km, .ref q_t_w_father, .ref q_t_w_mother, .ref q_t_w_from, .ref q_t_w_spoons, .ref q_t_w_owed, .int w_year, .int w_z, .ref q_t_w_tape, .int w_bytes, .ref q_t_w_tx0, .ref q_t_w_tx1, .ref q_t_w_waiting, .int w_waits])), (q_t_w_km, .inl (g.X.cI, 8, .inl w_km)), (q_t_w_spoons, .inl (g.X.cI, 40, .inl w_spoons)), (q_t_w_tx0, .inr (3, [.ref q_t_w_tx0_parts, .ref q_t_w_tx0_stack, .int (w_tx_size 0)])), (q_t_w_tx0_parts, .inl (g.X.cI, 60, .inl (w_tx_parts 0))), (q_t_w_tx0_stack, .inl (g.X.cI, 60, .inl (w_tx_stack_42 0))), (q_t_w_tx1, .inr (3, [.ref q_t_w_tx1_parts, .ref q_t_w_tx1_stack, .int (w_tx_size 1)])), (q_t_w_tx1_parts, .inl (g.X.cI, 60, .inl (w_tx_parts 1))), (q_t_w_tx1_stack, .inl (g.X.cI, 60, .inl (w_tx_stack_42 1))), (q_t_errors, .inl (g.X.cI, 7, .inl c_errors)), (q_t_th, .inr (4, [.ref q_t_th_cells, .ref q_t_th_sums, .ref q_t_th_groups]))]) 12 [0, 10] (by decide) rfl rfl (by rfl) [(q_t, .inr (6, [.ref q_t_w, .ref q_t_k, .int c_images, .ref q_t_errors, .ref q_t_sheets, .ref q_t_r, .ref q_t_th, .ref q_t_sp])), (q_t_errors, .inl (g.X.cI, 7, .inl c_errors))] (by rfl) rfl ?_
    exact R _ _ _ _ dX6_then_45 (Nat.le_of_ble_eq_true rfl) ⟨_, _, h, rfl⟩
  have h := h.2 c
  refine st_aload_n G 26 rfl 0 rfl dX6_then_25 rfl ?_
  refine st_iconst G 27 rfl (1 : Int32) (by decide) dX6_then_26 ?_
  refine st_cVi G lk_X6_55 (c_X6_error g.l g.D g.X q_t q_t_w q_t_k q_t_errors q_t_sheets q_t_r q_t_th q_t_sp c_images c_errors (1 : Int32) _ h) ⟨rfl, rfl, ⟨Nat.le_of_ble_eq_true rfl, Nat.le_of_ble_eq_true rfl⟩, Nat.zero_le _, Nat.zero_le _⟩ 30 rfl [0, 10] rfl (by decide) 0 6 rfl rfl rfl (Nat.le_of_ble_eq_true rfl) rfl dX6_then_27 (fun r_27 w hq => ?_)
  obtain ⟨c_errors_27, h, rfl⟩ := hq
  refine st_wp (ws' := [(q_t, .inr (6, [.ref q_t_w, .ref q_t_k, .int c_images, .ref q_t_errors, .ref q_t_sheets, .ref q_t_r, .ref q_t_th, .ref q_t_sp])), (q_t_w, .inr (5, [.int w_people, .ref q_t_w_km, .ref q_t_w_father, .ref q_t_w_mother, .ref q_t_w_from, .ref q_t_w_spoons, .ref q_t_w_owed, .int w_year, .int w_z, .ref q_t_w_tape, .int w_bytes, .ref q_t_w_tx0, .ref q_t_w_tx1, .ref q_t_w_waiting, .int w_waits])), (q_t_w_km, .inl (g.X.cI, 8, .inl w_km)), (q_t_w_spoons, .inl (g.X.cI, 40, .inl w_spoons)), (q_t_w_tx0, .inr (3, [.ref q_t_w_tx0_parts, .ref q_t_w_tx0_stack, .int (w_tx_size 0)])), (q_t_w_tx0_parts, .inl (g.X.cI, 60, .inl (w_tx_parts 0))), (q_t_w_tx0_stack, .inl (g.X.cI, 60, .inl (w_tx_stack 0))), (q_t_w_tx1, .inr (3, [.ref q_t_w_tx1_parts, .ref q_t_w_tx1_stack, .int (w_tx_size 1)])), (q_t_w_tx1_parts, .inl (g.X.cI, 60, .inl (w_tx_parts 1))), (q_t_w_tx1_stack, .inl (g.X.cI, 60, .inl (w_tx_stack 1))), (q_t_errors, .inl (g.X.cI, 7, .inl c_errors_27)), (q_t_th, .inr (4, [.ref q_t_th_cells, .ref q_t_th_sums, .ref q_t_th_groups]))]) 12 [1, 2, 3, 4, 5, 6, 7, 8, 9, 11] (by decide) rfl rfl (by rfl) [(q_t_w, .inr (5, [.int w_people, .ref q_t_w_km, .ref q_t_w_father, .ref q_t_w_mother, .ref q_t_w_from, .ref q_t_w_spoons, .ref q_t_w_owed, .int w_year, .int w_z, .ref q_t_w_tape, .int w_bytes, .ref q_t_w_tx0, .ref q_t_w_tx1, .ref q_t_w_waiting, .int w_waits])), (q_t_w_km, .inl (g.X.cI, 8, .inl w_km)), (q_t_w_spoons, .inl (g.X.cI, 40, .inl w_spoons)), (q_t_w_tx0, .inr (3, [.ref q_t_w_tx0_parts, .ref q_t_w_tx0_stack, .int (w_tx_size 0)])), (q_t_w_tx0_parts, .inl (g.X.cI, 60, .inl (w_tx_parts 0))), (q_t_w_tx0_stack, .inl (g.X.cI, 60, .inl (w_tx_stack 0))), (q_t_w_tx1, .inr (3, [.ref q_t_w_tx1_parts, .ref q_t_w_tx1_stack, .int (w_tx_size 1)])), (q_t_w_tx1_parts, .inl (g.X.cI, 60, .inl (w_tx_parts 1))), (q_t_w_tx1_stack, .inl (g.X.cI, 60, .inl (w_tx_stack 1))), (q_t_th, .inr (4, [.ref q_t_th_cells, .ref q_t_th_sums, .ref q_t_th_groups]))] (by rfl) rfl ?_
  exact R _ _ _ _ dX6_then_30 (Nat.le_of_ble_eq_true rfl) ⟨_, _, h, rfl⟩
set_option maxRecDepth 100000 in
set_option maxHeartbeats 4000000 in
theorem c_X6_then (l : Launch) (D : va_G) (X : XT) (q_t q_t_w q_t_w_km q_t_w_father q_t_w_mother q_t_w_from q_t_w_spoons q_t_w_owed q_t_w_tape q_t_w_tx0 q_t_w_tx0_parts q_t_w_tx0_stack q_t_w_tx1 q_t_w_tx1_parts q_t_w_tx1_stack q_t_w_waiting q_t_k q_t_errors q_t_sheets q_t_r q_t_th q_t_th_cells q_t_th_sums q_t_th_groups q_t_sp : Nat) (c_images : Int32) (w_people : Int32) (w_year : Int32) (w_z : Int32) (w_bytes : Int32) (w_waits : Int32) (w_km : Nat → Int32) (w_spoons : Nat → Int32) (w_tx_size : Nat → Int32) (w_tx_parts : Nat → Nat → Int32) (w_tx_stack : Nat → Nat → Int32) (c_errors : Nat → Int32) (x1 : Int32) (x2 : Int32) (x3 : Int32) (Q : Int32 → (Nat → Nat → Int32) → (Nat → Int32) → Prop) (h : wp_X6_then x1 x2 x3 w_people w_year w_km w_spoons w_tx_size w_tx_parts w_tx_stack c_errors Q) : CTi l D X yX6_then cX6_then 4 .int rm_X6_then [.ref q_t, .int x1, .int x2, .int x3] [(q_t, .inr (6, [.ref q_t_w, .ref q_t_k, .int c_images, .ref q_t_errors, .ref q_t_sheets, .ref q_t_r, .ref q_t_th, .ref q_t_sp])), (q_t_w, .inr (5, [.int w_people, .ref q_t_w_km, .ref q_t_w_father, .ref q_t_w_mother, .ref q_t_w_from, .ref q_t_w_spoons, .ref q_t_w_owed, .int w_year, .int w_z, .ref q_t_w_tape, .int w_bytes, .ref q_t_w_tx0, .ref q_t_w_tx1, .ref q_t_w_waiting, .int w_waits])), (q_t_w_km, .inl (X.cI, 8, .inl w_km)), (q_t_w_spoons, .inl (X.cI, 40, .inl w_spoons)), (q_t_w_tx0, .inr (3, [.ref q_t_w_tx0_parts, .ref q_t_w_tx0_stack, .int (w_tx_size 0)])), (q_t_w_tx0_parts, .inl (X.cI, 60, .inl (w_tx_parts 0))), (q_t_w_tx0_stack, .inl (X.cI, 60, .inl (w_tx_stack 0))), (q_t_w_tx1, .inr (3, [.ref q_t_w_tx1_parts, .ref q_t_w_tx1_stack, .int (w_tx_size 1)])), (q_t_w_tx1_parts, .inl (X.cI, 60, .inl (w_tx_parts 1))), (q_t_w_tx1_stack, .inl (X.cI, 60, .inl (w_tx_stack 1))), (q_t_errors, .inl (X.cI, 7, .inl c_errors)), (q_t_th, .inr (4, [.ref q_t_th_cells, .ref q_t_th_sums, .ref q_t_th_groups]))] (fun (r : Int32) w => ∃ (w_tx_stack' : Nat → Nat → Int32) (c_errors' : Nat → Int32), Q r w_tx_stack' c_errors' ∧ w = [(q_t, .inr (6, [.ref q_t_w, .ref q_t_k, .int c_images, .ref q_t_errors, .ref q_t_sheets, .ref q_t_r, .ref q_t_th, .ref q_t_sp])), (q_t_w, .inr (5, [.int w_people, .ref q_t_w_km, .ref q_t_w_father, .ref q_t_w_mother, .ref q_t_w_from, .ref q_t_w_spoons, .ref q_t_w_owed, .int w_year, .int w_z, .ref q_t_w_tape, .int w_bytes, .ref q_t_w_tx0, .ref q_t_w_tx1, .ref q_t_w_waiting, .int w_waits])), (q_t_w_km, .inl (X.cI, 8, .inl w_km)), (q_t_w_spoons, .inl (X.cI, 40, .inl w_spoons)), (q_t_w_tx0, .inr (3, [.ref q_t_w_tx0_parts, .ref q_t_w_tx0_stack, .int (w_tx_size 0)])), (q_t_w_tx0_parts, .inl (X.cI, 60, .inl (w_tx_parts 0))), (q_t_w_tx0_stack, .inl (X.cI, 60, .inl (w_tx_stack' 0))), (q_t_w_tx1, .inr (3, [.ref q_t_w_tx1_parts, .ref q_t_w_tx1_stack, .int (w_tx_size 1)])), (q_t_w_tx1_parts, .inl (X.cI, 60, .inl (w_tx_parts 1))), (q_t_w_tx1_stack, .inl (X.cI, 60, .inl (w_tx_stack' 1))), (q_t_errors, .inl (X.cI, 7, .inl c_errors')), (q_t_th, .inr (4, [.ref q_t_th_cells, .ref q_t_th_sums, .ref q_t_th_groups]))]) :=
  ct_i (by decide) (Nat.le_of_ble_eq_true rfl) (fun g hl hD hX G R => by subst hl; subst hD; subst hX; exact b_X6_then_e G R h)
set_option maxRecDepth 100000 in
set_option maxHeartbeats 4000000 in
theorem b_X4_firstBelow_46 {g : GT} (G : GOOD g RX4 cX4_firstBelow 5 rm_X4_firstBelow) {q_t q_t_cells q_t_sums q_t_groups q_a1 q_a1_km q_a1_father q_a1_mother q_a1_from q_a1_spoons q_a1_owed q_a1_tape q_a1_tx0 q_a1_tx0_parts q_a1_tx0_stack q_a1_tx1 q_a1_tx1_parts q_a1_tx1_stack q_a1_waiting : Nat} {a1_people : Int32} {a1_year : Int32} {a1_z : Int32} {a1_bytes : Int32} {a1_waits : Int32} {a1_km : Nat → Int32} {a1_spoons : Nat → Int32} {a1_tx_size : Nat → Int32} {a1_tx_parts : Nat → Nat → Int32} {Q : Int32 → (Nat → Int32) → (Nat → Nat → Int32) → Prop} {KK17 : (Int32) → (Int32) → (Nat → Int32) → (Nat → Nat → Int32) → Prop} (R : RETi g cX4_firstBelow 11 (fun (r : Int32) w => ∃ (c_cells' : Nat → Int32) (a1_tx_stack' : Nat → Nat → Int32), Q r c_cells' a1_tx_stack' ∧ w = [(q_t, .inr (4, [.ref q_t_cells, .ref q_t_sums, .ref q_t_groups])), (q_t_cells, .inl (g.X.cI, 40, .inl c_cells')), (q_a1, .inr (5, [.int a1_people, .ref q_a1_km, .ref q_a1_father, .ref q_a1_mother, .ref q_a1_from, .ref q_a1_spoons, .ref q_a1_owed, .int a1_year, .int a1_z, .ref q_a1_tape, .int a1_bytes, .ref q_a1_tx0, .ref q_a1_tx1, .ref q_a1_waiting, .int a1_waits])), (q_a1_km, .inl (g.X.cI, 8, .inl a1_km)), (q_a1_spoons, .inl (g.X.cI, 40, .inl a1_spoons)), (q_a1_tx0, .inr (3, [.ref q_a1_tx0_parts, .ref q_a1_tx0_stack, .int (a1_tx_size 0)])), (q_a1_tx0_parts, .inl (g.X.cI, 60, .inl (a1_tx_parts 0))), (q_a1_tx0_stack, .inl (g.X.cI, 60, .inl (a1_tx_stack' 0))), (q_a1_tx1, .inr (3, [.ref q_a1_tx1_parts, .ref q_a1_tx1_stack, .int (a1_tx_size 1)])), (q_a1_tx1_parts, .inl (g.X.cI, 60, .inl (a1_tx_parts 1))), (q_a1_tx1_stack, .inl (g.X.cI, 60, .inl (a1_tx_stack' 1)))])) (hK17 : ∀ (x2 : Int32) (x3 : Int32) (c_cells : Nat → Int32) (a1_tx_stack : Nat → Nat → Int32), KK17 x2 x3 c_cells a1_tx_stack → ST g 0 0 17 [(0, .ref q_t), (1, .ref q_a1), (2, .int x2), (3, .int x3)] [] [(q_t, .inr (4, [.ref q_t_cells, .ref q_t_sums, .ref q_t_groups])), (q_t_cells, .inl (g.X.cI, 40, .inl c_cells)), (q_a1, .inr (5, [.int a1_people, .ref q_a1_km, .ref q_a1_father, .ref q_a1_mother, .ref q_a1_from, .ref q_a1_spoons, .ref q_a1_owed, .int a1_year, .int a1_z, .ref q_a1_tape, .int a1_bytes, .ref q_a1_tx0, .ref q_a1_tx1, .ref q_a1_waiting, .int a1_waits])), (q_a1_km, .inl (g.X.cI, 8, .inl a1_km)), (q_a1_spoons, .inl (g.X.cI, 40, .inl a1_spoons)), (q_a1_tx0, .inr (3, [.ref q_a1_tx0_parts, .ref q_a1_tx0_stack, .int (a1_tx_size 0)])), (q_a1_tx0_parts, .inl (g.X.cI, 60, .inl (a1_tx_parts 0))), (q_a1_tx0_stack, .inl (g.X.cI, 60, .inl (a1_tx_stack 0))), (q_a1_tx1, .inr (3, [.ref q_a1_tx1_parts, .ref q_a1_tx1_stack, .int (a1_tx_size 1)])), (q_a1_tx1_parts, .inl (g.X.cI, 60, .inl (a1_tx_parts 1))), (q_a1_tx1_stack, .inl (g.X.cI, 60, .inl (a1_tx_stack 1)))]) : ∀ (n : Nat) (x2 : Int32) (x3 : Int32) (x4 : Int32) (c_cells : Nat → Int32) (a1_tx_stack : Nat → Nat → Int32), wp_X4_firstBelow_b46 Q KK17 a1_people a1_year a1_km a1_spoons a1_tx_size a1_tx_parts n x2 x3 x4 c_cells a1_tx_stack → ST g 0 0 46 [(0, .ref q_t), (1, .ref q_a1), (2, .int x2), (3, .int x3), (4, .int x4)] [] [(q_t, .inr (4, [.ref q_t_cells, .ref q_t_sums, .ref q_t_groups])), (q_t_cells, .inl (g.X.cI, 40, .inl c_cells)), (q_a1, .inr (5, [.int a1_people, .ref q_a1_km, .ref q_a1_father, .ref q_a1_mother, .ref q_a1_from, .ref q_a1_spoons, .ref q_a1_owed, .int a1_year, .int a1_z, .ref q_a1_tape, .int a1_bytes, .ref q_a1_tx0, .ref q_a1_tx1, .ref q_a1_waiting, .int a1_waits])), (q_a1_km, .inl (g.X.cI, 8, .inl a1_km)), (q_a1_spoons, .inl (g.X.cI, 40, .inl a1_spoons)), (q_a1_tx0, .inr (3, [.ref q_a1_tx0_parts, .ref q_a1_tx0_stack, .int (a1_tx_size 0)])), (q_a1_tx0_parts, .inl (g.X.cI, 60, .inl (a1_tx_parts 0))), (q_a1_tx0_stack, .inl (g.X.cI, 60, .inl (a1_tx_stack 0))), (q_a1_tx1, .inr (3, [.ref q_a1_tx1_parts, .ref q_a1_tx1_stack, .int (a1_tx_size 1)])), (q_a1_tx1_parts, .inl (g.X.cI, 60, .inl (a1_tx_parts 1))), (q_a1_tx1_stack, .inl (g.X.cI, 60, .inl (a1_tx_stack 1)))] := by
  intro n
  induction n with
  | zero => intro x2 x3 x4 c_cells a1_tx_stack h; exact False.elim h
  | succ n hK46 =>
    intro x2 x3 x4 c_cells a1_tx_stack h
    unfold wp_X4_firstBelow_b46 at h
    refine st_iload G 48 rfl 4 rfl dX4_firstBelow_46 ?_
    refine st_aload_n G 49 rfl 1 rfl dX4_firstBelow_48 rfl ?_
    refine st_get G inX5 rfl 0 (by decide) wd_660 52 rfl 2 rfl rfl dX4_firstBelow_49 ?_
    refine st_icmp_ge G 82 55 rfl dX4_firstBelow_52 rfl (fun c => ?_) (fun c => ?_)
    · have h := h.1 c
      obtain ⟨x3_82, ex3_82⟩ : ∃ y : Int32, y = (x3 + (1 : Int32)) := ⟨_, rfl⟩
      have h := h x3_82 ex3_82
      refine st_iinc G 85 rfl [(3, .int x3_82), (0, .ref q_t), (1, .ref q_a1), (2, .int x2), (4, .int x4)] x3_82 3 rfl (by rw [ex3_82]; rfl) dX4_firstBelow_82 (by decide) rfl ?_
      refine st_goto G 17 dX4_firstBelow_85 rfl ?_
      refine st_L (L' := [(0, .ref q_t), (1, .ref q_a1), (2, .int x2), (3, .int x3_82)]) [1, 2, 3, 0] rfl ?_
      exact hK17 _ _ _ _ h
    have h := h.2 c
    refine st_aload_n G 56 rfl 0 rfl dX4_firstBelow_55 rfl ?_
    refine st_get G inX4 rfl 0 (by decide) wd_71 59 rfl 0 rfl rfl dX4_firstBelow_56 ?_
    refine st_iload G 61 rfl 4 rfl dX4_firstBelow_59 ?_
    refine st_cNio G lk_X4_55 (c_X6_together g.l g.D g.X q_t_cells c_cells x4 _ h) ⟨rfl, rfl, ⟨Nat.le_of_ble_eq_true rfl, Nat.le_of_ble_eq_true rfl⟩, Nat.zero_le _, Nat.zero_le _⟩ 64 rfl [1] rfl (by decide) rfl (Nat.le_of_ble_eq_true rfl) rfl dX4_firstBelow_61 (fun r_61 h => ?_)
    refine st_iload_n G 65 rfl 2 rfl dX4_firstBelow_64 rfl ?_
    refine st_icmp_ge G 76 68 rfl dX4_firstBelow_65 rfl (fun c => ?_) (fun c => ?_)
    · have h := h.1 c
      obtain ⟨x4_76, ex4_76⟩ : ∃ y : Int32, y = (x4 + (1 : Int32)) := ⟨_, rfl⟩
      have h := h x4_76 ex4_76
      refine st_iinc G 79 rfl [(4, .int x4_76), (0, .ref q_t), (1, .ref q_a1), (2, .int x2), (3, .int x3)] x4_76 4 rfl (by rw [ex4_76]; rfl) dX4_firstBelow_76 (by decide) rfl ?_
      refine st_goto G 46 dX4_firstBelow_79 rfl ?_
      refine st_L (L' := [(0, .ref q_t), (1, .ref q_a1), (2, .int x2), (3, .int x3), (4, .int x4_76)]) [1, 2, 3, 4, 0] rfl ?_
      exact hK46 _ _ _ _ _ h
    have h := h.2 c
    refine st_iload_n G 69 rfl 3 rfl dX4_firstBelow_68 rfl ?_
    refine st_bipush G 71 rfl (8 : Int32) (by decide) dX4_firstBelow_69 ?_
    refine st_imul G 72 rfl dX4_firstBelow_71 ?_
    refine st_iload G 74 rfl 4 rfl dX4_firstBelow_72 ?_
    refine st_iadd G 75 rfl dX4_firstBelow_74 ?_
    exact R _ _ _ _ dX4_firstBelow_75 (Nat.le_of_ble_eq_true rfl) ⟨_, _, h, rfl⟩
set_option maxRecDepth 100000 in
set_option maxHeartbeats 4000000 in
theorem b_X4_firstBelow_17 {g : GT} (G : GOOD g RX4 cX4_firstBelow 5 rm_X4_firstBelow) {q_t q_t_cells q_t_sums q_t_groups q_a1 q_a1_km q_a1_father q_a1_mother q_a1_from q_a1_spoons q_a1_owed q_a1_tape q_a1_tx0 q_a1_tx0_parts q_a1_tx0_stack q_a1_tx1 q_a1_tx1_parts q_a1_tx1_stack q_a1_waiting : Nat} {a1_people : Int32} {a1_year : Int32} {a1_z : Int32} {a1_bytes : Int32} {a1_waits : Int32} {a1_km : Nat → Int32} {a1_spoons : Nat → Int32} {a1_tx_size : Nat → Int32} {a1_tx_parts : Nat → Nat → Int32} {Q : Int32 → (Nat → Int32) → (Nat → Nat → Int32) → Prop} (R : RETi g cX4_firstBelow 11 (fun (r : Int32) w => ∃ (c_cells' : Nat → Int32) (a1_tx_stack' : Nat → Nat → Int32), Q r c_cells' a1_tx_stack' ∧ w = [(q_t, .inr (4, [.ref q_t_cells, .ref q_t_sums, .ref q_t_groups])), (q_t_cells, .inl (g.X.cI, 40, .inl c_cells')), (q_a1, .inr (5, [.int a1_people, .ref q_a1_km, .ref q_a1_father, .ref q_a1_mother, .ref q_a1_from, .ref q_a1_spoons, .ref q_a1_owed, .int a1_year, .int a1_z, .ref q_a1_tape, .int a1_bytes, .ref q_a1_tx0, .ref q_a1_tx1, .ref q_a1_waiting, .int a1_waits])), (q_a1_km, .inl (g.X.cI, 8, .inl a1_km)), (q_a1_spoons, .inl (g.X.cI, 40, .inl a1_spoons)), (q_a1_tx0, .inr (3, [.ref q_a1_tx0_parts, .ref q_a1_tx0_stack, .int (a1_tx_size 0)])), (q_a1_tx0_parts, .inl (g.X.cI, 60, .inl (a1_tx_parts 0))), (q_a1_tx0_stack, .inl (g.X.cI, 60, .inl (a1_tx_stack' 0))), (q_a1_tx1, .inr (3, [.ref q_a1_tx1_parts, .ref q_a1_tx1_stack, .int (a1_tx_size 1)])), (q_a1_tx1_parts, .inl (g.X.cI, 60, .inl (a1_tx_parts 1))), (q_a1_tx1_stack, .inl (g.X.cI, 60, .inl (a1_tx_stack' 1)))])) : ∀ (n : Nat) (x2 : Int32) (x3 : Int32) (c_cells : Nat → Int32) (a1_tx_stack : Nat → Nat → Int32), wp_X4_firstBelow_b17 Q a1_people a1_year a1_km a1_spoons a1_tx_size a1_tx_parts n x2 x3 c_cells a1_tx_stack → ST g 0 0 17 [(0, .ref q_t), (1, .ref q_a1), (2, .int x2), (3, .int x3)] [] [(q_t, .inr (4, [.ref q_t_cells, .ref q_t_sums, .ref q_t_groups])), (q_t_cells, .inl (g.X.cI, 40, .inl c_cells)), (q_a1, .inr (5, [.int a1_people, .ref q_a1_km, .ref q_a1_father, .ref q_a1_mother, .ref q_a1_from, .ref q_a1_spoons, .ref q_a1_owed, .int a1_year, .int a1_z, .ref q_a1_tape, .int a1_bytes, .ref q_a1_tx0, .ref q_a1_tx1, .ref q_a1_waiting, .int a1_waits])), (q_a1_km, .inl (g.X.cI, 8, .inl a1_km)), (q_a1_spoons, .inl (g.X.cI, 40, .inl a1_spoons)), (q_a1_tx0, .inr (3, [.ref q_a1_tx0_parts, .ref q_a1_tx0_stack, .int (a1_tx_size 0)])), (q_a1_tx0_parts, .inl (g.X.cI, 60, .inl (a1_tx_parts 0))), (q_a1_tx0_stack, .inl (g.X.cI, 60, .inl (a1_tx_stack 0))), (q_a1_tx1, .inr (3, [.ref q_a1_tx1_parts, .ref q_a1_tx1_stack, .int (a1_tx_size 1)])), (q_a1_tx1_parts, .inl (g.X.cI, 60, .inl (a1_tx_parts 1))), (q_a1_tx1_stack, .inl (g.X.cI, 60, .inl (a1_tx_stack 1)))] := by
  intro n
  induction n with
  | zero => intro x2 x3 c_cells a1_tx_stack h; exact False.elim h
  | succ n hK17 =>
    intro x2 x3 c_cells a1_tx_stack h
    unfold wp_X4_firstBelow_b17 at h
    refine st_iload_n G 18 rfl 3 rfl dX4_firstBelow_17 rfl ?_
    refine st_bipush G 20 rfl (60 : Int32) (by decide) dX4_firstBelow_18 ?_
    refine st_icmp_gt G 88 23 rfl dX4_firstBelow_20 rfl (fun c => ?_) (fun c => ?_)
    · have h := h.1 c
      refine st_iconst G 89 rfl (-1 : Int32) (by decide) dX4_firstBelow_88 ?_
      exact R _ _ _ _ dX4_firstBelow_89 (Nat.le_of_ble_eq_true rfl) ⟨_, _, h, rfl⟩
    have h := h.2 c
    refine st_iload_n G 24 rfl 3 rfl dX4_firstBelow_23 rfl ?_
    refine st_if_le G 43 27 rfl dX4_firstBelow_24 rfl (fun c => ?_) (fun c => ?_)
    · have h := h.1 c
      refine st_iconst G 44 rfl (0 : Int32) (by decide) dX4_firstBelow_43 ?_
      refine st_istore G 46 rfl [(4, .int (0 : Int32)), (0, .ref q_t), (1, .ref q_a1), (2, .int x2), (3, .int x3)] dX4_firstBelow_44 (by decide) rfl ?_
      refine st_L (L' := [(0, .ref q_t), (1, .ref q_a1), (2, .int x2), (3, .int x3), (4, .int (0 : Int32))]) [1, 2, 3, 4, 0] rfl ?_
      obtain ⟨n, h⟩ := h
      exact b_X4_firstBelow_46 G R hK17 n _ _ _ _ _ h
    have h := h.2 c
    refine st_aload_n G 28 rfl 1 rfl dX4_firstBelow_27 rfl ?_
    refine st_aload_n G 29 rfl 0 rfl dX4_firstBelow_28 rfl ?_
    refine st_get G inX4 rfl 0 (by decide) wd_71 32 rfl 0 rfl rfl dX4_firstBelow_29 ?_
    refine st_aload_n G 33 rfl 1 rfl dX4_firstBelow_32 rfl ?_
    refine st_get G inX5 rfl 7 (by decide) wd_637 36 rfl 2 rfl rfl dX4_firstBelow_33 ?_
    refine st_iload_n G 37 rfl 3 rfl dX4_firstBelow_36 rfl ?_
    refine st_iadd G 38 rfl dX4_firstBelow_37 ?_
    refine st_iconst G 39 rfl (1 : Int32) (by decide) dX4_firstBelow_38 ?_
    refine st_isub G 40 rfl dX4_firstBelow_39 ?_
    refine st_cVv G lk_X4_48 (c_X5_grow g.l g.D g.X q_a1 q_a1_km q_a1_father q_a1_mother q_a1_from q_a1_spoons q_a1_owed q_a1_tape q_a1_tx0 q_a1_tx0_parts q_a1_tx0_stack q_a1_tx1 q_a1_tx1_parts q_a1_tx1_stack q_a1_waiting q_t_cells a1_people a1_year a1_z a1_bytes a1_waits a1_km a1_tx_size a1_tx_parts a1_tx_stack c_cells ((a1_year + x3) - (1 : Int32)) _ h) ⟨rfl, rfl, ⟨Nat.le_of_ble_eq_true rfl, Nat.le_of_ble_eq_true rfl⟩, Nat.zero_le _, Nat.zero_le _⟩ 43 rfl [2, 3, 5, 6, 7, 8, 9, 10, 1] rfl (by decide) 0 5 rfl rfl rfl (Nat.le_of_ble_eq_true rfl) rfl dX4_firstBelow_40 (fun w hq => ?_)
    obtain ⟨a1_tx_stack_40, c_cells_40, h, rfl⟩ := hq
    refine st_wp (ws' := [(q_t, .inr (4, [.ref q_t_cells, .ref q_t_sums, .ref q_t_groups])), (q_t_cells, .inl (g.X.cI, 40, .inl c_cells_40)), (q_a1, .inr (5, [.int a1_people, .ref q_a1_km, .ref q_a1_father, .ref q_a1_mother, .ref q_a1_from, .ref q_a1_spoons, .ref q_a1_owed, .int a1_year, .int a1_z, .ref q_a1_tape, .int a1_bytes, .ref q_a1_tx0, .ref q_a1_tx1, .ref q_a1_waiting, .int a1_waits])), (q_a1_km, .inl (g.X.cI, 8, .inl a1_km)), (q_a1_spoons, .inl (g.X.cI, 40, .inl a1_spoons)), (q_a1_tx0, .inr (3, [.ref q_a1_tx0_parts, .ref q_a1_tx0_stack, .int (a1_tx_size 0)])), (q_a1_tx0_parts, .inl (g.X.cI, 60, .inl (a1_tx_parts 0))), (q_a1_tx0_stack, .inl (g.X.cI, 60, .inl (a1_tx_stack_40 0))), (q_a1_tx1, .inr (3, [.ref q_a1_tx1_parts, .ref q_a1_tx1_stack, .int (a1_tx_size 1)])), (q_a1_tx1_parts, .inl (g.X.cI, 60, .inl (a1_tx_parts 1))), (q_a1_tx1_stack, .inl (g.X.cI, 60, .inl (a1_tx_stack_40 1)))]) 11 [0, 4] (by decide) rfl rfl (by rfl) [(q_t, .inr (4, [.ref q_t_cells, .ref q_t_sums, .ref q_t_groups])), (q_a1_spoons, .inl (g.X.cI, 40, .inl a1_spoons))] (by rfl) rfl ?_
    refine st_iconst G 44 rfl (0 : Int32) (by decide) dX4_firstBelow_43 ?_
    refine st_istore G 46 rfl [(4, .int (0 : Int32)), (0, .ref q_t), (1, .ref q_a1), (2, .int x2), (3, .int x3)] dX4_firstBelow_44 (by decide) rfl ?_
    refine st_L (L' := [(0, .ref q_t), (1, .ref q_a1), (2, .int x2), (3, .int x3), (4, .int (0 : Int32))]) [1, 2, 3, 4, 0] rfl ?_
    obtain ⟨n, h⟩ := h
    exact b_X4_firstBelow_46 G R hK17 n _ _ _ _ _ h
set_option maxRecDepth 100000 in
set_option maxHeartbeats 4000000 in
theorem b_X4_firstBelow_e {g : GT} (G : GOOD g RX4 cX4_firstBelow 5 rm_X4_firstBelow) {q_t q_t_cells q_t_sums q_t_groups q_a1 q_a1_km q_a1_father q_a1_mother q_a1_from q_a1_spoons q_a1_owed q_a1_tape q_a1_tx0 q_a1_tx0_parts q_a1_tx0_stack q_a1_tx1 q_a1_tx1_parts q_a1_tx1_stack q_a1_waiting : Nat} {c_cells : Nat → Int32} {a1_people : Int32} {a1_year : Int32} {a1_z : Int32} {a1_bytes : Int32} {a1_waits : Int32} {a1_km : Nat → Int32} {a1_spoons : Nat → Int32} {a1_tx_size : Nat → Int32} {a1_tx_parts : Nat → Nat → Int32} {a1_tx_stack : Nat → Nat → Int32} {x2 : Int32} {Q : Int32 → (Nat → Int32) → (Nat → Nat → Int32) → Prop} (R : RETi g cX4_firstBelow 11 (fun (r : Int32) w => ∃ (c_cells' : Nat → Int32) (a1_tx_stack' : Nat → Nat → Int32), Q r c_cells' a1_tx_stack' ∧ w = [(q_t, .inr (4, [.ref q_t_cells, .ref q_t_sums, .ref q_t_groups])), (q_t_cells, .inl (g.X.cI, 40, .inl c_cells')), (q_a1, .inr (5, [.int a1_people, .ref q_a1_km, .ref q_a1_father, .ref q_a1_mother, .ref q_a1_from, .ref q_a1_spoons, .ref q_a1_owed, .int a1_year, .int a1_z, .ref q_a1_tape, .int a1_bytes, .ref q_a1_tx0, .ref q_a1_tx1, .ref q_a1_waiting, .int a1_waits])), (q_a1_km, .inl (g.X.cI, 8, .inl a1_km)), (q_a1_spoons, .inl (g.X.cI, 40, .inl a1_spoons)), (q_a1_tx0, .inr (3, [.ref q_a1_tx0_parts, .ref q_a1_tx0_stack, .int (a1_tx_size 0)])), (q_a1_tx0_parts, .inl (g.X.cI, 60, .inl (a1_tx_parts 0))), (q_a1_tx0_stack, .inl (g.X.cI, 60, .inl (a1_tx_stack' 0))), (q_a1_tx1, .inr (3, [.ref q_a1_tx1_parts, .ref q_a1_tx1_stack, .int (a1_tx_size 1)])), (q_a1_tx1_parts, .inl (g.X.cI, 60, .inl (a1_tx_parts 1))), (q_a1_tx1_stack, .inl (g.X.cI, 60, .inl (a1_tx_stack' 1)))])) (h : wp_X4_firstBelow x2 c_cells a1_people a1_year a1_km a1_spoons a1_tx_size a1_tx_parts a1_tx_stack Q) : ST g 0 0 0 [(0, .ref q_t), (1, .ref q_a1), (2, .int x2)] [] [(q_t, .inr (4, [.ref q_t_cells, .ref q_t_sums, .ref q_t_groups])), (q_t_cells, .inl (g.X.cI, 40, .inl c_cells)), (q_a1, .inr (5, [.int a1_people, .ref q_a1_km, .ref q_a1_father, .ref q_a1_mother, .ref q_a1_from, .ref q_a1_spoons, .ref q_a1_owed, .int a1_year, .int a1_z, .ref q_a1_tape, .int a1_bytes, .ref q_a1_tx0, .ref q_a1_tx1, .ref q_a1_waiting, .int a1_waits])), (q_a1_km, .inl (g.X.cI, 8, .inl a1_km)), (q_a1_spoons, .inl (g.X.cI, 40, .inl a1_spoons)), (q_a1_tx0, .inr (3, [.ref q_a1_tx0_parts, .ref q_a1_tx0_stack, .int (a1_tx_size 0)])), (q_a1_tx0_parts, .inl (g.X.cI, 60, .inl (a1_tx_parts 0))), (q_a1_tx0_stack, .inl (g.X.cI, 60, .inl (a1_tx_stack 0))), (q_a1_tx1, .inr (3, [.ref q_a1_tx1_parts, .ref q_a1_tx1_stack, .int (a1_tx_size 1)])), (q_a1_tx1_parts, .inl (g.X.cI, 60, .inl (a1_tx_parts 1))), (q_a1_tx1_stack, .inl (g.X.cI, 60, .inl (a1_tx_stack 1)))] := by
  unfold wp_X4_firstBelow at h
  refine st_aload_n G 1 rfl 1 rfl dX4_firstBelow_0 rfl ?_
  refine st_get G inX5 rfl 5 (by decide) wd_636 4 rfl 2 rfl rfl dX4_firstBelow_1 ?_
  refine st_iconst G 5 rfl (0 : Int32) (by decide) dX4_firstBelow_4 ?_
  refine st_aload_n G 6 rfl 0 rfl dX4_firstBelow_5 rfl ?_
  refine st_get G inX4 rfl 0 (by decide) wd_71 9 rfl 0 rfl rfl dX4_firstBelow_6 ?_
  refine st_iconst G 10 rfl (0 : Int32) (by decide) dX4_firstBelow_9 ?_
  refine st_bipush G 12 rfl (40 : Int32) (by decide) dX4_firstBelow_10 ?_
  obtain ⟨c_cells_12, ec_cells_12⟩ : ∃ y : Nat → Int32, y = va_cpy a1_spoons c_cells (0 : Int32).toNatClampNeg (0 : Int32).toNatClampNeg (40 : Int32).toNatClampNeg := ⟨_, rfl⟩
  have h := h c_cells_12 ec_cells_12
  refine st_copy G wd_659 wd_441 wd_442 wd_443 ⟨Nat.le_of_ble_eq_true rfl, Nat.le_of_ble_eq_true rfl⟩ [(q_t, .inr (4, [.ref q_t_cells, .ref q_t_sums, .ref q_t_groups])), (q_t_cells, .inl (g.X.cI, 40, .inl c_cells_12)), (q_a1, .inr (5, [.int a1_people, .ref q_a1_km, .ref q_a1_father, .ref q_a1_mother, .ref q_a1_from, .ref q_a1_spoons, .ref q_a1_owed, .int a1_year, .int a1_z, .ref q_a1_tape, .int a1_bytes, .ref q_a1_tx0, .ref q_a1_tx1, .ref q_a1_waiting, .int a1_waits])), (q_a1_km, .inl (g.X.cI, 8, .inl a1_km)), (q_a1_spoons, .inl (g.X.cI, 40, .inl a1_spoons)), (q_a1_tx0, .inr (3, [.ref q_a1_tx0_parts, .ref q_a1_tx0_stack, .int (a1_tx_size 0)])), (q_a1_tx0_parts, .inl (g.X.cI, 60, .inl (a1_tx_parts 0))), (q_a1_tx0_stack, .inl (g.X.cI, 60, .inl (a1_tx_stack 0))), (q_a1_tx1, .inr (3, [.ref q_a1_tx1_parts, .ref q_a1_tx1_stack, .int (a1_tx_size 1)])), (q_a1_tx1_parts, .inl (g.X.cI, 60, .inl (a1_tx_parts 1))), (q_a1_tx1_stack, .inl (g.X.cI, 60, .inl (a1_tx_stack 1)))] 15 rfl 4 1 rfl rfl (by decide) (by decide) (by decide) (by decide) (by decide) (by subst ec_cells_12; rfl) dX4_firstBelow_12 ?_
  refine st_iconst G 16 rfl (0 : Int32) (by decide) dX4_firstBelow_15 ?_
  refine st_istore_n G 17 rfl [(3, .int (0 : Int32)), (0, .ref q_t), (1, .ref q_a1), (2, .int x2)] dX4_firstBelow_16 rfl (by decide) rfl ?_
  refine st_L (L' := [(0, .ref q_t), (1, .ref q_a1), (2, .int x2), (3, .int (0 : Int32))]) [1, 2, 3, 0] rfl ?_
  obtain ⟨n, h⟩ := h
  exact b_X4_firstBelow_17 G R n _ _ _ _ h
set_option maxRecDepth 100000 in
set_option maxHeartbeats 4000000 in
theorem c_X4_firstBelow (l : Launch) (D : va_G) (X : XT) (q_t q_t_cells q_t_sums q_t_groups q_a1 q_a1_km q_a1_father q_a1_mother q_a1_from q_a1_spoons q_a1_owed q_a1_tape q_a1_tx0 q_a1_tx0_parts q_a1_tx0_stack q_a1_tx1 q_a1_tx1_parts q_a1_tx1_stack q_a1_waiting : Nat) (c_cells : Nat → Int32) (a1_people : Int32) (a1_year : Int32) (a1_z : Int32) (a1_bytes : Int32) (a1_waits : Int32) (a1_km : Nat → Int32) (a1_spoons : Nat → Int32) (a1_tx_size : Nat → Int32) (a1_tx_parts : Nat → Nat → Int32) (a1_tx_stack : Nat → Nat → Int32) (x2 : Int32) (Q : Int32 → (Nat → Int32) → (Nat → Nat → Int32) → Prop) (h : wp_X4_firstBelow x2 c_cells a1_people a1_year a1_km a1_spoons a1_tx_size a1_tx_parts a1_tx_stack Q) : CTi l D X yX4_firstBelow cX4_firstBelow 5 .int rm_X4_firstBelow [.ref q_t, .ref q_a1, .int x2] [(q_t, .inr (4, [.ref q_t_cells, .ref q_t_sums, .ref q_t_groups])), (q_t_cells, .inl (X.cI, 40, .inl c_cells)), (q_a1, .inr (5, [.int a1_people, .ref q_a1_km, .ref q_a1_father, .ref q_a1_mother, .ref q_a1_from, .ref q_a1_spoons, .ref q_a1_owed, .int a1_year, .int a1_z, .ref q_a1_tape, .int a1_bytes, .ref q_a1_tx0, .ref q_a1_tx1, .ref q_a1_waiting, .int a1_waits])), (q_a1_km, .inl (X.cI, 8, .inl a1_km)), (q_a1_spoons, .inl (X.cI, 40, .inl a1_spoons)), (q_a1_tx0, .inr (3, [.ref q_a1_tx0_parts, .ref q_a1_tx0_stack, .int (a1_tx_size 0)])), (q_a1_tx0_parts, .inl (X.cI, 60, .inl (a1_tx_parts 0))), (q_a1_tx0_stack, .inl (X.cI, 60, .inl (a1_tx_stack 0))), (q_a1_tx1, .inr (3, [.ref q_a1_tx1_parts, .ref q_a1_tx1_stack, .int (a1_tx_size 1)])), (q_a1_tx1_parts, .inl (X.cI, 60, .inl (a1_tx_parts 1))), (q_a1_tx1_stack, .inl (X.cI, 60, .inl (a1_tx_stack 1)))] (fun (r : Int32) w => ∃ (c_cells' : Nat → Int32) (a1_tx_stack' : Nat → Nat → Int32), Q r c_cells' a1_tx_stack' ∧ w = [(q_t, .inr (4, [.ref q_t_cells, .ref q_t_sums, .ref q_t_groups])), (q_t_cells, .inl (X.cI, 40, .inl c_cells')), (q_a1, .inr (5, [.int a1_people, .ref q_a1_km, .ref q_a1_father, .ref q_a1_mother, .ref q_a1_from, .ref q_a1_spoons, .ref q_a1_owed, .int a1_year, .int a1_z, .ref q_a1_tape, .int a1_bytes, .ref q_a1_tx0, .ref q_a1_tx1, .ref q_a1_waiting, .int a1_waits])), (q_a1_km, .inl (X.cI, 8, .inl a1_km)), (q_a1_spoons, .inl (X.cI, 40, .inl a1_spoons)), (q_a1_tx0, .inr (3, [.ref q_a1_tx0_parts, .ref q_a1_tx0_stack, .int (a1_tx_size 0)])), (q_a1_tx0_parts, .inl (X.cI, 60, .inl (a1_tx_parts 0))), (q_a1_tx0_stack, .inl (X.cI, 60, .inl (a1_tx_stack' 0))), (q_a1_tx1, .inr (3, [.ref q_a1_tx1_parts, .ref q_a1_tx1_stack, .int (a1_tx_size 1)])), (q_a1_tx1_parts, .inl (X.cI, 60, .inl (a1_tx_parts 1))), (q_a1_tx1_stack, .inl (X.cI, 60, .inl (a1_tx_stack' 1)))]) :=
  ct_i (by decide) (Nat.le_of_ble_eq_true rfl) (fun g hl hD hX G R => by subst hl; subst hD; subst hX; exact b_X4_firstBelow_e G R h)
set_option maxRecDepth 100000 in
set_option maxHeartbeats 4000000 in
theorem b_X6_clean_e {g : GT} (G : GOOD g RX6 cX6_clean 4 rm_X6_clean) {q_t q_t_w q_t_w_km q_t_w_father q_t_w_mother q_t_w_from q_t_w_spoons q_t_w_owed q_t_w_tape q_t_w_tx0 q_t_w_tx0_parts q_t_w_tx0_stack q_t_w_tx1 q_t_w_tx1_parts q_t_w_tx1_stack q_t_w_waiting q_t_k q_t_errors q_t_sheets q_t_r q_t_th q_t_th_cells q_t_th_sums q_t_th_groups q_t_sp : Nat} {c_images : Int32} {w_people : Int32} {w_year : Int32} {w_z : Int32} {w_bytes : Int32} {w_waits : Int32} {w_km : Nat → Int32} {w_spoons : Nat → Int32} {w_tx_size : Nat → Int32} {w_tx_parts : Nat → Nat → Int32} {w_tx_stack : Nat → Nat → Int32} {c_errors : Nat → Int32} {th_cells : Nat → Int32} {x1 : Int32} {x2 : Int32} {Q : Int32 → (Nat → Nat → Int32) → (Nat → Int32) → (Nat → Int32) → Prop} (R : RETi g cX6_clean 13 (fun (r : Int32) w => ∃ (w_tx_stack' : Nat → Nat → Int32) (c_errors' : Nat → Int32) (th_cells' : Nat → Int32), Q r w_tx_stack' c_errors' th_cells' ∧ w = [(q_t, .inr (6, [.ref q_t_w, .ref q_t_k, .int c_images, .ref q_t_errors, .ref q_t_sheets, .ref q_t_r, .ref q_t_th, .ref q_t_sp])), (q_t_w, .inr (5, [.int w_people, .ref q_t_w_km, .ref q_t_w_father, .ref q_t_w_mother, .ref q_t_w_from, .ref q_t_w_spoons, .ref q_t_w_owed, .int w_year, .int w_z, .ref q_t_w_tape, .int w_bytes, .ref q_t_w_tx0, .ref q_t_w_tx1, .ref q_t_w_waiting, .int w_waits])), (q_t_w_km, .inl (g.X.cI, 8, .inl w_km)), (q_t_w_spoons, .inl (g.X.cI, 40, .inl w_spoons)), (q_t_w_tx0, .inr (3, [.ref q_t_w_tx0_parts, .ref q_t_w_tx0_stack, .int (w_tx_size 0)])), (q_t_w_tx0_parts, .inl (g.X.cI, 60, .inl (w_tx_parts 0))), (q_t_w_tx0_stack, .inl (g.X.cI, 60, .inl (w_tx_stack' 0))), (q_t_w_tx1, .inr (3, [.ref q_t_w_tx1_parts, .ref q_t_w_tx1_stack, .int (w_tx_size 1)])), (q_t_w_tx1_parts, .inl (g.X.cI, 60, .inl (w_tx_parts 1))), (q_t_w_tx1_stack, .inl (g.X.cI, 60, .inl (w_tx_stack' 1))), (q_t_errors, .inl (g.X.cI, 7, .inl c_errors')), (q_t_th, .inr (4, [.ref q_t_th_cells, .ref q_t_th_sums, .ref q_t_th_groups])), (q_t_th_cells, .inl (g.X.cI, 40, .inl th_cells'))])) (h : wp_X6_clean x1 x2 w_people w_year w_km w_spoons w_tx_size w_tx_parts w_tx_stack c_errors th_cells Q) : ST g 0 0 0 [(0, .ref q_t), (1, .int x1), (2, .int x2)] [] [(q_t, .inr (6, [.ref q_t_w, .ref q_t_k, .int c_images, .ref q_t_errors, .ref q_t_sheets, .ref q_t_r, .ref q_t_th, .ref q_t_sp])), (q_t_w, .inr (5, [.int w_people, .ref q_t_w_km, .ref q_t_w_father, .ref q_t_w_mother, .ref q_t_w_from, .ref q_t_w_spoons, .ref q_t_w_owed, .int w_year, .int w_z, .ref q_t_w_tape, .int w_bytes, .ref q_t_w_tx0, .ref q_t_w_tx1, .ref q_t_w_waiting, .int w_waits])), (q_t_w_km, .inl (g.X.cI, 8, .inl w_km)), (q_t_w_spoons, .inl (g.X.cI, 40, .inl w_spoons)), (q_t_w_tx0, .inr (3, [.ref q_t_w_tx0_parts, .ref q_t_w_tx0_stack, .int (w_tx_size 0)])), (q_t_w_tx0_parts, .inl (g.X.cI, 60, .inl (w_tx_parts 0))), (q_t_w_tx0_stack, .inl (g.X.cI, 60, .inl (w_tx_stack 0))), (q_t_w_tx1, .inr (3, [.ref q_t_w_tx1_parts, .ref q_t_w_tx1_stack, .int (w_tx_size 1)])), (q_t_w_tx1_parts, .inl (g.X.cI, 60, .inl (w_tx_parts 1))), (q_t_w_tx1_stack, .inl (g.X.cI, 60, .inl (w_tx_stack 1))), (q_t_errors, .inl (g.X.cI, 7, .inl c_errors)), (q_t_th, .inr (4, [.ref q_t_th_cells, .ref q_t_th_sums, .ref q_t_th_groups])), (q_t_th_cells, .inl (g.X.cI, 40, .inl th_cells))] := by
  unfold wp_X6_clean at h
  refine st_iload_n G 1 rfl 1 rfl dX6_clean_0 rfl ?_
  refine st_iconst G 2 rfl (0 : Int32) (by decide) dX6_clean_1 ?_
  refine st_sipush G 5 rfl (500 : Int32) (by decide) dX6_clean_2 ?_
  refine st_cSio G lk_X6_115 (c_X6_notWithin g.l g.D g.X x1 (0 : Int32) (500 : Int32) _ h) ⟨rfl, rfl, ⟨Nat.le_of_ble_eq_true rfl, Nat.le_of_ble_eq_true rfl⟩, Nat.zero_le _, Nat.zero_le _⟩ 8 rfl [] rfl (by decide) rfl (Nat.le_of_ble_eq_true rfl) rfl dX6_clean_5 (fun r_5 h => ?_)
  refine st_if_ne G 20 11 rfl dX6_clean_8 rfl (fun c => ?_) (fun c => ?_)
  · have h := h.1 c
    refine st_aload_n G 21 rfl 0 rfl dX6_clean_20 rfl ?_
    refine st_iconst G 22 rfl (1 : Int32) (by decide) dX6_clean_21 ?_
    refine st_cVi G lk_X6_55 (c_X6_error g.l g.D g.X q_t q_t_w q_t_k q_t_errors q_t_sheets q_t_r q_t_th q_t_sp c_images c_errors (1 : Int32) _ h) ⟨rfl, rfl, ⟨Nat.le_of_ble_eq_true rfl, Nat.le_of_ble_eq_true rfl⟩, Nat.zero_le _, Nat.zero_le _⟩ 25 rfl [0, 10] rfl (by decide) 0 6 rfl rfl rfl (Nat.le_of_ble_eq_true rfl) rfl dX6_clean_22 (fun r_22 w hq => ?_)
    obtain ⟨c_errors_22, h, rfl⟩ := hq
    refine st_wp (ws' := [(q_t, .inr (6, [.ref q_t_w, .ref q_t_k, .int c_images, .ref q_t_errors, .ref q_t_sheets, .ref q_t_r, .ref q_t_th, .ref q_t_sp])), (q_t_w, .inr (5, [.int w_people, .ref q_t_w_km, .ref q_t_w_father, .ref q_t_w_mother, .ref q_t_w_from, .ref q_t_w_spoons, .ref q_t_w_owed, .int w_year, .int w_z, .ref q_t_w_tape, .int w_bytes, .ref q_t_w_tx0, .ref q_t_w_tx1, .ref q_t_w_waiting, .int w_waits])), (q_t_w_km, .inl (g.X.cI, 8, .inl w_km)), (q_t_w_spoons, .inl (g.X.cI, 40, .inl w_spoons)), (q_t_w_tx0, .inr (3, [.ref q_t_w_tx0_parts, .ref q_t_w_tx0_stack, .int (w_tx_size 0)])), (q_t_w_tx0_parts, .inl (g.X.cI, 60, .inl (w_tx_parts 0))), (q_t_w_tx0_stack, .inl (g.X.cI, 60, .inl (w_tx_stack 0))), (q_t_w_tx1, .inr (3, [.ref q_t_w_tx1_parts, .ref q_t_w_tx1_stack, .int (w_tx_size 1)])), (q_t_w_tx1_parts, .inl (g.X.cI, 60, .inl (w_tx_parts 1))), (q_t_w_tx1_stack, .inl (g.X.cI, 60, .inl (w_tx_stack 1))), (q_t_errors, .inl (g.X.cI, 7, .inl c_errors_22)), (q_t_th, .inr (4, [.ref q_t_th_cells, .ref q_t_th_sums, .ref q_t_th_groups])), (q_t_th_cells, .inl (g.X.cI, 40, .inl th_cells))]) 13 [1, 2, 3, 4, 5, 6, 7, 8, 9, 11, 12] (by decide) rfl rfl (by rfl) [(q_t_w, .inr (5, [.int w_people, .ref q_t_w_km, .ref q_t_w_father, .ref q_t_w_mother, .ref q_t_w_from, .ref q_t_w_spoons, .ref q_t_w_owed, .int w_year, .int w_z, .ref q_t_w_tape, .int w_bytes, .ref q_t_w_tx0, .ref q_t_w_tx1, .ref q_t_w_waiting, .int w_waits])), (q_t_w_km, .inl (g.X.cI, 8, .inl w_km)), (q_t_w_spoons, .inl (g.X.cI, 40, .inl w_spoons)), (q_t_w_tx0, .inr (3, [.ref q_t_w_tx0_parts, .ref q_t_w_tx0_stack, .int (w_tx_size 0)])), (q_t_w_tx0_parts, .inl (g.X.cI, 60, .inl (w_tx_parts 0))), (q_t_w_tx0_stack, .inl (g.X.cI, 60, .inl (w_tx_stack 0))), (q_t_w_tx1, .inr (3, [.ref q_t_w_tx1_parts, .ref q_t_w_tx1_stack, .int (w_tx_size 1)])), (q_t_w_tx1_parts, .inl (g.X.cI, 60, .inl (w_tx_parts 1))), (q_t_w_tx1_stack, .inl (g.X.cI, 60, .inl (w_tx_stack 1))), (q_t_th, .inr (4, [.ref q_t_th_cells, .ref q_t_th_sums, .ref q_t_th_groups])), (q_t_th_cells, .inl (g.X.cI, 40, .inl th_cells))] (by rfl) rfl ?_
    exact R _ _ _ _ dX6_clean_25 (Nat.le_of_ble_eq_true rfl) ⟨_, _, _, h, rfl⟩
  have h := h.2 c
  refine st_iload_n G 12 rfl 2 rfl dX6_clean_11 rfl ?_
  refine st_iconst G 13 rfl (0 : Int32) (by decide) dX6_clean_12 ?_
  refine st_iconst G 14 rfl (1 : Int32) (by decide) dX6_clean_13 ?_
  refine st_cSio G lk_X6_115 (c_X6_notWithin g.l g.D g.X x2 (0 : Int32) (1 : Int32) _ h) ⟨rfl, rfl, ⟨Nat.le_of_ble_eq_true rfl, Nat.le_of_ble_eq_true rfl⟩, Nat.zero_le _, Nat.zero_le _⟩ 17 rfl [] rfl (by decide) rfl (Nat.le_of_ble_eq_true rfl) rfl dX6_clean_14 (fun r_14 h => ?_)
  refine st_if_eq G 26 20 rfl dX6_clean_17 rfl (fun c => ?_) (fun c => ?_)
  · have h := h.1 c
    refine st_aload_n G 27 rfl 0 rfl dX6_clean_26 rfl ?_
    refine st_get G inX6 rfl 6 (by decide) wd_31 30 rfl 0 rfl rfl dX6_clean_27 ?_
    refine st_aload_n G 31 rfl 0 rfl dX6_clean_30 rfl ?_
    refine st_get G inX6 rfl 0 (by decide) wd_16 34 rfl 0 rfl rfl dX6_clean_31 ?_
    refine st_iload_n G 35 rfl 1 rfl dX6_clean_34 rfl ?_
    refine st_cVi G lk_X6_195 (c_X4_firstBelow g.l g.D g.X q_t_th q_t_th_cells q_t_th_sums q_t_th_groups q_t_w q_t_w_km q_t_w_father q_t_w_mother q_t_w_from q_t_w_spoons q_t_w_owed q_t_w_tape q_t_w_tx0 q_t_w_tx0_parts q_t_w_tx0_stack q_t_w_tx1 q_t_w_tx1_parts q_t_w_tx1_stack q_t_w_waiting th_cells w_people w_year w_z w_bytes w_waits w_km w_spoons w_tx_size w_tx_parts w_tx_stack x1 _ h) ⟨rfl, rfl, ⟨Nat.le_of_ble_eq_true rfl, Nat.le_of_ble_eq_true rfl⟩, Nat.zero_le _, Nat.zero_le _⟩ 38 rfl [11, 12, 1, 2, 3, 4, 5, 6, 7, 8, 9] rfl (by decide) 0 4 rfl rfl rfl (Nat.le_of_ble_eq_true rfl) rfl dX6_clean_35 (fun r_35 w hq => ?_)
    obtain ⟨th_cells_35, w_tx_stack_35, h, rfl⟩ := hq
    refine st_wp (ws' := [(q_t, .inr (6, [.ref q_t_w, .ref q_t_k, .int c_images, .ref q_t_errors, .ref q_t_sheets, .ref q_t_r, .ref q_t_th, .ref q_t_sp])), (q_t_w, .inr (5, [.int w_people, .ref q_t_w_km, .ref q_t_w_father, .ref q_t_w_mother, .ref q_t_w_from, .ref q_t_w_spoons, .ref q_t_w_owed, .int w_year, .int w_z, .ref q_t_w_tape, .int w_bytes, .ref q_t_w_tx0, .ref q_t_w_tx1, .ref q_t_w_waiting, .int w_waits])), (q_t_w_km, .inl (g.X.cI, 8, .inl w_km)), (q_t_w_spoons, .inl (g.X.cI, 40, .inl w_spoons)), (q_t_w_tx0, .inr (3, [.ref q_t_w_tx0_parts, .ref q_t_w_tx0_stack, .int (w_tx_size 0)])), (q_t_w_tx0_parts, .inl (g.X.cI, 60, .inl (w_tx_parts 0))), (q_t_w_tx0_stack, .inl (g.X.cI, 60, .inl (w_tx_stack_35 0))), (q_t_w_tx1, .inr (3, [.ref q_t_w_tx1_parts, .ref q_t_w_tx1_stack, .int (w_tx_size 1)])), (q_t_w_tx1_parts, .inl (g.X.cI, 60, .inl (w_tx_parts 1))), (q_t_w_tx1_stack, .inl (g.X.cI, 60, .inl (w_tx_stack_35 1))), (q_t_errors, .inl (g.X.cI, 7, .inl c_errors)), (q_t_th, .inr (4, [.ref q_t_th_cells, .ref q_t_th_sums, .ref q_t_th_groups])), (q_t_th_cells, .inl (g.X.cI, 40, .inl th_cells_35))]) 13 [0, 10] (by decide) rfl rfl (by rfl) [(q_t, .inr (6, [.ref q_t_w, .ref q_t_k, .int c_images, .ref q_t_errors, .ref q_t_sheets, .ref q_t_r, .ref q_t_th, .ref q_t_sp])), (q_t_errors, .inl (g.X.cI, 7, .inl c_errors))] (by rfl) rfl ?_
    refine st_istore_n G 39 rfl [(3, .int r_35), (0, .ref q_t), (1, .int x1), (2, .int x2)] dX6_clean_38 rfl (by decide) rfl ?_
    refine st_iload_n G 40 rfl 0 rfl dX6_clean_39 rfl ?_
    refine st_if_ge G 49 43 rfl dX6_clean_40 rfl (fun c => ?_) (fun c => ?_)
    · have h := h.1 c
      refine st_iload_n G 50 rfl 3 rfl dX6_clean_49 rfl ?_
      refine st_if_ne G 60 53 rfl dX6_clean_50 rfl (fun c => ?_) (fun c => ?_)
      · have h := h.1 c
        refine st_iload_n G 61 rfl 0 rfl dX6_clean_60 rfl ?_
        refine st_bipush G 63 rfl (8 : Int32) (by decide) dX6_clean_61 ?_
        refine st_idiv G 64 rfl (by decide) dX6_clean_63 ?_
        exact R _ _ _ _ dX6_clean_64 (Nat.le_of_ble_eq_true rfl) ⟨_, _, _, h, rfl⟩
      have h := h.2 c
      refine st_iload_n G 54 rfl 0 rfl dX6_clean_53 rfl ?_
      refine st_bipush G 56 rfl (8 : Int32) (by decide) dX6_clean_54 ?_
      refine st_irem G 57 rfl (by decide) dX6_clean_56 ?_
      refine st_goto G 64 dX6_clean_57 rfl ?_
      exact R _ _ _ _ dX6_clean_64 (Nat.le_of_ble_eq_true rfl) ⟨_, _, _, h, rfl⟩
    have h := h.2 c
    refine st_aload_n G 44 rfl 1 rfl dX6_clean_43 rfl ?_
    refine st_iconst G 45 rfl (2 : Int32) (by decide) dX6_clean_44 ?_
    refine st_cVi G lk_X6_55 (c_X6_error g.l g.D g.X q_t q_t_w q_t_k q_t_errors q_t_sheets q_t_r q_t_th q_t_sp c_images c_errors (2 : Int32) _ h) ⟨rfl, rfl, ⟨Nat.le_of_ble_eq_true rfl, Nat.le_of_ble_eq_true rfl⟩, Nat.zero_le _, Nat.zero_le _⟩ 48 rfl [0, 10] rfl (by decide) 0 6 rfl rfl rfl (Nat.le_of_ble_eq_true rfl) rfl dX6_clean_45 (fun r_45 w hq => ?_)
    obtain ⟨c_errors_45, h, rfl⟩ := hq
    refine st_wp (ws' := [(q_t, .inr (6, [.ref q_t_w, .ref q_t_k, .int c_images, .ref q_t_errors, .ref q_t_sheets, .ref q_t_r, .ref q_t_th, .ref q_t_sp])), (q_t_w, .inr (5, [.int w_people, .ref q_t_w_km, .ref q_t_w_father, .ref q_t_w_mother, .ref q_t_w_from, .ref q_t_w_spoons, .ref q_t_w_owed, .int w_year, .int w_z, .ref q_t_w_tape, .int w_bytes, .ref q_t_w_tx0, .ref q_t_w_tx1, .ref q_t_w_waiting, .int w_waits])), (q_t_w_km, .inl (g.X.cI, 8, .inl w_km)), (q_t_w_spoons, .inl (g.X.cI, 40, .inl w_spoons)), (q_t_w_tx0, .inr (3, [.ref q_t_w_tx0_parts, .ref q_t_w_tx0_stack, .int (w_tx_size 0)])), (q_t_w_tx0_parts, .inl (g.X.cI, 60, .inl (w_tx_parts 0))), (q_t_w_tx0_stack, .inl (g.X.cI, 60, .inl (w_tx_stack_35 0))), (q_t_w_tx1, .inr (3, [.ref q_t_w_tx1_parts, .ref q_t_w_tx1_stack, .int (w_tx_size 1)])), (q_t_w_tx1_parts, .inl (g.X.cI, 60, .inl (w_tx_parts 1))), (q_t_w_tx1_stack, .inl (g.X.cI, 60, .inl (w_tx_stack_35 1))), (q_t_errors, .inl (g.X.cI, 7, .inl c_errors_45)), (q_t_th, .inr (4, [.ref q_t_th_cells, .ref q_t_th_sums, .ref q_t_th_groups])), (q_t_th_cells, .inl (g.X.cI, 40, .inl th_cells_35))]) 13 [1, 2, 3, 4, 5, 6, 7, 8, 9, 11, 12] (by decide) rfl rfl (by rfl) [(q_t_w, .inr (5, [.int w_people, .ref q_t_w_km, .ref q_t_w_father, .ref q_t_w_mother, .ref q_t_w_from, .ref q_t_w_spoons, .ref q_t_w_owed, .int w_year, .int w_z, .ref q_t_w_tape, .int w_bytes, .ref q_t_w_tx0, .ref q_t_w_tx1, .ref q_t_w_waiting, .int w_waits])), (q_t_w_km, .inl (g.X.cI, 8, .inl w_km)), (q_t_w_spoons, .inl (g.X.cI, 40, .inl w_spoons)), (q_t_w_tx0, .inr (3, [.ref q_t_w_tx0_parts, .ref q_t_w_tx0_stack, .int (w_tx_size 0)])), (q_t_w_tx0_parts, .inl (g.X.cI, 60, .inl (w_tx_parts 0))), (q_t_w_tx0_stack, .inl (g.X.cI, 60, .inl (w_tx_stack_35 0))), (q_t_w_tx1, .inr (3, [.ref q_t_w_tx1_parts, .ref q_t_w_tx1_stack, .int (w_tx_size 1)])), (q_t_w_tx1_parts, .inl (g.X.cI, 60, .inl (w_tx_parts 1))), (q_t_w_tx1_stack, .inl (g.X.cI, 60, .inl (w_tx_stack_35 1))), (q_t_th, .inr (4, [.ref q_t_th_cells, .ref q_t_th_sums, .ref q_t_th_groups])), (q_t_th_cells, .inl (g.X.cI, 40, .inl th_cells_35))] (by rfl) rfl ?_
    exact R _ _ _ _ dX6_clean_48 (Nat.le_of_ble_eq_true rfl) ⟨_, _, _, h, rfl⟩
  have h := h.2 c
  refine st_aload_n G 21 rfl 0 rfl dX6_clean_20 rfl ?_
  refine st_iconst G 22 rfl (1 : Int32) (by decide) dX6_clean_21 ?_
  refine st_cVi G lk_X6_55 (c_X6_error g.l g.D g.X q_t q_t_w q_t_k q_t_errors q_t_sheets q_t_r q_t_th q_t_sp c_images c_errors (1 : Int32) _ h) ⟨rfl, rfl, ⟨Nat.le_of_ble_eq_true rfl, Nat.le_of_ble_eq_true rfl⟩, Nat.zero_le _, Nat.zero_le _⟩ 25 rfl [0, 10] rfl (by decide) 0 6 rfl rfl rfl (Nat.le_of_ble_eq_true rfl) rfl dX6_clean_22 (fun r_22 w hq => ?_)
  obtain ⟨c_errors_22, h, rfl⟩ := hq
  refine st_wp (ws' := [(q_t, .inr (6, [.ref q_t_w, .ref q_t_k, .int c_images, .ref q_t_errors, .ref q_t_sheets, .ref q_t_r, .ref q_t_th, .ref q_t_sp])), (q_t_w, .inr (5, [.int w_people, .ref q_t_w_km, .ref q_t_w_father, .ref q_t_w_mother, .ref q_t_w_from, .ref q_t_w_spoons, .ref q_t_w_owed, .int w_year, .int w_z, .ref q_t_w_tape, .int w_bytes, .ref q_t_w_tx0, .ref q_t_w_tx1, .ref q_t_w_waiting, .int w_waits])), (q_t_w_km, .inl (g.X.cI, 8, .inl w_km)), (q_t_w_spoons, .inl (g.X.cI, 40, .inl w_spoons)), (q_t_w_tx0, .inr (3, [.ref q_t_w_tx0_parts, .ref q_t_w_tx0_stack, .int (w_tx_size 0)])), (q_t_w_tx0_parts, .inl (g.X.cI, 60, .inl (w_tx_parts 0))), (q_t_w_tx0_stack, .inl (g.X.cI, 60, .inl (w_tx_stack 0))), (q_t_w_tx1, .inr (3, [.ref q_t_w_tx1_parts, .ref q_t_w_tx1_stack, .int (w_tx_size 1)])), (q_t_w_tx1_parts, .inl (g.X.cI, 60, .inl (w_tx_parts 1))), (q_t_w_tx1_stack, .inl (g.X.cI, 60, .inl (w_tx_stack 1))), (q_t_errors, .inl (g.X.cI, 7, .inl c_errors_22)), (q_t_th, .inr (4, [.ref q_t_th_cells, .ref q_t_th_sums, .ref q_t_th_groups])), (q_t_th_cells, .inl (g.X.cI, 40, .inl th_cells))]) 13 [1, 2, 3, 4, 5, 6, 7, 8, 9, 11, 12] (by decide) rfl rfl (by rfl) [(q_t_w, .inr (5, [.int w_people, .ref q_t_w_km, .ref q_t_w_father, .ref q_t_w_mother, .ref q_t_w_from, .ref q_t_w_spoons, .ref q_t_w_owed, .int w_year, .int w_z, .ref q_t_w_tape, .int w_bytes, .ref q_t_w_tx0, .ref q_t_w_tx1, .ref q_t_w_waiting, .int w_waits])), (q_t_w_km, .inl (g.X.cI, 8, .inl w_km)), (q_t_w_spoons, .inl (g.X.cI, 40, .inl w_spoons)), (q_t_w_tx0, .inr (3, [.ref q_t_w_tx0_parts, .ref q_t_w_tx0_stack, .int (w_tx_size 0)])), (q_t_w_tx0_parts, .inl (g.X.cI, 60, .inl (w_tx_parts 0))), (q_t_w_tx0_stack, .inl (g.X.cI, 60, .inl (w_tx_stack 0))), (q_t_w_tx1, .inr (3, [.ref q_t_w_tx1_parts, .ref q_t_w_tx1_stack, .int (w_tx_size 1)])), (q_t_w_tx1_parts, .inl (g.X.cI, 60, .inl (w_tx_parts 1))), (q_t_w_tx1_stack, .inl (g.X.cI, 60, .inl (w_tx_stack 1))), (q_t_th, .inr (4, [.ref q_t_th_cells, .ref q_t_th_sums, .ref q_t_th_groups])), (q_t_th_cells, .inl (g.X.cI, 40, .inl th_cells))] (by rfl) rfl ?_
  exact R _ _ _ _ dX6_clean_25 (Nat.le_of_ble_eq_true rfl) ⟨_, _, _, h, rfl⟩
set_option maxRecDepth 100000 in
set_option maxHeartbeats 4000000 in
theorem c_X6_clean (l : Launch) (D : va_G) (X : XT) (q_t q_t_w q_t_w_km q_t_w_father q_t_w_mother q_t_w_from q_t_w_spoons q_t_w_owed q_t_w_tape q_t_w_tx0 q_t_w_tx0_parts q_t_w_tx0_stack q_t_w_tx1 q_t_w_tx1_parts q_t_w_tx1_stack q_t_w_waiting q_t_k q_t_errors q_t_sheets q_t_r q_t_th q_t_th_cells q_t_th_sums q_t_th_groups q_t_sp : Nat) (c_images : Int32) (w_people : Int32) (w_year : Int32) (w_z : Int32) (w_bytes : Int32) (w_waits : Int32) (w_km : Nat → Int32) (w_spoons : Nat → Int32) (w_tx_size : Nat → Int32) (w_tx_parts : Nat → Nat → Int32) (w_tx_stack : Nat → Nat → Int32) (c_errors : Nat → Int32) (th_cells : Nat → Int32) (x1 : Int32) (x2 : Int32) (Q : Int32 → (Nat → Nat → Int32) → (Nat → Int32) → (Nat → Int32) → Prop) (h : wp_X6_clean x1 x2 w_people w_year w_km w_spoons w_tx_size w_tx_parts w_tx_stack c_errors th_cells Q) : CTi l D X yX6_clean cX6_clean 4 .int rm_X6_clean [.ref q_t, .int x1, .int x2] [(q_t, .inr (6, [.ref q_t_w, .ref q_t_k, .int c_images, .ref q_t_errors, .ref q_t_sheets, .ref q_t_r, .ref q_t_th, .ref q_t_sp])), (q_t_w, .inr (5, [.int w_people, .ref q_t_w_km, .ref q_t_w_father, .ref q_t_w_mother, .ref q_t_w_from, .ref q_t_w_spoons, .ref q_t_w_owed, .int w_year, .int w_z, .ref q_t_w_tape, .int w_bytes, .ref q_t_w_tx0, .ref q_t_w_tx1, .ref q_t_w_waiting, .int w_waits])), (q_t_w_km, .inl (X.cI, 8, .inl w_km)), (q_t_w_spoons, .inl (X.cI, 40, .inl w_spoons)), (q_t_w_tx0, .inr (3, [.ref q_t_w_tx0_parts, .ref q_t_w_tx0_stack, .int (w_tx_size 0)])), (q_t_w_tx0_parts, .inl (X.cI, 60, .inl (w_tx_parts 0))), (q_t_w_tx0_stack, .inl (X.cI, 60, .inl (w_tx_stack 0))), (q_t_w_tx1, .inr (3, [.ref q_t_w_tx1_parts, .ref q_t_w_tx1_stack, .int (w_tx_size 1)])), (q_t_w_tx1_parts, .inl (X.cI, 60, .inl (w_tx_parts 1))), (q_t_w_tx1_stack, .inl (X.cI, 60, .inl (w_tx_stack 1))), (q_t_errors, .inl (X.cI, 7, .inl c_errors)), (q_t_th, .inr (4, [.ref q_t_th_cells, .ref q_t_th_sums, .ref q_t_th_groups])), (q_t_th_cells, .inl (X.cI, 40, .inl th_cells))] (fun (r : Int32) w => ∃ (w_tx_stack' : Nat → Nat → Int32) (c_errors' : Nat → Int32) (th_cells' : Nat → Int32), Q r w_tx_stack' c_errors' th_cells' ∧ w = [(q_t, .inr (6, [.ref q_t_w, .ref q_t_k, .int c_images, .ref q_t_errors, .ref q_t_sheets, .ref q_t_r, .ref q_t_th, .ref q_t_sp])), (q_t_w, .inr (5, [.int w_people, .ref q_t_w_km, .ref q_t_w_father, .ref q_t_w_mother, .ref q_t_w_from, .ref q_t_w_spoons, .ref q_t_w_owed, .int w_year, .int w_z, .ref q_t_w_tape, .int w_bytes, .ref q_t_w_tx0, .ref q_t_w_tx1, .ref q_t_w_waiting, .int w_waits])), (q_t_w_km, .inl (X.cI, 8, .inl w_km)), (q_t_w_spoons, .inl (X.cI, 40, .inl w_spoons)), (q_t_w_tx0, .inr (3, [.ref q_t_w_tx0_parts, .ref q_t_w_tx0_stack, .int (w_tx_size 0)])), (q_t_w_tx0_parts, .inl (X.cI, 60, .inl (w_tx_parts 0))), (q_t_w_tx0_stack, .inl (X.cI, 60, .inl (w_tx_stack' 0))), (q_t_w_tx1, .inr (3, [.ref q_t_w_tx1_parts, .ref q_t_w_tx1_stack, .int (w_tx_size 1)])), (q_t_w_tx1_parts, .inl (X.cI, 60, .inl (w_tx_parts 1))), (q_t_w_tx1_stack, .inl (X.cI, 60, .inl (w_tx_stack' 1))), (q_t_errors, .inl (X.cI, 7, .inl c_errors')), (q_t_th, .inr (4, [.ref q_t_th_cells, .ref q_t_th_sums, .ref q_t_th_groups])), (q_t_th_cells, .inl (X.cI, 40, .inl th_cells'))]) :=
  ct_i (by decide) (Nat.le_of_ble_eq_true rfl) (fun g hl hD hX G R => by subst hl; subst hD; subst hX; exact b_X6_clean_e G R h)
set_option maxRecDepth 100000 in
set_option maxHeartbeats 4000000 in
theorem b_X4_couldBear_17 {g : GT} (G : GOOD g RX4 cX4_couldBear 6 rm_X4_couldBear) {q_t q_t_cells q_t_sums q_t_groups q_a1 q_a1_km q_a1_father q_a1_mother q_a1_from q_a1_spoons q_a1_owed q_a1_tape q_a1_tx0 q_a1_tx1 q_a1_waiting : Nat} {a1_people : Int32} {a1_year : Int32} {a1_z : Int32} {a1_bytes : Int32} {a1_waits : Int32} {a1_spoons : Nat → Int32} {Q : Int32 → Prop} (R : RETz g cX4_couldBear 3 (fun (r : Int32) w => (Q r) ∧ w = [(q_t, .inr (4, [.ref q_t_cells, .ref q_t_sums, .ref q_t_groups])), (q_a1, .inr (5, [.int a1_people, .ref q_a1_km, .ref q_a1_father, .ref q_a1_mother, .ref q_a1_from, .ref q_a1_spoons, .ref q_a1_owed, .int a1_year, .int a1_z, .ref q_a1_tape, .int a1_bytes, .ref q_a1_tx0, .ref q_a1_tx1, .ref q_a1_waiting, .int a1_waits])), (q_a1_spoons, .inl (g.X.cI, 40, .inl a1_spoons))])) : ∀ (n : Nat) (x2 : Int32) (x3 : Int32) (x4 : Int32) (x5 : Int32), wp_X4_couldBear_b17 Q a1_spoons n x2 x3 x4 x5 → ST g 0 0 17 [(1, .ref q_a1), (2, .int x2), (3, .int x3), (4, .int x4), (5, .int x5)] [] [(q_t, .inr (4, [.ref q_t_cells, .ref q_t_sums, .ref q_t_groups])), (q_a1, .inr (5, [.int a1_people, .ref q_a1_km, .ref q_a1_father, .ref q_a1_mother, .ref q_a1_from, .ref q_a1_spoons, .ref q_a1_owed, .int a1_year, .int a1_z, .ref q_a1_tape, .int a1_bytes, .ref q_a1_tx0, .ref q_a1_tx1, .ref q_a1_waiting, .int a1_waits])), (q_a1_spoons, .inl (g.X.cI, 40, .inl a1_spoons))] := by
  intro n
  induction n with
  | zero => intro x2 x3 x4 x5 h; exact False.elim h
  | succ n hK17 =>
    intro x2 x3 x4 x5 h
    unfold wp_X4_couldBear_b17 at h
    refine st_iload G 19 rfl 4 rfl dX4_couldBear_17 ?_
    refine st_iconst G 20 rfl (5 : Int32) (by decide) dX4_couldBear_19 ?_
    refine st_icmp_ge G 54 23 rfl dX4_couldBear_20 rfl (fun c => ?_) (fun c => ?_)
    · have h := h.1 c
      refine st_iconst G 55 rfl (1 : Int32) (by decide) dX4_couldBear_54 ?_
      exact R _ _ _ _ dX4_couldBear_55 (Nat.le_of_ble_eq_true rfl) rfl ⟨h, rfl⟩
    have h := h.2 c
    refine st_aload_n G 24 rfl 0 rfl dX4_couldBear_23 rfl ?_
    refine st_iload_n G 25 rfl 1 rfl dX4_couldBear_24 rfl ?_
    refine st_iload_n G 26 rfl 2 rfl dX4_couldBear_25 rfl ?_
    refine st_iload G 28 rfl 4 rfl dX4_couldBear_26 ?_
    refine st_cVio G lk_X4_59 (c_X5_poured g.l g.D g.X q_a1 q_a1_km q_a1_father q_a1_mother q_a1_from q_a1_spoons q_a1_owed q_a1_tape q_a1_tx0 q_a1_tx1 q_a1_waiting a1_people a1_year a1_z a1_bytes a1_waits a1_spoons x2 x3 x5 _ h) ⟨rfl, rfl, ⟨Nat.le_of_ble_eq_true rfl, Nat.le_of_ble_eq_true rfl⟩, Nat.zero_le _, Nat.zero_le _⟩ 31 rfl [1, 2] rfl (by decide) 0 5 rfl rfl rfl (Nat.le_of_ble_eq_true rfl) rfl dX4_couldBear_28 (fun r_28 h => ?_)
    refine st_aload_n G 32 rfl 0 rfl dX4_couldBear_31 rfl ?_
    refine st_get G inX5 rfl 5 (by decide) wd_636 35 rfl 1 rfl rfl dX4_couldBear_32 ?_
    refine st_iload G 37 rfl 3 rfl dX4_couldBear_35 ?_
    refine st_iload G 39 rfl 4 rfl dX4_couldBear_37 ?_
    refine st_cNio G lk_X4_26 (c_X6_cell g.l g.D g.X x4 x5 _ h) ⟨rfl, rfl, ⟨Nat.le_of_ble_eq_true rfl, Nat.le_of_ble_eq_true rfl⟩, Nat.zero_le _, Nat.zero_le _⟩ 42 rfl [] rfl (by decide) rfl (Nat.le_of_ble_eq_true rfl) rfl dX4_couldBear_39 (fun r_39 h => ?_)
    obtain ⟨hin, h⟩ := h
    refine st_iald G 43 rfl 2 rfl hin dX4_couldBear_42 ?_
    refine st_icmp_eq G 48 46 rfl dX4_couldBear_43 rfl (fun c => ?_) (fun c => ?_)
    · have h := h.1 c
      obtain ⟨x5_48, ex5_48⟩ : ∃ y : Int32, y = (x5 + (1 : Int32)) := ⟨_, rfl⟩
      have h := h x5_48 ex5_48
      refine st_iinc G 51 rfl [(5, .int x5_48), (1, .ref q_a1), (2, .int x2), (3, .int x3), (4, .int x4)] x5_48 4 rfl (by rw [ex5_48]; rfl) dX4_couldBear_48 (by decide) rfl ?_
      refine st_goto G 17 dX4_couldBear_51 rfl ?_
      refine st_L (L' := [(1, .ref q_a1), (2, .int x2), (3, .int x3), (4, .int x4), (5, .int x5_48)]) [1, 2, 3, 4, 0] rfl ?_
      exact hK17 _ _ _ _ h
    have h := h.2 c
    refine st_iconst G 47 rfl (0 : Int32) (by decide) dX4_couldBear_46 ?_
    exact R _ _ _ _ dX4_couldBear_47 (Nat.le_of_ble_eq_true rfl) rfl ⟨h, rfl⟩
set_option maxRecDepth 100000 in
set_option maxHeartbeats 4000000 in
theorem b_X4_couldBear_e {g : GT} (G : GOOD g RX4 cX4_couldBear 6 rm_X4_couldBear) {q_t q_t_cells q_t_sums q_t_groups q_a1 q_a1_km q_a1_father q_a1_mother q_a1_from q_a1_spoons q_a1_owed q_a1_tape q_a1_tx0 q_a1_tx1 q_a1_waiting : Nat} {a1_people : Int32} {a1_year : Int32} {a1_z : Int32} {a1_bytes : Int32} {a1_waits : Int32} {a1_spoons : Nat → Int32} {x2 : Int32} {x3 : Int32} {x4 : Int32} {Q : Int32 → Prop} (R : RETz g cX4_couldBear 3 (fun (r : Int32) w => (Q r) ∧ w = [(q_t, .inr (4, [.ref q_t_cells, .ref q_t_sums, .ref q_t_groups])), (q_a1, .inr (5, [.int a1_people, .ref q_a1_km, .ref q_a1_father, .ref q_a1_mother, .ref q_a1_from, .ref q_a1_spoons, .ref q_a1_owed, .int a1_year, .int a1_z, .ref q_a1_tape, .int a1_bytes, .ref q_a1_tx0, .ref q_a1_tx1, .ref q_a1_waiting, .int a1_waits])), (q_a1_spoons, .inl (g.X.cI, 40, .inl a1_spoons))])) (h : wp_X4_couldBear x2 x3 x4 a1_spoons Q) : ST g 0 0 0 [(0, .ref q_t), (1, .ref q_a1), (2, .int x2), (3, .int x3), (4, .int x4)] [] [(q_t, .inr (4, [.ref q_t_cells, .ref q_t_sums, .ref q_t_groups])), (q_a1, .inr (5, [.int a1_people, .ref q_a1_km, .ref q_a1_father, .ref q_a1_mother, .ref q_a1_from, .ref q_a1_spoons, .ref q_a1_owed, .int a1_year, .int a1_z, .ref q_a1_tape, .int a1_bytes, .ref q_a1_tx0, .ref q_a1_tx1, .ref q_a1_waiting, .int a1_waits])), (q_a1_spoons, .inl (g.X.cI, 40, .inl a1_spoons))] := by
  unfold wp_X4_couldBear at h
  refine st_iload_n G 1 rfl 2 rfl dX4_couldBear_0 rfl ?_
  refine st_iload G 3 rfl 4 rfl dX4_couldBear_1 ?_
  refine st_icmp_eq G 12 6 rfl dX4_couldBear_3 rfl (fun c => ?_) (fun c => ?_)
  · have h := h.1 c
    refine st_iconst G 13 rfl (0 : Int32) (by decide) dX4_couldBear_12 ?_
    exact R _ _ _ _ dX4_couldBear_13 (Nat.le_of_ble_eq_true rfl) rfl ⟨h, rfl⟩
  have h := h.2 c
  refine st_iload_n G 7 rfl 3 rfl dX4_couldBear_6 rfl ?_
  refine st_iload G 9 rfl 4 rfl dX4_couldBear_7 ?_
  refine st_icmp_ne G 14 12 rfl dX4_couldBear_9 rfl (fun c => ?_) (fun c => ?_)
  · have h := h.1 c
    refine st_iconst G 15 rfl (0 : Int32) (by decide) dX4_couldBear_14 ?_
    refine st_istore G 17 rfl [(5, .int (0 : Int32)), (0, .ref q_t), (1, .ref q_a1), (2, .int x2), (3, .int x3), (4, .int x4)] dX4_couldBear_15 (by decide) rfl ?_
    refine st_L (L' := [(1, .ref q_a1), (2, .int x2), (3, .int x3), (4, .int x4), (5, .int (0 : Int32))]) [2, 3, 4, 5, 0] rfl ?_
    obtain ⟨n, h⟩ := h
    exact b_X4_couldBear_17 G R n _ _ _ _ h
  have h := h.2 c
  refine st_iconst G 13 rfl (0 : Int32) (by decide) dX4_couldBear_12 ?_
  exact R _ _ _ _ dX4_couldBear_13 (Nat.le_of_ble_eq_true rfl) rfl ⟨h, rfl⟩
set_option maxRecDepth 100000 in
set_option maxHeartbeats 4000000 in
theorem c_X4_couldBear (l : Launch) (D : va_G) (X : XT) (q_t q_t_cells q_t_sums q_t_groups q_a1 q_a1_km q_a1_father q_a1_mother q_a1_from q_a1_spoons q_a1_owed q_a1_tape q_a1_tx0 q_a1_tx1 q_a1_waiting : Nat) (a1_people : Int32) (a1_year : Int32) (a1_z : Int32) (a1_bytes : Int32) (a1_waits : Int32) (a1_spoons : Nat → Int32) (x2 : Int32) (x3 : Int32) (x4 : Int32) (Q : Int32 → Prop) (h : wp_X4_couldBear x2 x3 x4 a1_spoons Q) : CTi l D X yX4_couldBear cX4_couldBear 6 .boolean rm_X4_couldBear [.ref q_t, .ref q_a1, .int x2, .int x3, .int x4] [(q_t, .inr (4, [.ref q_t_cells, .ref q_t_sums, .ref q_t_groups])), (q_a1, .inr (5, [.int a1_people, .ref q_a1_km, .ref q_a1_father, .ref q_a1_mother, .ref q_a1_from, .ref q_a1_spoons, .ref q_a1_owed, .int a1_year, .int a1_z, .ref q_a1_tape, .int a1_bytes, .ref q_a1_tx0, .ref q_a1_tx1, .ref q_a1_waiting, .int a1_waits])), (q_a1_spoons, .inl (X.cI, 40, .inl a1_spoons))] (fun (r : Int32) w => (Q r) ∧ w = [(q_t, .inr (4, [.ref q_t_cells, .ref q_t_sums, .ref q_t_groups])), (q_a1, .inr (5, [.int a1_people, .ref q_a1_km, .ref q_a1_father, .ref q_a1_mother, .ref q_a1_from, .ref q_a1_spoons, .ref q_a1_owed, .int a1_year, .int a1_z, .ref q_a1_tape, .int a1_bytes, .ref q_a1_tx0, .ref q_a1_tx1, .ref q_a1_waiting, .int a1_waits])), (q_a1_spoons, .inl (X.cI, 40, .inl a1_spoons))]) :=
  ct_z (by decide) (Nat.le_of_ble_eq_true rfl) (fun g hl hD hX G R => by subst hl; subst hD; subst hX; exact b_X4_couldBear_e G R h)
set_option maxRecDepth 100000 in
set_option maxHeartbeats 4000000 in
theorem b_X4_pairsFor_20 {g : GT} (G : GOOD g RX4 cX4_pairsFor 6 rm_X4_pairsFor) {q_t q_t_cells q_t_sums q_t_groups q_a1 q_a1_km q_a1_father q_a1_mother q_a1_from q_a1_spoons q_a1_owed q_a1_tape q_a1_tx0 q_a1_tx1 q_a1_waiting : Nat} {a1_people : Int32} {a1_year : Int32} {a1_z : Int32} {a1_bytes : Int32} {a1_waits : Int32} {a1_spoons : Nat → Int32} {Q : Int32 → Prop} {KK5 : (Int32) → (Int32) → (Int32) → Prop} (R : RETi g cX4_pairsFor 3 (fun (r : Int32) w => (Q r) ∧ w = [(q_t, .inr (4, [.ref q_t_cells, .ref q_t_sums, .ref q_t_groups])), (q_a1, .inr (5, [.int a1_people, .ref q_a1_km, .ref q_a1_father, .ref q_a1_mother, .ref q_a1_from, .ref q_a1_spoons, .ref q_a1_owed, .int a1_year, .int a1_z, .ref q_a1_tape, .int a1_bytes, .ref q_a1_tx0, .ref q_a1_tx1, .ref q_a1_waiting, .int a1_waits])), (q_a1_spoons, .inl (g.X.cI, 40, .inl a1_spoons))])) (hK5 : ∀ (x2 : Int32) (x3 : Int32) (x4 : Int32), KK5 x2 x3 x4 → ST g 0 0 5 [(0, .ref q_t), (1, .ref q_a1), (2, .int x2), (3, .int x3), (4, .int x4)] [] [(q_t, .inr (4, [.ref q_t_cells, .ref q_t_sums, .ref q_t_groups])), (q_a1, .inr (5, [.int a1_people, .ref q_a1_km, .ref q_a1_father, .ref q_a1_mother, .ref q_a1_from, .ref q_a1_spoons, .ref q_a1_owed, .int a1_year, .int a1_z, .ref q_a1_tape, .int a1_bytes, .ref q_a1_tx0, .ref q_a1_tx1, .ref q_a1_waiting, .int a1_waits])), (q_a1_spoons, .inl (g.X.cI, 40, .inl a1_spoons))]) : ∀ (n : Nat) (x2 : Int32) (x3 : Int32) (x4 : Int32) (x5 : Int32), wp_X4_pairsFor_b20 Q KK5 a1_people a1_spoons n x2 x3 x4 x5 → ST g 0 0 20 [(0, .ref q_t), (1, .ref q_a1), (2, .int x2), (3, .int x3), (4, .int x4), (5, .int x5)] [] [(q_t, .inr (4, [.ref q_t_cells, .ref q_t_sums, .ref q_t_groups])), (q_a1, .inr (5, [.int a1_people, .ref q_a1_km, .ref q_a1_father, .ref q_a1_mother, .ref q_a1_from, .ref q_a1_spoons, .ref q_a1_owed, .int a1_year, .int a1_z, .ref q_a1_tape, .int a1_bytes, .ref q_a1_tx0, .ref q_a1_tx1, .ref q_a1_waiting, .int a1_waits])), (q_a1_spoons, .inl (g.X.cI, 40, .inl a1_spoons))] := by
  intro n
  induction n with
  | zero => intro x2 x3 x4 x5 h; exact False.elim h
  | succ n hK20 =>
    intro x2 x3 x4 x5 h
    unfold wp_X4_pairsFor_b20 at h
    refine st_iload G 22 rfl 5 rfl dX4_pairsFor_20 ?_
    refine st_aload_n G 23 rfl 1 rfl dX4_pairsFor_22 rfl ?_
    refine st_get G inX5 rfl 0 (by decide) wd_660 26 rfl 1 rfl rfl dX4_pairsFor_23 ?_
    refine st_icmp_ge G 51 29 rfl dX4_pairsFor_26 rfl (fun c => ?_) (fun c => ?_)
    · have h := h.1 c
      obtain ⟨x4_51, ex4_51⟩ : ∃ y : Int32, y = (x4 + (1 : Int32)) := ⟨_, rfl⟩
      have h := h x4_51 ex4_51
      refine st_iinc G 54 rfl [(4, .int x4_51), (0, .ref q_t), (1, .ref q_a1), (2, .int x2), (3, .int x3), (5, .int x5)] x4_51 4 rfl (by rw [ex4_51]; rfl) dX4_pairsFor_51 (by decide) rfl ?_
      refine st_goto G 5 dX4_pairsFor_54 rfl ?_
      refine st_L (L' := [(0, .ref q_t), (1, .ref q_a1), (2, .int x2), (3, .int x3), (4, .int x4_51)]) [1, 2, 3, 4, 0] rfl ?_
      exact hK5 _ _ _ h
    have h := h.2 c
    refine st_iload_n G 30 rfl 3 rfl dX4_pairsFor_29 rfl ?_
    refine st_aload_n G 31 rfl 0 rfl dX4_pairsFor_30 rfl ?_
    refine st_aload_n G 32 rfl 1 rfl dX4_pairsFor_31 rfl ?_
    refine st_iload G 34 rfl 4 rfl dX4_pairsFor_32 ?_
    refine st_iload G 36 rfl 5 rfl dX4_pairsFor_34 ?_
    refine st_iload_n G 37 rfl 2 rfl dX4_pairsFor_36 rfl ?_
    refine st_cVio G lk_X4_62 (c_X4_couldBear g.l g.D g.X q_t q_t_cells q_t_sums q_t_groups q_a1 q_a1_km q_a1_father q_a1_mother q_a1_from q_a1_spoons q_a1_owed q_a1_tape q_a1_tx0 q_a1_tx1 q_a1_waiting a1_people a1_year a1_z a1_bytes a1_waits a1_spoons x4 x5 x2 _ h) ⟨rfl, rfl, ⟨Nat.le_of_ble_eq_true rfl, Nat.le_of_ble_eq_true rfl⟩, Nat.zero_le _, Nat.zero_le _⟩ 40 rfl [0, 1, 2] rfl (by decide) 0 4 rfl rfl rfl (Nat.le_of_ble_eq_true rfl) rfl dX4_pairsFor_37 (fun r_37 h => ?_)
    refine st_cNio G lk_X4_66 (c_X6_truth g.l g.D g.X r_37 _ h) ⟨rfl, rfl, ⟨Nat.le_of_ble_eq_true rfl, Nat.le_of_ble_eq_true rfl⟩, Nat.zero_le _, Nat.zero_le _⟩ 43 rfl [] rfl (by decide) rfl (Nat.le_of_ble_eq_true rfl) rfl dX4_pairsFor_40 (fun r_40 h => ?_)
    refine st_iadd G 44 rfl dX4_pairsFor_43 ?_
    refine st_topi (fun x3_44 ex3_44 => ?_)
    have h := h x3_44 ex3_44
    refine st_istore_n G 45 rfl [(3, .int x3_44), (0, .ref q_t), (1, .ref q_a1), (2, .int x2), (4, .int x4), (5, .int x5)] dX4_pairsFor_44 rfl (by decide) rfl ?_
    obtain ⟨x5_45, ex5_45⟩ : ∃ y : Int32, y = (x5 + (1 : Int32)) := ⟨_, rfl⟩
    have h := h x5_45 ex5_45
    refine st_iinc G 48 rfl [(5, .int x5_45), (3, .int x3_44), (0, .ref q_t), (1, .ref q_a1), (2, .int x2), (4, .int x4)] x5_45 5 rfl (by rw [ex5_45]; rfl) dX4_pairsFor_45 (by decide) rfl ?_
    refine st_goto G 20 dX4_pairsFor_48 rfl ?_
    refine st_L (L' := [(0, .ref q_t), (1, .ref q_a1), (2, .int x2), (3, .int x3_44), (4, .int x4), (5, .int x5_45)]) [2, 3, 4, 1, 5, 0] rfl ?_
    exact hK20 _ _ _ _ h
set_option maxRecDepth 100000 in
set_option maxHeartbeats 4000000 in
theorem b_X4_pairsFor_5 {g : GT} (G : GOOD g RX4 cX4_pairsFor 6 rm_X4_pairsFor) {q_t q_t_cells q_t_sums q_t_groups q_a1 q_a1_km q_a1_father q_a1_mother q_a1_from q_a1_spoons q_a1_owed q_a1_tape q_a1_tx0 q_a1_tx1 q_a1_waiting : Nat} {a1_people : Int32} {a1_year : Int32} {a1_z : Int32} {a1_bytes : Int32} {a1_waits : Int32} {a1_spoons : Nat → Int32} {Q : Int32 → Prop} (R : RETi g cX4_pairsFor 3 (fun (r : Int32) w => (Q r) ∧ w = [(q_t, .inr (4, [.ref q_t_cells, .ref q_t_sums, .ref q_t_groups])), (q_a1, .inr (5, [.int a1_people, .ref q_a1_km, .ref q_a1_father, .ref q_a1_mother, .ref q_a1_from, .ref q_a1_spoons, .ref q_a1_owed, .int a1_year, .int a1_z, .ref q_a1_tape, .int a1_bytes, .ref q_a1_tx0, .ref q_a1_tx1, .ref q_a1_waiting, .int a1_waits])), (q_a1_spoons, .inl (g.X.cI, 40, .inl a1_spoons))])) : ∀ (n : Nat) (x2 : Int32) (x3 : Int32) (x4 : Int32), wp_X4_pairsFor_b5 Q a1_people a1_spoons n x2 x3 x4 → ST g 0 0 5 [(0, .ref q_t), (1, .ref q_a1), (2, .int x2), (3, .int x3), (4, .int x4)] [] [(q_t, .inr (4, [.ref q_t_cells, .ref q_t_sums, .ref q_t_groups])), (q_a1, .inr (5, [.int a1_people, .ref q_a1_km, .ref q_a1_father, .ref q_a1_mother, .ref q_a1_from, .ref q_a1_spoons, .ref q_a1_owed, .int a1_year, .int a1_z, .ref q_a1_tape, .int a1_bytes, .ref q_a1_tx0, .ref q_a1_tx1, .ref q_a1_waiting, .int a1_waits])), (q_a1_spoons, .inl (g.X.cI, 40, .inl a1_spoons))] := by
  intro n
  induction n with
  | zero => intro x2 x3 x4 h; exact False.elim h
  | succ n hK5 =>
    intro x2 x3 x4 h
    unfold wp_X4_pairsFor_b5 at h
    refine st_iload G 7 rfl 4 rfl dX4_pairsFor_5 ?_
    refine st_aload_n G 8 rfl 1 rfl dX4_pairsFor_7 rfl ?_
    refine st_get G inX5 rfl 0 (by decide) wd_660 11 rfl 1 rfl rfl dX4_pairsFor_8 ?_
    refine st_icmp_ge G 57 14 rfl dX4_pairsFor_11 rfl (fun c => ?_) (fun c => ?_)
    · have h := h.1 c
      refine st_iload_n G 58 rfl 3 rfl dX4_pairsFor_57 rfl ?_
      exact R _ _ _ _ dX4_pairsFor_58 (Nat.le_of_ble_eq_true rfl) ⟨h, rfl⟩
    have h := h.2 c
    refine st_iload G 16 rfl 4 rfl dX4_pairsFor_14 ?_
    refine st_iconst G 17 rfl (1 : Int32) (by decide) dX4_pairsFor_16 ?_
    refine st_iadd G 18 rfl dX4_pairsFor_17 ?_
    refine st_topi (fun x5_18 ex5_18 => ?_)
    have h := h x5_18 ex5_18
    refine st_istore G 20 rfl [(5, .int x5_18), (0, .ref q_t), (1, .ref q_a1), (2, .int x2), (3, .int x3), (4, .int x4)] dX4_pairsFor_18 (by decide) rfl ?_
    refine st_L (L' := [(0, .ref q_t), (1, .ref q_a1), (2, .int x2), (3, .int x3), (4, .int x4), (5, .int x5_18)]) [1, 2, 3, 4, 5, 0] rfl ?_
    obtain ⟨n, h⟩ := h
    exact b_X4_pairsFor_20 G R hK5 n _ _ _ _ h
set_option maxRecDepth 100000 in
set_option maxHeartbeats 4000000 in
theorem b_X4_pairsFor_e {g : GT} (G : GOOD g RX4 cX4_pairsFor 6 rm_X4_pairsFor) {q_t q_t_cells q_t_sums q_t_groups q_a1 q_a1_km q_a1_father q_a1_mother q_a1_from q_a1_spoons q_a1_owed q_a1_tape q_a1_tx0 q_a1_tx1 q_a1_waiting : Nat} {a1_people : Int32} {a1_year : Int32} {a1_z : Int32} {a1_bytes : Int32} {a1_waits : Int32} {a1_spoons : Nat → Int32} {x2 : Int32} {Q : Int32 → Prop} (R : RETi g cX4_pairsFor 3 (fun (r : Int32) w => (Q r) ∧ w = [(q_t, .inr (4, [.ref q_t_cells, .ref q_t_sums, .ref q_t_groups])), (q_a1, .inr (5, [.int a1_people, .ref q_a1_km, .ref q_a1_father, .ref q_a1_mother, .ref q_a1_from, .ref q_a1_spoons, .ref q_a1_owed, .int a1_year, .int a1_z, .ref q_a1_tape, .int a1_bytes, .ref q_a1_tx0, .ref q_a1_tx1, .ref q_a1_waiting, .int a1_waits])), (q_a1_spoons, .inl (g.X.cI, 40, .inl a1_spoons))])) (h : wp_X4_pairsFor x2 a1_people a1_spoons Q) : ST g 0 0 0 [(0, .ref q_t), (1, .ref q_a1), (2, .int x2)] [] [(q_t, .inr (4, [.ref q_t_cells, .ref q_t_sums, .ref q_t_groups])), (q_a1, .inr (5, [.int a1_people, .ref q_a1_km, .ref q_a1_father, .ref q_a1_mother, .ref q_a1_from, .ref q_a1_spoons, .ref q_a1_owed, .int a1_year, .int a1_z, .ref q_a1_tape, .int a1_bytes, .ref q_a1_tx0, .ref q_a1_tx1, .ref q_a1_waiting, .int a1_waits])), (q_a1_spoons, .inl (g.X.cI, 40, .inl a1_spoons))] := by
  unfold wp_X4_pairsFor at h
  refine st_iconst G 1 rfl (0 : Int32) (by decide) dX4_pairsFor_0 ?_
  refine st_istore_n G 2 rfl [(3, .int (0 : Int32)), (0, .ref q_t), (1, .ref q_a1), (2, .int x2)] dX4_pairsFor_1 rfl (by decide) rfl ?_
  refine st_iconst G 3 rfl (0 : Int32) (by decide) dX4_pairsFor_2 ?_
  refine st_istore G 5 rfl [(4, .int (0 : Int32)), (3, .int (0 : Int32)), (0, .ref q_t), (1, .ref q_a1), (2, .int x2)] dX4_pairsFor_3 (by decide) rfl ?_
  refine st_L (L' := [(0, .ref q_t), (1, .ref q_a1), (2, .int x2), (3, .int (0 : Int32)), (4, .int (0 : Int32))]) [2, 3, 4, 1, 0] rfl ?_
  obtain ⟨n, h⟩ := h
  exact b_X4_pairsFor_5 G R n _ _ _ h
set_option maxRecDepth 100000 in
set_option maxHeartbeats 4000000 in
theorem c_X4_pairsFor (l : Launch) (D : va_G) (X : XT) (q_t q_t_cells q_t_sums q_t_groups q_a1 q_a1_km q_a1_father q_a1_mother q_a1_from q_a1_spoons q_a1_owed q_a1_tape q_a1_tx0 q_a1_tx1 q_a1_waiting : Nat) (a1_people : Int32) (a1_year : Int32) (a1_z : Int32) (a1_bytes : Int32) (a1_waits : Int32) (a1_spoons : Nat → Int32) (x2 : Int32) (Q : Int32 → Prop) (h : wp_X4_pairsFor x2 a1_people a1_spoons Q) : CTi l D X yX4_pairsFor cX4_pairsFor 6 .int rm_X4_pairsFor [.ref q_t, .ref q_a1, .int x2] [(q_t, .inr (4, [.ref q_t_cells, .ref q_t_sums, .ref q_t_groups])), (q_a1, .inr (5, [.int a1_people, .ref q_a1_km, .ref q_a1_father, .ref q_a1_mother, .ref q_a1_from, .ref q_a1_spoons, .ref q_a1_owed, .int a1_year, .int a1_z, .ref q_a1_tape, .int a1_bytes, .ref q_a1_tx0, .ref q_a1_tx1, .ref q_a1_waiting, .int a1_waits])), (q_a1_spoons, .inl (X.cI, 40, .inl a1_spoons))] (fun (r : Int32) w => (Q r) ∧ w = [(q_t, .inr (4, [.ref q_t_cells, .ref q_t_sums, .ref q_t_groups])), (q_a1, .inr (5, [.int a1_people, .ref q_a1_km, .ref q_a1_father, .ref q_a1_mother, .ref q_a1_from, .ref q_a1_spoons, .ref q_a1_owed, .int a1_year, .int a1_z, .ref q_a1_tape, .int a1_bytes, .ref q_a1_tx0, .ref q_a1_tx1, .ref q_a1_waiting, .int a1_waits])), (q_a1_spoons, .inl (X.cI, 40, .inl a1_spoons))]) :=
  ct_i (by decide) (Nat.le_of_ble_eq_true rfl) (fun g hl hD hX G R => by subst hl; subst hD; subst hX; exact b_X4_pairsFor_e G R h)
set_option maxRecDepth 100000 in
set_option maxHeartbeats 4000000 in
theorem b_X4_firstPairFor_15 {g : GT} (G : GOOD g RX4 cX4_firstPairFor 5 rm_X4_firstPairFor) {q_t q_t_cells q_t_sums q_t_groups q_a1 q_a1_km q_a1_father q_a1_mother q_a1_from q_a1_spoons q_a1_owed q_a1_tape q_a1_tx0 q_a1_tx1 q_a1_waiting : Nat} {a1_people : Int32} {a1_year : Int32} {a1_z : Int32} {a1_bytes : Int32} {a1_waits : Int32} {a1_spoons : Nat → Int32} {Q : Int32 → Prop} {KK2 : (Int32) → (Int32) → Prop} (R : RETi g cX4_firstPairFor 3 (fun (r : Int32) w => (Q r) ∧ w = [(q_t, .inr (4, [.ref q_t_cells, .ref q_t_sums, .ref q_t_groups])), (q_a1, .inr (5, [.int a1_people, .ref q_a1_km, .ref q_a1_father, .ref q_a1_mother, .ref q_a1_from, .ref q_a1_spoons, .ref q_a1_owed, .int a1_year, .int a1_z, .ref q_a1_tape, .int a1_bytes, .ref q_a1_tx0, .ref q_a1_tx1, .ref q_a1_waiting, .int a1_waits])), (q_a1_spoons, .inl (g.X.cI, 40, .inl a1_spoons))])) (hK2 : ∀ (x2 : Int32) (x3 : Int32), KK2 x2 x3 → ST g 0 0 2 [(0, .ref q_t), (1, .ref q_a1), (2, .int x2), (3, .int x3)] [] [(q_t, .inr (4, [.ref q_t_cells, .ref q_t_sums, .ref q_t_groups])), (q_a1, .inr (5, [.int a1_people, .ref q_a1_km, .ref q_a1_father, .ref q_a1_mother, .ref q_a1_from, .ref q_a1_spoons, .ref q_a1_owed, .int a1_year, .int a1_z, .ref q_a1_tape, .int a1_bytes, .ref q_a1_tx0, .ref q_a1_tx1, .ref q_a1_waiting, .int a1_waits])), (q_a1_spoons, .inl (g.X.cI, 40, .inl a1_spoons))]) : ∀ (n : Nat) (x2 : Int32) (x3 : Int32) (x4 : Int32), wp_X4_firstPairFor_b15 Q KK2 a1_people a1_spoons n x2 x3 x4 → ST g 0 0 15 [(0, .ref q_t), (1, .ref q_a1), (2, .int x2), (3, .int x3), (4, .int x4)] [] [(q_t, .inr (4, [.ref q_t_cells, .ref q_t_sums, .ref q_t_groups])), (q_a1, .inr (5, [.int a1_people, .ref q_a1_km, .ref q_a1_father, .ref q_a1_mother, .ref q_a1_from, .ref q_a1_spoons, .ref q_a1_owed, .int a1_year, .int a1_z, .ref q_a1_tape, .int a1_bytes, .ref q_a1_tx0, .ref q_a1_tx1, .ref q_a1_waiting, .int a1_waits])), (q_a1_spoons, .inl (g.X.cI, 40, .inl a1_spoons))] := by
  intro n
  induction n with
  | zero => intro x2 x3 x4 h; exact False.elim h
  | succ n hK15 =>
    intro x2 x3 x4 h
    unfold wp_X4_firstPairFor_b15 at h
    refine st_iload G 17 rfl 4 rfl dX4_firstPairFor_15 ?_
    refine st_aload_n G 18 rfl 1 rfl dX4_firstPairFor_17 rfl ?_
    refine st_get G inX5 rfl 0 (by decide) wd_660 21 rfl 1 rfl rfl dX4_firstPairFor_18 ?_
    refine st_icmp_ge G 49 24 rfl dX4_firstPairFor_21 rfl (fun c => ?_) (fun c => ?_)
    · have h := h.1 c
      obtain ⟨x3_49, ex3_49⟩ : ∃ y : Int32, y = (x3 + (1 : Int32)) := ⟨_, rfl⟩
      have h := h x3_49 ex3_49
      refine st_iinc G 52 rfl [(3, .int x3_49), (0, .ref q_t), (1, .ref q_a1), (2, .int x2), (4, .int x4)] x3_49 3 rfl (by rw [ex3_49]; rfl) dX4_firstPairFor_49 (by decide) rfl ?_
      refine st_goto G 2 dX4_firstPairFor_52 rfl ?_
      refine st_L (L' := [(0, .ref q_t), (1, .ref q_a1), (2, .int x2), (3, .int x3_49)]) [1, 2, 3, 0] rfl ?_
      exact hK2 _ _ h
    have h := h.2 c
    refine st_aload_n G 25 rfl 0 rfl dX4_firstPairFor_24 rfl ?_
    refine st_aload_n G 26 rfl 1 rfl dX4_firstPairFor_25 rfl ?_
    refine st_iload_n G 27 rfl 3 rfl dX4_firstPairFor_26 rfl ?_
    refine st_iload G 29 rfl 4 rfl dX4_firstPairFor_27 ?_
    refine st_iload_n G 30 rfl 2 rfl dX4_firstPairFor_29 rfl ?_
    refine st_cVio G lk_X4_62 (c_X4_couldBear g.l g.D g.X q_t q_t_cells q_t_sums q_t_groups q_a1 q_a1_km q_a1_father q_a1_mother q_a1_from q_a1_spoons q_a1_owed q_a1_tape q_a1_tx0 q_a1_tx1 q_a1_waiting a1_people a1_year a1_z a1_bytes a1_waits a1_spoons x3 x4 x2 _ h) ⟨rfl, rfl, ⟨Nat.le_of_ble_eq_true rfl, Nat.le_of_ble_eq_true rfl⟩, Nat.zero_le _, Nat.zero_le _⟩ 33 rfl [0, 1, 2] rfl (by decide) 0 4 rfl rfl rfl (Nat.le_of_ble_eq_true rfl) rfl dX4_firstPairFor_30 (fun r_30 h => ?_)
    refine st_if_eq G 43 36 rfl dX4_firstPairFor_33 rfl (fun c => ?_) (fun c => ?_)
    · have h := h.1 c
      obtain ⟨x4_43, ex4_43⟩ : ∃ y : Int32, y = (x4 + (1 : Int32)) := ⟨_, rfl⟩
      have h := h x4_43 ex4_43
      refine st_iinc G 46 rfl [(4, .int x4_43), (0, .ref q_t), (1, .ref q_a1), (2, .int x2), (3, .int x3)] x4_43 4 rfl (by rw [ex4_43]; rfl) dX4_firstPairFor_43 (by decide) rfl ?_
      refine st_goto G 15 dX4_firstPairFor_46 rfl ?_
      refine st_L (L' := [(0, .ref q_t), (1, .ref q_a1), (2, .int x2), (3, .int x3), (4, .int x4_43)]) [1, 2, 3, 4, 0] rfl ?_
      exact hK15 _ _ _ h
    have h := h.2 c
    refine st_iload_n G 37 rfl 3 rfl dX4_firstPairFor_36 rfl ?_
    refine st_iload G 39 rfl 4 rfl dX4_firstPairFor_37 ?_
    refine st_cNio G lk_X4_70 (c_X6_pair g.l g.D g.X x3 x4 _ h) ⟨rfl, rfl, ⟨Nat.le_of_ble_eq_true rfl, Nat.le_of_ble_eq_true rfl⟩, Nat.zero_le _, Nat.zero_le _⟩ 42 rfl [] rfl (by decide) rfl (Nat.le_of_ble_eq_true rfl) rfl dX4_firstPairFor_39 (fun r_39 h => ?_)
    exact R _ _ _ _ dX4_firstPairFor_42 (Nat.le_of_ble_eq_true rfl) ⟨h, rfl⟩
set_option maxRecDepth 100000 in
set_option maxHeartbeats 4000000 in
theorem b_X4_firstPairFor_2 {g : GT} (G : GOOD g RX4 cX4_firstPairFor 5 rm_X4_firstPairFor) {q_t q_t_cells q_t_sums q_t_groups q_a1 q_a1_km q_a1_father q_a1_mother q_a1_from q_a1_spoons q_a1_owed q_a1_tape q_a1_tx0 q_a1_tx1 q_a1_waiting : Nat} {a1_people : Int32} {a1_year : Int32} {a1_z : Int32} {a1_bytes : Int32} {a1_waits : Int32} {a1_spoons : Nat → Int32} {Q : Int32 → Prop} (R : RETi g cX4_firstPairFor 3 (fun (r : Int32) w => (Q r) ∧ w = [(q_t, .inr (4, [.ref q_t_cells, .ref q_t_sums, .ref q_t_groups])), (q_a1, .inr (5, [.int a1_people, .ref q_a1_km, .ref q_a1_father, .ref q_a1_mother, .ref q_a1_from, .ref q_a1_spoons, .ref q_a1_owed, .int a1_year, .int a1_z, .ref q_a1_tape, .int a1_bytes, .ref q_a1_tx0, .ref q_a1_tx1, .ref q_a1_waiting, .int a1_waits])), (q_a1_spoons, .inl (g.X.cI, 40, .inl a1_spoons))])) : ∀ (n : Nat) (x2 : Int32) (x3 : Int32), wp_X4_firstPairFor_b2 Q a1_people a1_spoons n x2 x3 → ST g 0 0 2 [(0, .ref q_t), (1, .ref q_a1), (2, .int x2), (3, .int x3)] [] [(q_t, .inr (4, [.ref q_t_cells, .ref q_t_sums, .ref q_t_groups])), (q_a1, .inr (5, [.int a1_people, .ref q_a1_km, .ref q_a1_father, .ref q_a1_mother, .ref q_a1_from, .ref q_a1_spoons, .ref q_a1_owed, .int a1_year, .int a1_z, .ref q_a1_tape, .int a1_bytes, .ref q_a1_tx0, .ref q_a1_tx1, .ref q_a1_waiting, .int a1_waits])), (q_a1_spoons, .inl (g.X.cI, 40, .inl a1_spoons))] := by
  intro n
  induction n with
  | zero => intro x2 x3 h; exact False.elim h
  | succ n hK2 =>
    intro x2 x3 h
    unfold wp_X4_firstPairFor_b2 at h
    refine st_iload_n G 3 rfl 3 rfl dX4_firstPairFor_2 rfl ?_
    refine st_aload_n G 4 rfl 1 rfl dX4_firstPairFor_3 rfl ?_
    refine st_get G inX5 rfl 0 (by decide) wd_660 7 rfl 1 rfl rfl dX4_firstPairFor_4 ?_
    refine st_icmp_ge G 55 10 rfl dX4_firstPairFor_7 rfl (fun c => ?_) (fun c => ?_)
    · have h := h.1 c
      refine st_iconst G 56 rfl (-1 : Int32) (by decide) dX4_firstPairFor_55 ?_
      exact R _ _ _ _ dX4_firstPairFor_56 (Nat.le_of_ble_eq_true rfl) ⟨h, rfl⟩
    have h := h.2 c
    refine st_iload_n G 11 rfl 3 rfl dX4_firstPairFor_10 rfl ?_
    refine st_iconst G 12 rfl (1 : Int32) (by decide) dX4_firstPairFor_11 ?_
    refine st_iadd G 13 rfl dX4_firstPairFor_12 ?_
    refine st_topi (fun x4_13 ex4_13 => ?_)
    have h := h x4_13 ex4_13
    refine st_istore G 15 rfl [(4, .int x4_13), (0, .ref q_t), (1, .ref q_a1), (2, .int x2), (3, .int x3)] dX4_firstPairFor_13 (by decide) rfl ?_
    refine st_L (L' := [(0, .ref q_t), (1, .ref q_a1), (2, .int x2), (3, .int x3), (4, .int x4_13)]) [1, 2, 3, 4, 0] rfl ?_
    obtain ⟨n, h⟩ := h
    exact b_X4_firstPairFor_15 G R hK2 n _ _ _ h
set_option maxRecDepth 100000 in
set_option maxHeartbeats 4000000 in
theorem b_X4_firstPairFor_e {g : GT} (G : GOOD g RX4 cX4_firstPairFor 5 rm_X4_firstPairFor) {q_t q_t_cells q_t_sums q_t_groups q_a1 q_a1_km q_a1_father q_a1_mother q_a1_from q_a1_spoons q_a1_owed q_a1_tape q_a1_tx0 q_a1_tx1 q_a1_waiting : Nat} {a1_people : Int32} {a1_year : Int32} {a1_z : Int32} {a1_bytes : Int32} {a1_waits : Int32} {a1_spoons : Nat → Int32} {x2 : Int32} {Q : Int32 → Prop} (R : RETi g cX4_firstPairFor 3 (fun (r : Int32) w => (Q r) ∧ w = [(q_t, .inr (4, [.ref q_t_cells, .ref q_t_sums, .ref q_t_groups])), (q_a1, .inr (5, [.int a1_people, .ref q_a1_km, .ref q_a1_father, .ref q_a1_mother, .ref q_a1_from, .ref q_a1_spoons, .ref q_a1_owed, .int a1_year, .int a1_z, .ref q_a1_tape, .int a1_bytes, .ref q_a1_tx0, .ref q_a1_tx1, .ref q_a1_waiting, .int a1_waits])), (q_a1_spoons, .inl (g.X.cI, 40, .inl a1_spoons))])) (h : wp_X4_firstPairFor x2 a1_people a1_spoons Q) : ST g 0 0 0 [(0, .ref q_t), (1, .ref q_a1), (2, .int x2)] [] [(q_t, .inr (4, [.ref q_t_cells, .ref q_t_sums, .ref q_t_groups])), (q_a1, .inr (5, [.int a1_people, .ref q_a1_km, .ref q_a1_father, .ref q_a1_mother, .ref q_a1_from, .ref q_a1_spoons, .ref q_a1_owed, .int a1_year, .int a1_z, .ref q_a1_tape, .int a1_bytes, .ref q_a1_tx0, .ref q_a1_tx1, .ref q_a1_waiting, .int a1_waits])), (q_a1_spoons, .inl (g.X.cI, 40, .inl a1_spoons))] := by
  unfold wp_X4_firstPairFor at h
  refine st_iconst G 1 rfl (0 : Int32) (by decide) dX4_firstPairFor_0 ?_
  refine st_istore_n G 2 rfl [(3, .int (0 : Int32)), (0, .ref q_t), (1, .ref q_a1), (2, .int x2)] dX4_firstPairFor_1 rfl (by decide) rfl ?_
  refine st_L (L' := [(0, .ref q_t), (1, .ref q_a1), (2, .int x2), (3, .int (0 : Int32))]) [1, 2, 3, 0] rfl ?_
  obtain ⟨n, h⟩ := h
  exact b_X4_firstPairFor_2 G R n _ _ h
set_option maxRecDepth 100000 in
set_option maxHeartbeats 4000000 in
theorem c_X4_firstPairFor (l : Launch) (D : va_G) (X : XT) (q_t q_t_cells q_t_sums q_t_groups q_a1 q_a1_km q_a1_father q_a1_mother q_a1_from q_a1_spoons q_a1_owed q_a1_tape q_a1_tx0 q_a1_tx1 q_a1_waiting : Nat) (a1_people : Int32) (a1_year : Int32) (a1_z : Int32) (a1_bytes : Int32) (a1_waits : Int32) (a1_spoons : Nat → Int32) (x2 : Int32) (Q : Int32 → Prop) (h : wp_X4_firstPairFor x2 a1_people a1_spoons Q) : CTi l D X yX4_firstPairFor cX4_firstPairFor 5 .int rm_X4_firstPairFor [.ref q_t, .ref q_a1, .int x2] [(q_t, .inr (4, [.ref q_t_cells, .ref q_t_sums, .ref q_t_groups])), (q_a1, .inr (5, [.int a1_people, .ref q_a1_km, .ref q_a1_father, .ref q_a1_mother, .ref q_a1_from, .ref q_a1_spoons, .ref q_a1_owed, .int a1_year, .int a1_z, .ref q_a1_tape, .int a1_bytes, .ref q_a1_tx0, .ref q_a1_tx1, .ref q_a1_waiting, .int a1_waits])), (q_a1_spoons, .inl (X.cI, 40, .inl a1_spoons))] (fun (r : Int32) w => (Q r) ∧ w = [(q_t, .inr (4, [.ref q_t_cells, .ref q_t_sums, .ref q_t_groups])), (q_a1, .inr (5, [.int a1_people, .ref q_a1_km, .ref q_a1_father, .ref q_a1_mother, .ref q_a1_from, .ref q_a1_spoons, .ref q_a1_owed, .int a1_year, .int a1_z, .ref q_a1_tape, .int a1_bytes, .ref q_a1_tx0, .ref q_a1_tx1, .ref q_a1_waiting, .int a1_waits])), (q_a1_spoons, .inl (X.cI, 40, .inl a1_spoons))]) :=
  ct_i (by decide) (Nat.le_of_ble_eq_true rfl) (fun g hl hD hX G R => by subst hl; subst hD; subst hX; exact b_X4_firstPairFor_e G R h)
set_option maxRecDepth 100000 in
set_option maxHeartbeats 4000000 in
theorem b_X6_parents_e {g : GT} (G : GOOD g RX6 cX6_parents 4 rm_X6_parents) {q_t q_t_w q_t_w_km q_t_w_father q_t_w_mother q_t_w_from q_t_w_spoons q_t_w_owed q_t_w_tape q_t_w_tx0 q_t_w_tx1 q_t_w_waiting q_t_k q_t_errors q_t_sheets q_t_r q_t_th q_t_th_cells q_t_th_sums q_t_th_groups q_t_sp : Nat} {c_images : Int32} {w_people : Int32} {w_year : Int32} {w_z : Int32} {w_bytes : Int32} {w_waits : Int32} {w_spoons : Nat → Int32} {c_errors : Nat → Int32} {x1 : Int32} {x2 : Int32} {Q : Int32 → (Nat → Int32) → Prop} (R : RETi g cX6_parents 5 (fun (r : Int32) w => ∃ (c_errors' : Nat → Int32), Q r c_errors' ∧ w = [(q_t, .inr (6, [.ref q_t_w, .ref q_t_k, .int c_images, .ref q_t_errors, .ref q_t_sheets, .ref q_t_r, .ref q_t_th, .ref q_t_sp])), (q_t_w, .inr (5, [.int w_people, .ref q_t_w_km, .ref q_t_w_father, .ref q_t_w_mother, .ref q_t_w_from, .ref q_t_w_spoons, .ref q_t_w_owed, .int w_year, .int w_z, .ref q_t_w_tape, .int w_bytes, .ref q_t_w_tx0, .ref q_t_w_tx1, .ref q_t_w_waiting, .int w_waits])), (q_t_w_spoons, .inl (g.X.cI, 40, .inl w_spoons)), (q_t_errors, .inl (g.X.cI, 7, .inl c_errors')), (q_t_th, .inr (4, [.ref q_t_th_cells, .ref q_t_th_sums, .ref q_t_th_groups]))])) (h : wp_X6_parents x1 x2 w_people w_spoons c_errors Q) : ST g 0 0 0 [(0, .ref q_t), (1, .int x1), (2, .int x2)] [] [(q_t, .inr (6, [.ref q_t_w, .ref q_t_k, .int c_images, .ref q_t_errors, .ref q_t_sheets, .ref q_t_r, .ref q_t_th, .ref q_t_sp])), (q_t_w, .inr (5, [.int w_people, .ref q_t_w_km, .ref q_t_w_father, .ref q_t_w_mother, .ref q_t_w_from, .ref q_t_w_spoons, .ref q_t_w_owed, .int w_year, .int w_z, .ref q_t_w_tape, .int w_bytes, .ref q_t_w_tx0, .ref q_t_w_tx1, .ref q_t_w_waiting, .int w_waits])), (q_t_w_spoons, .inl (g.X.cI, 40, .inl w_spoons)), (q_t_errors, .inl (g.X.cI, 7, .inl c_errors)), (q_t_th, .inr (4, [.ref q_t_th_cells, .ref q_t_th_sums, .ref q_t_th_groups]))] := by
  unfold wp_X6_parents at h
  refine st_aload_n G 1 rfl 0 rfl dX6_parents_0 rfl ?_
  refine st_iload_n G 2 rfl 1 rfl dX6_parents_1 rfl ?_
  refine st_cVio G lk_X6_74 (c_X6_notOne g.l g.D g.X q_t q_t_w q_t_w_km q_t_w_father q_t_w_mother q_t_w_from q_t_w_spoons q_t_w_owed q_t_w_tape q_t_w_tx0 q_t_w_tx1 q_t_w_waiting q_t_k q_t_errors q_t_sheets q_t_r q_t_th q_t_sp c_images w_people w_year w_z w_bytes w_waits x1 _ h) ⟨rfl, rfl, ⟨Nat.le_of_ble_eq_true rfl, Nat.le_of_ble_eq_true rfl⟩, Nat.zero_le _, Nat.zero_le _⟩ 5 rfl [0, 1] rfl (by decide) 0 6 rfl rfl rfl (Nat.le_of_ble_eq_true rfl) rfl dX6_parents_2 (fun r_2 h => ?_)
  refine st_if_ne G 17 8 rfl dX6_parents_5 rfl (fun c => ?_) (fun c => ?_)
  · have h := h.1 c
    refine st_aload_n G 18 rfl 0 rfl dX6_parents_17 rfl ?_
    refine st_iconst G 19 rfl (1 : Int32) (by decide) dX6_parents_18 ?_
    refine st_cVi G lk_X6_55 (c_X6_error g.l g.D g.X q_t q_t_w q_t_k q_t_errors q_t_sheets q_t_r q_t_th q_t_sp c_images c_errors (1 : Int32) _ h) ⟨rfl, rfl, ⟨Nat.le_of_ble_eq_true rfl, Nat.le_of_ble_eq_true rfl⟩, Nat.zero_le _, Nat.zero_le _⟩ 22 rfl [0, 3] rfl (by decide) 0 6 rfl rfl rfl (Nat.le_of_ble_eq_true rfl) rfl dX6_parents_19 (fun r_19 w hq => ?_)
    obtain ⟨c_errors_19, h, rfl⟩ := hq
    refine st_wp (ws' := [(q_t, .inr (6, [.ref q_t_w, .ref q_t_k, .int c_images, .ref q_t_errors, .ref q_t_sheets, .ref q_t_r, .ref q_t_th, .ref q_t_sp])), (q_t_w, .inr (5, [.int w_people, .ref q_t_w_km, .ref q_t_w_father, .ref q_t_w_mother, .ref q_t_w_from, .ref q_t_w_spoons, .ref q_t_w_owed, .int w_year, .int w_z, .ref q_t_w_tape, .int w_bytes, .ref q_t_w_tx0, .ref q_t_w_tx1, .ref q_t_w_waiting, .int w_waits])), (q_t_w_spoons, .inl (g.X.cI, 40, .inl w_spoons)), (q_t_errors, .inl (g.X.cI, 7, .inl c_errors_19)), (q_t_th, .inr (4, [.ref q_t_th_cells, .ref q_t_th_sums, .ref q_t_th_groups]))]) 5 [1, 2, 4] (by decide) rfl rfl (by rfl) [(q_t_w, .inr (5, [.int w_people, .ref q_t_w_km, .ref q_t_w_father, .ref q_t_w_mother, .ref q_t_w_from, .ref q_t_w_spoons, .ref q_t_w_owed, .int w_year, .int w_z, .ref q_t_w_tape, .int w_bytes, .ref q_t_w_tx0, .ref q_t_w_tx1, .ref q_t_w_waiting, .int w_waits])), (q_t_w_spoons, .inl (g.X.cI, 40, .inl w_spoons)), (q_t_th, .inr (4, [.ref q_t_th_cells, .ref q_t_th_sums, .ref q_t_th_groups]))] (by rfl) rfl ?_
    exact R _ _ _ _ dX6_parents_22 (Nat.le_of_ble_eq_true rfl) ⟨_, h, rfl⟩
  have h := h.2 c
  refine st_iload_n G 9 rfl 2 rfl dX6_parents_8 rfl ?_
  refine st_iconst G 10 rfl (0 : Int32) (by decide) dX6_parents_9 ?_
  refine st_iconst G 11 rfl (2 : Int32) (by decide) dX6_parents_10 ?_
  refine st_cSio G lk_X6_115 (c_X6_notWithin g.l g.D g.X x2 (0 : Int32) (2 : Int32) _ h) ⟨rfl, rfl, ⟨Nat.le_of_ble_eq_true rfl, Nat.le_of_ble_eq_true rfl⟩, Nat.zero_le _, Nat.zero_le _⟩ 14 rfl [] rfl (by decide) rfl (Nat.le_of_ble_eq_true rfl) rfl dX6_parents_11 (fun r_11 h => ?_)
  refine st_if_eq G 23 17 rfl dX6_parents_14 rfl (fun c => ?_) (fun c => ?_)
  · have h := h.1 c
    refine st_iload_n G 24 rfl 2 rfl dX6_parents_23 rfl ?_
    refine st_if_ne G 40 27 rfl dX6_parents_24 rfl (fun c => ?_) (fun c => ?_)
    · have h := h.1 c
      refine st_aload_n G 41 rfl 0 rfl dX6_parents_40 rfl ?_
      refine st_get G inX6 rfl 6 (by decide) wd_31 44 rfl 0 rfl rfl dX6_parents_41 ?_
      refine st_aload_n G 45 rfl 0 rfl dX6_parents_44 rfl ?_
      refine st_get G inX6 rfl 0 (by decide) wd_16 48 rfl 0 rfl rfl dX6_parents_45 ?_
      refine st_iload_n G 49 rfl 1 rfl dX6_parents_48 rfl ?_
      refine st_cVio G lk_X6_201 (c_X4_firstPairFor g.l g.D g.X q_t_th q_t_th_cells q_t_th_sums q_t_th_groups q_t_w q_t_w_km q_t_w_father q_t_w_mother q_t_w_from q_t_w_spoons q_t_w_owed q_t_w_tape q_t_w_tx0 q_t_w_tx1 q_t_w_waiting w_people w_year w_z w_bytes w_waits w_spoons x1 _ h) ⟨rfl, rfl, ⟨Nat.le_of_ble_eq_true rfl, Nat.le_of_ble_eq_true rfl⟩, Nat.zero_le _, Nat.zero_le _⟩ 52 rfl [4, 1, 2] rfl (by decide) 0 4 rfl rfl rfl (Nat.le_of_ble_eq_true rfl) rfl dX6_parents_49 (fun r_49 h => ?_)
      refine st_istore_n G 53 rfl [(3, .int r_49), (0, .ref q_t), (1, .int x1), (2, .int x2)] dX6_parents_52 rfl (by decide) rfl ?_
      refine st_iload_n G 54 rfl 0 rfl dX6_parents_53 rfl ?_
      refine st_if_ge G 63 57 rfl dX6_parents_54 rfl (fun c => ?_) (fun c => ?_)
      · have h := h.1 c
        refine st_iload_n G 64 rfl 3 rfl dX6_parents_63 rfl ?_
        refine st_iconst G 65 rfl (1 : Int32) (by decide) dX6_parents_64 ?_
        refine st_icmp_ne G 75 68 rfl dX6_parents_65 rfl (fun c => ?_) (fun c => ?_)
        · have h := h.1 c
          refine st_iload_n G 76 rfl 0 rfl dX6_parents_75 rfl ?_
          refine st_bipush G 78 rfl (8 : Int32) (by decide) dX6_parents_76 ?_
          refine st_irem G 79 rfl (by decide) dX6_parents_78 ?_
          exact R _ _ _ _ dX6_parents_79 (Nat.le_of_ble_eq_true rfl) ⟨_, h, rfl⟩
        have h := h.2 c
        refine st_iload_n G 69 rfl 0 rfl dX6_parents_68 rfl ?_
        refine st_bipush G 71 rfl (8 : Int32) (by decide) dX6_parents_69 ?_
        refine st_idiv G 72 rfl (by decide) dX6_parents_71 ?_
        refine st_goto G 79 dX6_parents_72 rfl ?_
        exact R _ _ _ _ dX6_parents_79 (Nat.le_of_ble_eq_true rfl) ⟨_, h, rfl⟩
      have h := h.2 c
      refine st_aload_n G 58 rfl 1 rfl dX6_parents_57 rfl ?_
      refine st_iconst G 59 rfl (2 : Int32) (by decide) dX6_parents_58 ?_
      refine st_cVi G lk_X6_55 (c_X6_error g.l g.D g.X q_t q_t_w q_t_k q_t_errors q_t_sheets q_t_r q_t_th q_t_sp c_images c_errors (2 : Int32) _ h) ⟨rfl, rfl, ⟨Nat.le_of_ble_eq_true rfl, Nat.le_of_ble_eq_true rfl⟩, Nat.zero_le _, Nat.zero_le _⟩ 62 rfl [0, 3] rfl (by decide) 0 6 rfl rfl rfl (Nat.le_of_ble_eq_true rfl) rfl dX6_parents_59 (fun r_59 w hq => ?_)
      obtain ⟨c_errors_59, h, rfl⟩ := hq
      refine st_wp (ws' := [(q_t, .inr (6, [.ref q_t_w, .ref q_t_k, .int c_images, .ref q_t_errors, .ref q_t_sheets, .ref q_t_r, .ref q_t_th, .ref q_t_sp])), (q_t_w, .inr (5, [.int w_people, .ref q_t_w_km, .ref q_t_w_father, .ref q_t_w_mother, .ref q_t_w_from, .ref q_t_w_spoons, .ref q_t_w_owed, .int w_year, .int w_z, .ref q_t_w_tape, .int w_bytes, .ref q_t_w_tx0, .ref q_t_w_tx1, .ref q_t_w_waiting, .int w_waits])), (q_t_w_spoons, .inl (g.X.cI, 40, .inl w_spoons)), (q_t_errors, .inl (g.X.cI, 7, .inl c_errors_59)), (q_t_th, .inr (4, [.ref q_t_th_cells, .ref q_t_th_sums, .ref q_t_th_groups]))]) 5 [1, 2, 4] (by decide) rfl rfl (by rfl) [(q_t_w, .inr (5, [.int w_people, .ref q_t_w_km, .ref q_t_w_father, .ref q_t_w_mother, .ref q_t_w_from, .ref q_t_w_spoons, .ref q_t_w_owed, .int w_year, .int w_z, .ref q_t_w_tape, .int w_bytes, .ref q_t_w_tx0, .ref q_t_w_tx1, .ref q_t_w_waiting, .int w_waits])), (q_t_w_spoons, .inl (g.X.cI, 40, .inl w_spoons)), (q_t_th, .inr (4, [.ref q_t_th_cells, .ref q_t_th_sums, .ref q_t_th_groups]))] (by rfl) rfl ?_
      exact R _ _ _ _ dX6_parents_62 (Nat.le_of_ble_eq_true rfl) ⟨_, h, rfl⟩
    have h := h.2 c
    refine st_aload_n G 28 rfl 0 rfl dX6_parents_27 rfl ?_
    refine st_get G inX6 rfl 6 (by decide) wd_31 31 rfl 0 rfl rfl dX6_parents_28 ?_
    refine st_aload_n G 32 rfl 0 rfl dX6_parents_31 rfl ?_
    refine st_get G inX6 rfl 0 (by decide) wd_16 35 rfl 0 rfl rfl dX6_parents_32 ?_
    refine st_iload_n G 36 rfl 1 rfl dX6_parents_35 rfl ?_
    refine st_cVio G lk_X6_198 (c_X4_pairsFor g.l g.D g.X q_t_th q_t_th_cells q_t_th_sums q_t_th_groups q_t_w q_t_w_km q_t_w_father q_t_w_mother q_t_w_from q_t_w_spoons q_t_w_owed q_t_w_tape q_t_w_tx0 q_t_w_tx1 q_t_w_waiting w_people w_year w_z w_bytes w_waits w_spoons x1 _ h) ⟨rfl, rfl, ⟨Nat.le_of_ble_eq_true rfl, Nat.le_of_ble_eq_true rfl⟩, Nat.zero_le _, Nat.zero_le _⟩ 39 rfl [4, 1, 2] rfl (by decide) 0 4 rfl rfl rfl (Nat.le_of_ble_eq_true rfl) rfl dX6_parents_36 (fun r_36 h => ?_)
    exact R _ _ _ _ dX6_parents_39 (Nat.le_of_ble_eq_true rfl) ⟨_, h, rfl⟩
  have h := h.2 c
  refine st_aload_n G 18 rfl 0 rfl dX6_parents_17 rfl ?_
  refine st_iconst G 19 rfl (1 : Int32) (by decide) dX6_parents_18 ?_
  refine st_cVi G lk_X6_55 (c_X6_error g.l g.D g.X q_t q_t_w q_t_k q_t_errors q_t_sheets q_t_r q_t_th q_t_sp c_images c_errors (1 : Int32) _ h) ⟨rfl, rfl, ⟨Nat.le_of_ble_eq_true rfl, Nat.le_of_ble_eq_true rfl⟩, Nat.zero_le _, Nat.zero_le _⟩ 22 rfl [0, 3] rfl (by decide) 0 6 rfl rfl rfl (Nat.le_of_ble_eq_true rfl) rfl dX6_parents_19 (fun r_19 w hq => ?_)
  obtain ⟨c_errors_19, h, rfl⟩ := hq
  refine st_wp (ws' := [(q_t, .inr (6, [.ref q_t_w, .ref q_t_k, .int c_images, .ref q_t_errors, .ref q_t_sheets, .ref q_t_r, .ref q_t_th, .ref q_t_sp])), (q_t_w, .inr (5, [.int w_people, .ref q_t_w_km, .ref q_t_w_father, .ref q_t_w_mother, .ref q_t_w_from, .ref q_t_w_spoons, .ref q_t_w_owed, .int w_year, .int w_z, .ref q_t_w_tape, .int w_bytes, .ref q_t_w_tx0, .ref q_t_w_tx1, .ref q_t_w_waiting, .int w_waits])), (q_t_w_spoons, .inl (g.X.cI, 40, .inl w_spoons)), (q_t_errors, .inl (g.X.cI, 7, .inl c_errors_19)), (q_t_th, .inr (4, [.ref q_t_th_cells, .ref q_t_th_sums, .ref q_t_th_groups]))]) 5 [1, 2, 4] (by decide) rfl rfl (by rfl) [(q_t_w, .inr (5, [.int w_people, .ref q_t_w_km, .ref q_t_w_father, .ref q_t_w_mother, .ref q_t_w_from, .ref q_t_w_spoons, .ref q_t_w_owed, .int w_year, .int w_z, .ref q_t_w_tape, .int w_bytes, .ref q_t_w_tx0, .ref q_t_w_tx1, .ref q_t_w_waiting, .int w_waits])), (q_t_w_spoons, .inl (g.X.cI, 40, .inl w_spoons)), (q_t_th, .inr (4, [.ref q_t_th_cells, .ref q_t_th_sums, .ref q_t_th_groups]))] (by rfl) rfl ?_
  exact R _ _ _ _ dX6_parents_22 (Nat.le_of_ble_eq_true rfl) ⟨_, h, rfl⟩
set_option maxRecDepth 100000 in
set_option maxHeartbeats 4000000 in
theorem c_X6_parents (l : Launch) (D : va_G) (X : XT) (q_t q_t_w q_t_w_km q_t_w_father q_t_w_mother q_t_w_from q_t_w_spoons q_t_w_owed q_t_w_tape q_t_w_tx0 q_t_w_tx1 q_t_w_waiting q_t_k q_t_errors q_t_sheets q_t_r q_t_th q_t_th_cells q_t_th_sums q_t_th_groups q_t_sp : Nat) (c_images : Int32) (w_people : Int32) (w_year : Int32) (w_z : Int32) (w_bytes : Int32) (w_waits : Int32) (w_spoons : Nat → Int32) (c_errors : Nat → Int32) (x1 : Int32) (x2 : Int32) (Q : Int32 → (Nat → Int32) → Prop) (h : wp_X6_parents x1 x2 w_people w_spoons c_errors Q) : CTi l D X yX6_parents cX6_parents 4 .int rm_X6_parents [.ref q_t, .int x1, .int x2] [(q_t, .inr (6, [.ref q_t_w, .ref q_t_k, .int c_images, .ref q_t_errors, .ref q_t_sheets, .ref q_t_r, .ref q_t_th, .ref q_t_sp])), (q_t_w, .inr (5, [.int w_people, .ref q_t_w_km, .ref q_t_w_father, .ref q_t_w_mother, .ref q_t_w_from, .ref q_t_w_spoons, .ref q_t_w_owed, .int w_year, .int w_z, .ref q_t_w_tape, .int w_bytes, .ref q_t_w_tx0, .ref q_t_w_tx1, .ref q_t_w_waiting, .int w_waits])), (q_t_w_spoons, .inl (X.cI, 40, .inl w_spoons)), (q_t_errors, .inl (X.cI, 7, .inl c_errors)), (q_t_th, .inr (4, [.ref q_t_th_cells, .ref q_t_th_sums, .ref q_t_th_groups]))] (fun (r : Int32) w => ∃ (c_errors' : Nat → Int32), Q r c_errors' ∧ w = [(q_t, .inr (6, [.ref q_t_w, .ref q_t_k, .int c_images, .ref q_t_errors, .ref q_t_sheets, .ref q_t_r, .ref q_t_th, .ref q_t_sp])), (q_t_w, .inr (5, [.int w_people, .ref q_t_w_km, .ref q_t_w_father, .ref q_t_w_mother, .ref q_t_w_from, .ref q_t_w_spoons, .ref q_t_w_owed, .int w_year, .int w_z, .ref q_t_w_tape, .int w_bytes, .ref q_t_w_tx0, .ref q_t_w_tx1, .ref q_t_w_waiting, .int w_waits])), (q_t_w_spoons, .inl (X.cI, 40, .inl w_spoons)), (q_t_errors, .inl (X.cI, 7, .inl c_errors')), (q_t_th, .inr (4, [.ref q_t_th_cells, .ref q_t_th_sums, .ref q_t_th_groups]))]) :=
  ct_i (by decide) (Nat.le_of_ble_eq_true rfl) (fun g hl hD hX G R => by subst hl; subst hD; subst hX; exact b_X6_parents_e G R h)
set_option maxRecDepth 100000 in
set_option maxHeartbeats 4000000 in
theorem b_X6_falseSorts_83 {g : GT} (G : GOOD g RX6 cX6_falseSorts 7 rm_X6_falseSorts) {q_t q_t_w q_t_w_km q_t_w_father q_t_w_mother q_t_w_from q_t_w_spoons q_t_w_owed q_t_w_tape q_t_w_tx0 q_t_w_tx1 q_t_w_waiting q_t_k q_t_errors q_t_sheets q_t_r q_t_th q_t_sp : Nat} {c_images : Int32} {w_people : Int32} {w_year : Int32} {w_z : Int32} {w_bytes : Int32} {w_waits : Int32} {w_father : Nat → Int32} {w_mother : Nat → Int32} {w_spoons : Nat → Int32} {Q : Int32 → (Nat → Int32) → Prop} {KK55 : (Int32) → (Int32) → (Int32) → (Int32) → (Int32) → (Nat → Int32) → Prop} (R : RETi g cX6_falseSorts 6 (fun (r : Int32) w => ∃ (c_errors' : Nat → Int32), Q r c_errors' ∧ w = [(q_t, .inr (6, [.ref q_t_w, .ref q_t_k, .int c_images, .ref q_t_errors, .ref q_t_sheets, .ref q_t_r, .ref q_t_th, .ref q_t_sp])), (q_t_w, .inr (5, [.int w_people, .ref q_t_w_km, .ref q_t_w_father, .ref q_t_w_mother, .ref q_t_w_from, .ref q_t_w_spoons, .ref q_t_w_owed, .int w_year, .int w_z, .ref q_t_w_tape, .int w_bytes, .ref q_t_w_tx0, .ref q_t_w_tx1, .ref q_t_w_waiting, .int w_waits])), (q_t_w_father, .inl (g.X.cI, 8, .inl w_father)), (q_t_w_mother, .inl (g.X.cI, 8, .inl w_mother)), (q_t_w_spoons, .inl (g.X.cI, 40, .inl w_spoons)), (q_t_errors, .inl (g.X.cI, 7, .inl c_errors'))])) (hK55 : ∀ (x1 : Int32) (x2 : Int32) (x3 : Int32) (x4 : Int32) (x5 : Int32) (c_errors : Nat → Int32), KK55 x1 x2 x3 x4 x5 c_errors → ST g 0 0 55 [(0, .ref q_t), (1, .int x1), (2, .int x2), (3, .int x3), (4, .int x4), (5, .int x5)] [] [(q_t, .inr (6, [.ref q_t_w, .ref q_t_k, .int c_images, .ref q_t_errors, .ref q_t_sheets, .ref q_t_r, .ref q_t_th, .ref q_t_sp])), (q_t_w, .inr (5, [.int w_people, .ref q_t_w_km, .ref q_t_w_father, .ref q_t_w_mother, .ref q_t_w_from, .ref q_t_w_spoons, .ref q_t_w_owed, .int w_year, .int w_z, .ref q_t_w_tape, .int w_bytes, .ref q_t_w_tx0, .ref q_t_w_tx1, .ref q_t_w_waiting, .int w_waits])), (q_t_w_father, .inl (g.X.cI, 8, .inl w_father)), (q_t_w_mother, .inl (g.X.cI, 8, .inl w_mother)), (q_t_w_spoons, .inl (g.X.cI, 40, .inl w_spoons)), (q_t_errors, .inl (g.X.cI, 7, .inl c_errors))]) {x1 : Int32} {x2 : Int32} {x3 : Int32} {x4 : Int32} {x5 : Int32} {s0 : Int32} {c_errors : Nat → Int32} (h : wp_X6_falseSorts_b83 Q KK55 w_people w_father w_mother w_spoons x1 x2 x3 x4 x5 s0 c_errors) : ST g 0 0 83 [(0, .ref q_t), (1, .int x1), (2, .int x2), (3, .int x3), (4, .int x4), (5, .int x5)] [.int s0] [(q_t, .inr (6, [.ref q_t_w, .ref q_t_k, .int c_images, .ref q_t_errors, .ref q_t_sheets, .ref q_t_r, .ref q_t_th, .ref q_t_sp])), (q_t_w, .inr (5, [.int w_people, .ref q_t_w_km, .ref q_t_w_father, .ref q_t_w_mother, .ref q_t_w_from, .ref q_t_w_spoons, .ref q_t_w_owed, .int w_year, .int w_z, .ref q_t_w_tape, .int w_bytes, .ref q_t_w_tx0, .ref q_t_w_tx1, .ref q_t_w_waiting, .int w_waits])), (q_t_w_father, .inl (g.X.cI, 8, .inl w_father)), (q_t_w_mother, .inl (g.X.cI, 8, .inl w_mother)), (q_t_w_spoons, .inl (g.X.cI, 40, .inl w_spoons)), (q_t_errors, .inl (g.X.cI, 7, .inl c_errors))] := by
  unfold wp_X6_falseSorts_b83 at h
  refine st_istore G 85 rfl [(6, .int s0), (0, .ref q_t), (1, .int x1), (2, .int x2), (3, .int x3), (4, .int x4), (5, .int x5)] dX6_falseSorts_83 (by decide) rfl ?_
  refine st_iload G 87 rfl 0 rfl dX6_falseSorts_85 ?_
  refine st_if_eq G 133 90 rfl dX6_falseSorts_87 rfl (fun c => ?_) (fun c => ?_)
  · have h := h.1 c
    obtain ⟨x5_133, ex5_133⟩ : ∃ y : Int32, y = (x5 + (1 : Int32)) := ⟨_, rfl⟩
    have h := h x5_133 ex5_133
    refine st_iinc G 136 rfl [(5, .int x5_133), (6, .int s0), (0, .ref q_t), (1, .int x1), (2, .int x2), (3, .int x3), (4, .int x4)] x5_133 6 rfl (by rw [ex5_133]; rfl) dX6_falseSorts_133 (by decide) rfl ?_
    refine st_goto G 55 dX6_falseSorts_136 rfl ?_
    refine st_L (L' := [(0, .ref q_t), (1, .int x1), (2, .int x2), (3, .int x3), (4, .int x4), (5, .int x5_133)]) [2, 3, 4, 5, 6, 0] rfl ?_
    exact hK55 _ _ _ _ _ _ h
  have h := h.2 c
  refine st_aload_n G 91 rfl 1 rfl dX6_falseSorts_90 rfl ?_
  refine st_get G inX6 rfl 0 (by decide) wd_16 94 rfl 0 rfl rfl dX6_falseSorts_91 ?_
  refine st_get G inX5 rfl 5 (by decide) wd_189 97 rfl 1 rfl rfl dX6_falseSorts_94 ?_
  refine st_iload_n G 98 rfl 3 rfl dX6_falseSorts_97 rfl ?_
  refine st_iload G 100 rfl 6 rfl dX6_falseSorts_98 ?_
  refine st_cSio G lk_X6_111 (c_X6_cell g.l g.D g.X x2 x5 _ h) ⟨rfl, rfl, ⟨Nat.le_of_ble_eq_true rfl, Nat.le_of_ble_eq_true rfl⟩, Nat.zero_le _, Nat.zero_le _⟩ 103 rfl [] rfl (by decide) rfl (Nat.le_of_ble_eq_true rfl) rfl dX6_falseSorts_100 (fun r_100 h => ?_)
  obtain ⟨hin, h⟩ := h
  refine st_iald G 104 rfl 4 rfl hin dX6_falseSorts_103 ?_
  refine st_if_ne G 133 107 rfl dX6_falseSorts_104 rfl (fun c => ?_) (fun c => ?_)
  · have h := h.1 c
    obtain ⟨x5_133, ex5_133⟩ : ∃ y : Int32, y = (x5 + (1 : Int32)) := ⟨_, rfl⟩
    have h := h x5_133 ex5_133
    refine st_iinc G 136 rfl [(5, .int x5_133), (6, .int s0), (0, .ref q_t), (1, .int x1), (2, .int x2), (3, .int x3), (4, .int x4)] x5_133 6 rfl (by rw [ex5_133]; rfl) dX6_falseSorts_133 (by decide) rfl ?_
    refine st_goto G 55 dX6_falseSorts_136 rfl ?_
    refine st_L (L' := [(0, .ref q_t), (1, .int x1), (2, .int x2), (3, .int x3), (4, .int x4), (5, .int x5_133)]) [2, 3, 4, 5, 6, 0] rfl ?_
    exact hK55 _ _ _ _ _ _ h
  have h := h.2 c
  refine st_aload_n G 108 rfl 1 rfl dX6_falseSorts_107 rfl ?_
  refine st_get G inX6 rfl 0 (by decide) wd_16 111 rfl 0 rfl rfl dX6_falseSorts_108 ?_
  refine st_get G inX5 rfl 5 (by decide) wd_189 114 rfl 1 rfl rfl dX6_falseSorts_111 ?_
  refine st_iload_n G 115 rfl 4 rfl dX6_falseSorts_114 rfl ?_
  refine st_iload G 117 rfl 6 rfl dX6_falseSorts_115 ?_
  refine st_cSio G lk_X6_111 (c_X6_cell g.l g.D g.X x3 x5 _ h) ⟨rfl, rfl, ⟨Nat.le_of_ble_eq_true rfl, Nat.le_of_ble_eq_true rfl⟩, Nat.zero_le _, Nat.zero_le _⟩ 120 rfl [] rfl (by decide) rfl (Nat.le_of_ble_eq_true rfl) rfl dX6_falseSorts_117 (fun r_117 h => ?_)
  obtain ⟨hin, h⟩ := h
  refine st_iald G 121 rfl 4 rfl hin dX6_falseSorts_120 ?_
  refine st_if_ne G 133 124 rfl dX6_falseSorts_121 rfl (fun c => ?_) (fun c => ?_)
  · have h := h.1 c
    obtain ⟨x5_133, ex5_133⟩ : ∃ y : Int32, y = (x5 + (1 : Int32)) := ⟨_, rfl⟩
    have h := h x5_133 ex5_133
    refine st_iinc G 136 rfl [(5, .int x5_133), (6, .int s0), (0, .ref q_t), (1, .int x1), (2, .int x2), (3, .int x3), (4, .int x4)] x5_133 6 rfl (by rw [ex5_133]; rfl) dX6_falseSorts_133 (by decide) rfl ?_
    refine st_goto G 55 dX6_falseSorts_136 rfl ?_
    refine st_L (L' := [(0, .ref q_t), (1, .int x1), (2, .int x2), (3, .int x3), (4, .int x4), (5, .int x5_133)]) [2, 3, 4, 5, 6, 0] rfl ?_
    exact hK55 _ _ _ _ _ _ h
  have h := h.2 c
  refine st_iload G 126 rfl 5 rfl dX6_falseSorts_124 ?_
  refine st_iconst G 127 rfl (1 : Int32) (by decide) dX6_falseSorts_126 ?_
  refine st_iload G 129 rfl 6 rfl dX6_falseSorts_127 ?_
  refine st_ishl G 130 rfl dX6_falseSorts_129 ?_
  refine st_ior G 131 rfl dX6_falseSorts_130 ?_
  refine st_topi (fun x4_131 ex4_131 => ?_)
  have h := h x4_131 ex4_131
  refine st_istore G 133 rfl [(4, .int x4_131), (6, .int s0), (0, .ref q_t), (1, .int x1), (2, .int x2), (3, .int x3), (5, .int x5)] dX6_falseSorts_131 (by decide) rfl ?_
  obtain ⟨x5_133, ex5_133⟩ : ∃ y : Int32, y = (x5 + (1 : Int32)) := ⟨_, rfl⟩
  have h := h x5_133 ex5_133
  refine st_iinc G 136 rfl [(5, .int x5_133), (4, .int x4_131), (6, .int s0), (0, .ref q_t), (1, .int x1), (2, .int x2), (3, .int x3)] x5_133 6 rfl (by rw [ex5_133]; rfl) dX6_falseSorts_133 (by decide) rfl ?_
  refine st_goto G 55 dX6_falseSorts_136 rfl ?_
  refine st_L (L' := [(0, .ref q_t), (1, .int x1), (2, .int x2), (3, .int x3), (4, .int x4_131), (5, .int x5_133)]) [3, 4, 5, 6, 1, 0] rfl ?_
  exact hK55 _ _ _ _ _ _ h
set_option maxRecDepth 100000 in
set_option maxHeartbeats 4000000 in
theorem b_X6_falseSorts_55 {g : GT} (G : GOOD g RX6 cX6_falseSorts 7 rm_X6_falseSorts) {q_t q_t_w q_t_w_km q_t_w_father q_t_w_mother q_t_w_from q_t_w_spoons q_t_w_owed q_t_w_tape q_t_w_tx0 q_t_w_tx1 q_t_w_waiting q_t_k q_t_errors q_t_sheets q_t_r q_t_th q_t_sp : Nat} {c_images : Int32} {w_people : Int32} {w_year : Int32} {w_z : Int32} {w_bytes : Int32} {w_waits : Int32} {w_father : Nat → Int32} {w_mother : Nat → Int32} {w_spoons : Nat → Int32} {Q : Int32 → (Nat → Int32) → Prop} (R : RETi g cX6_falseSorts 6 (fun (r : Int32) w => ∃ (c_errors' : Nat → Int32), Q r c_errors' ∧ w = [(q_t, .inr (6, [.ref q_t_w, .ref q_t_k, .int c_images, .ref q_t_errors, .ref q_t_sheets, .ref q_t_r, .ref q_t_th, .ref q_t_sp])), (q_t_w, .inr (5, [.int w_people, .ref q_t_w_km, .ref q_t_w_father, .ref q_t_w_mother, .ref q_t_w_from, .ref q_t_w_spoons, .ref q_t_w_owed, .int w_year, .int w_z, .ref q_t_w_tape, .int w_bytes, .ref q_t_w_tx0, .ref q_t_w_tx1, .ref q_t_w_waiting, .int w_waits])), (q_t_w_father, .inl (g.X.cI, 8, .inl w_father)), (q_t_w_mother, .inl (g.X.cI, 8, .inl w_mother)), (q_t_w_spoons, .inl (g.X.cI, 40, .inl w_spoons)), (q_t_errors, .inl (g.X.cI, 7, .inl c_errors'))])) : ∀ (n : Nat) (x1 : Int32) (x2 : Int32) (x3 : Int32) (x4 : Int32) (x5 : Int32) (c_errors : Nat → Int32), wp_X6_falseSorts_b55 Q w_people w_father w_mother w_spoons n x1 x2 x3 x4 x5 c_errors → ST g 0 0 55 [(0, .ref q_t), (1, .int x1), (2, .int x2), (3, .int x3), (4, .int x4), (5, .int x5)] [] [(q_t, .inr (6, [.ref q_t_w, .ref q_t_k, .int c_images, .ref q_t_errors, .ref q_t_sheets, .ref q_t_r, .ref q_t_th, .ref q_t_sp])), (q_t_w, .inr (5, [.int w_people, .ref q_t_w_km, .ref q_t_w_father, .ref q_t_w_mother, .ref q_t_w_from, .ref q_t_w_spoons, .ref q_t_w_owed, .int w_year, .int w_z, .ref q_t_w_tape, .int w_bytes, .ref q_t_w_tx0, .ref q_t_w_tx1, .ref q_t_w_waiting, .int w_waits])), (q_t_w_father, .inl (g.X.cI, 8, .inl w_father)), (q_t_w_mother, .inl (g.X.cI, 8, .inl w_mother)), (q_t_w_spoons, .inl (g.X.cI, 40, .inl w_spoons)), (q_t_errors, .inl (g.X.cI, 7, .inl c_errors))] := by
  intro n
  induction n with
  | zero => intro x1 x2 x3 x4 x5 c_errors h; exact False.elim h
  | succ n hK55 =>
    intro x1 x2 x3 x4 x5 c_errors h
    unfold wp_X6_falseSorts_b55 at h
    refine st_iload G 57 rfl 5 rfl dX6_falseSorts_55 ?_
    refine st_iconst G 58 rfl (5 : Int32) (by decide) dX6_falseSorts_57 ?_
    refine st_icmp_ge G 139 61 rfl dX6_falseSorts_58 rfl (fun c => ?_) (fun c => ?_)
    · have h := h.1 c
      refine st_iload G 141 rfl 4 rfl dX6_falseSorts_139 ?_
      exact R _ _ _ _ dX6_falseSorts_141 (Nat.le_of_ble_eq_true rfl) ⟨_, h, rfl⟩
    have h := h.2 c
    refine st_aload_n G 62 rfl 0 rfl dX6_falseSorts_61 rfl ?_
    refine st_get G inX6 rfl 0 (by decide) wd_16 65 rfl 0 rfl rfl dX6_falseSorts_62 ?_
    refine st_get G inX5 rfl 5 (by decide) wd_189 68 rfl 1 rfl rfl dX6_falseSorts_65 ?_
    refine st_iload_n G 69 rfl 1 rfl dX6_falseSorts_68 rfl ?_
    refine st_iload G 71 rfl 5 rfl dX6_falseSorts_69 ?_
    refine st_cSio G lk_X6_111 (c_X6_cell g.l g.D g.X x1 x5 _ h) ⟨rfl, rfl, ⟨Nat.le_of_ble_eq_true rfl, Nat.le_of_ble_eq_true rfl⟩, Nat.zero_le _, Nat.zero_le _⟩ 74 rfl [] rfl (by decide) rfl (Nat.le_of_ble_eq_true rfl) rfl dX6_falseSorts_71 (fun r_71 h => ?_)
    obtain ⟨hin, h⟩ := h
    refine st_iald G 75 rfl 4 rfl hin dX6_falseSorts_74 ?_
    refine st_if_le G 82 78 rfl dX6_falseSorts_75 rfl (fun c => ?_) (fun c => ?_)
    · have h := h.1 c
      refine st_iconst G 83 rfl (0 : Int32) (by decide) dX6_falseSorts_82 ?_
      exact b_X6_falseSorts_83 G R hK55 h
    have h := h.2 c
    refine st_iconst G 79 rfl (1 : Int32) (by decide) dX6_falseSorts_78 ?_
    refine st_goto G 83 dX6_falseSorts_79 rfl ?_
    exact b_X6_falseSorts_83 G R hK55 h
set_option maxRecDepth 100000 in
set_option maxHeartbeats 4000000 in
theorem b_X6_falseSorts_e {g : GT} (G : GOOD g RX6 cX6_falseSorts 7 rm_X6_falseSorts) {q_t q_t_w q_t_w_km q_t_w_father q_t_w_mother q_t_w_from q_t_w_spoons q_t_w_owed q_t_w_tape q_t_w_tx0 q_t_w_tx1 q_t_w_waiting q_t_k q_t_errors q_t_sheets q_t_r q_t_th q_t_sp : Nat} {c_images : Int32} {w_people : Int32} {w_year : Int32} {w_z : Int32} {w_bytes : Int32} {w_waits : Int32} {w_father : Nat → Int32} {w_mother : Nat → Int32} {w_spoons : Nat → Int32} {c_errors : Nat → Int32} {x1 : Int32} {Q : Int32 → (Nat → Int32) → Prop} (R : RETi g cX6_falseSorts 6 (fun (r : Int32) w => ∃ (c_errors' : Nat → Int32), Q r c_errors' ∧ w = [(q_t, .inr (6, [.ref q_t_w, .ref q_t_k, .int c_images, .ref q_t_errors, .ref q_t_sheets, .ref q_t_r, .ref q_t_th, .ref q_t_sp])), (q_t_w, .inr (5, [.int w_people, .ref q_t_w_km, .ref q_t_w_father, .ref q_t_w_mother, .ref q_t_w_from, .ref q_t_w_spoons, .ref q_t_w_owed, .int w_year, .int w_z, .ref q_t_w_tape, .int w_bytes, .ref q_t_w_tx0, .ref q_t_w_tx1, .ref q_t_w_waiting, .int w_waits])), (q_t_w_father, .inl (g.X.cI, 8, .inl w_father)), (q_t_w_mother, .inl (g.X.cI, 8, .inl w_mother)), (q_t_w_spoons, .inl (g.X.cI, 40, .inl w_spoons)), (q_t_errors, .inl (g.X.cI, 7, .inl c_errors'))])) (h : wp_X6_falseSorts x1 w_people w_father w_mother w_spoons c_errors Q) : ST g 0 0 0 [(0, .ref q_t), (1, .int x1)] [] [(q_t, .inr (6, [.ref q_t_w, .ref q_t_k, .int c_images, .ref q_t_errors, .ref q_t_sheets, .ref q_t_r, .ref q_t_th, .ref q_t_sp])), (q_t_w, .inr (5, [.int w_people, .ref q_t_w_km, .ref q_t_w_father, .ref q_t_w_mother, .ref q_t_w_from, .ref q_t_w_spoons, .ref q_t_w_owed, .int w_year, .int w_z, .ref q_t_w_tape, .int w_bytes, .ref q_t_w_tx0, .ref q_t_w_tx1, .ref q_t_w_waiting, .int w_waits])), (q_t_w_father, .inl (g.X.cI, 8, .inl w_father)), (q_t_w_mother, .inl (g.X.cI, 8, .inl w_mother)), (q_t_w_spoons, .inl (g.X.cI, 40, .inl w_spoons)), (q_t_errors, .inl (g.X.cI, 7, .inl c_errors))] := by
  unfold wp_X6_falseSorts at h
  refine st_aload_n G 1 rfl 0 rfl dX6_falseSorts_0 rfl ?_
  refine st_iload_n G 2 rfl 1 rfl dX6_falseSorts_1 rfl ?_
  refine st_cVio G lk_X6_74 (c_X6_notOne g.l g.D g.X q_t q_t_w q_t_w_km q_t_w_father q_t_w_mother q_t_w_from q_t_w_spoons q_t_w_owed q_t_w_tape q_t_w_tx0 q_t_w_tx1 q_t_w_waiting q_t_k q_t_errors q_t_sheets q_t_r q_t_th q_t_sp c_images w_people w_year w_z w_bytes w_waits x1 _ h) ⟨rfl, rfl, ⟨Nat.le_of_ble_eq_true rfl, Nat.le_of_ble_eq_true rfl⟩, Nat.zero_le _, Nat.zero_le _⟩ 5 rfl [0, 1] rfl (by decide) 0 6 rfl rfl rfl (Nat.le_of_ble_eq_true rfl) rfl dX6_falseSorts_2 (fun r_2 h => ?_)
  refine st_if_eq G 14 8 rfl dX6_falseSorts_5 rfl (fun c => ?_) (fun c => ?_)
  · have h := h.1 c
    refine st_aload_n G 15 rfl 0 rfl dX6_falseSorts_14 rfl ?_
    refine st_get G inX6 rfl 0 (by decide) wd_16 18 rfl 0 rfl rfl dX6_falseSorts_15 ?_
    refine st_get G inX5 rfl 2 (by decide) wd_187 21 rfl 1 rfl rfl dX6_falseSorts_18 ?_
    refine st_iload_n G 22 rfl 1 rfl dX6_falseSorts_21 rfl ?_
    obtain ⟨hin, h⟩ := h
    refine st_iald G 23 rfl 2 rfl hin dX6_falseSorts_22 ?_
    refine st_topi (fun x2_23 ex2_23 => ?_)
    have h := h x2_23 ex2_23
    refine st_istore_n G 24 rfl [(2, .int x2_23), (0, .ref q_t), (1, .int x1)] dX6_falseSorts_23 rfl (by decide) rfl ?_
    refine st_aload_n G 25 rfl 1 rfl dX6_falseSorts_24 rfl ?_
    refine st_get G inX6 rfl 0 (by decide) wd_16 28 rfl 0 rfl rfl dX6_falseSorts_25 ?_
    refine st_get G inX5 rfl 3 (by decide) wd_188 31 rfl 1 rfl rfl dX6_falseSorts_28 ?_
    refine st_iload_n G 32 rfl 2 rfl dX6_falseSorts_31 rfl ?_
    obtain ⟨hin, h⟩ := h
    refine st_iald G 33 rfl 3 rfl hin dX6_falseSorts_32 ?_
    refine st_topi (fun x3_33 ex3_33 => ?_)
    have h := h x3_33 ex3_33
    refine st_istore_n G 34 rfl [(3, .int x3_33), (2, .int x2_23), (0, .ref q_t), (1, .int x1)] dX6_falseSorts_33 rfl (by decide) rfl ?_
    refine st_aload_n G 35 rfl 2 rfl dX6_falseSorts_34 rfl ?_
    refine st_iload_n G 36 rfl 1 rfl dX6_falseSorts_35 rfl ?_
    refine st_iload_n G 37 rfl 0 rfl dX6_falseSorts_36 rfl ?_
    refine st_cVio G lk_X6_66 (c_X6_notTwo g.l g.D g.X q_t q_t_w q_t_w_km q_t_w_father q_t_w_mother q_t_w_from q_t_w_spoons q_t_w_owed q_t_w_tape q_t_w_tx0 q_t_w_tx1 q_t_w_waiting q_t_k q_t_errors q_t_sheets q_t_r q_t_th q_t_sp c_images w_people w_year w_z w_bytes w_waits x2_23 x3_33 _ h) ⟨rfl, rfl, ⟨Nat.le_of_ble_eq_true rfl, Nat.le_of_ble_eq_true rfl⟩, Nat.zero_le _, Nat.zero_le _⟩ 40 rfl [0, 1] rfl (by decide) 0 6 rfl rfl rfl (Nat.le_of_ble_eq_true rfl) rfl dX6_falseSorts_37 (fun r_37 h => ?_)
    refine st_if_eq G 49 43 rfl dX6_falseSorts_40 rfl (fun c => ?_) (fun c => ?_)
    · have h := h.1 c
      refine st_iconst G 50 rfl (0 : Int32) (by decide) dX6_falseSorts_49 ?_
      refine st_istore G 52 rfl [(4, .int (0 : Int32)), (3, .int x3_33), (2, .int x2_23), (0, .ref q_t), (1, .int x1)] dX6_falseSorts_50 (by decide) rfl ?_
      refine st_iconst G 53 rfl (0 : Int32) (by decide) dX6_falseSorts_52 ?_
      refine st_istore G 55 rfl [(5, .int (0 : Int32)), (4, .int (0 : Int32)), (3, .int x3_33), (2, .int x2_23), (0, .ref q_t), (1, .int x1)] dX6_falseSorts_53 (by decide) rfl ?_
      refine st_L (L' := [(0, .ref q_t), (1, .int x1), (2, .int x2_23), (3, .int x3_33), (4, .int (0 : Int32)), (5, .int (0 : Int32))]) [4, 5, 3, 2, 1, 0] rfl ?_
      obtain ⟨n, h⟩ := h
      exact b_X6_falseSorts_55 G R n _ _ _ _ _ _ h
    have h := h.2 c
    refine st_aload_n G 44 rfl 2 rfl dX6_falseSorts_43 rfl ?_
    refine st_iconst G 45 rfl (3 : Int32) (by decide) dX6_falseSorts_44 ?_
    refine st_cVi G lk_X6_55 (c_X6_error g.l g.D g.X q_t q_t_w q_t_k q_t_errors q_t_sheets q_t_r q_t_th q_t_sp c_images c_errors (3 : Int32) _ h) ⟨rfl, rfl, ⟨Nat.le_of_ble_eq_true rfl, Nat.le_of_ble_eq_true rfl⟩, Nat.zero_le _, Nat.zero_le _⟩ 48 rfl [0, 5] rfl (by decide) 0 6 rfl rfl rfl (Nat.le_of_ble_eq_true rfl) rfl dX6_falseSorts_45 (fun r_45 w hq => ?_)
    obtain ⟨c_errors_45, h, rfl⟩ := hq
    refine st_wp (ws' := [(q_t, .inr (6, [.ref q_t_w, .ref q_t_k, .int c_images, .ref q_t_errors, .ref q_t_sheets, .ref q_t_r, .ref q_t_th, .ref q_t_sp])), (q_t_w, .inr (5, [.int w_people, .ref q_t_w_km, .ref q_t_w_father, .ref q_t_w_mother, .ref q_t_w_from, .ref q_t_w_spoons, .ref q_t_w_owed, .int w_year, .int w_z, .ref q_t_w_tape, .int w_bytes, .ref q_t_w_tx0, .ref q_t_w_tx1, .ref q_t_w_waiting, .int w_waits])), (q_t_w_father, .inl (g.X.cI, 8, .inl w_father)), (q_t_w_mother, .inl (g.X.cI, 8, .inl w_mother)), (q_t_w_spoons, .inl (g.X.cI, 40, .inl w_spoons)), (q_t_errors, .inl (g.X.cI, 7, .inl c_errors_45))]) 6 [1, 2, 3, 4] (by decide) rfl rfl (by rfl) [(q_t_w, .inr (5, [.int w_people, .ref q_t_w_km, .ref q_t_w_father, .ref q_t_w_mother, .ref q_t_w_from, .ref q_t_w_spoons, .ref q_t_w_owed, .int w_year, .int w_z, .ref q_t_w_tape, .int w_bytes, .ref q_t_w_tx0, .ref q_t_w_tx1, .ref q_t_w_waiting, .int w_waits])), (q_t_w_father, .inl (g.X.cI, 8, .inl w_father)), (q_t_w_mother, .inl (g.X.cI, 8, .inl w_mother)), (q_t_w_spoons, .inl (g.X.cI, 40, .inl w_spoons))] (by rfl) rfl ?_
    exact R _ _ _ _ dX6_falseSorts_48 (Nat.le_of_ble_eq_true rfl) ⟨_, h, rfl⟩
  have h := h.2 c
  refine st_aload_n G 9 rfl 0 rfl dX6_falseSorts_8 rfl ?_
  refine st_iconst G 10 rfl (1 : Int32) (by decide) dX6_falseSorts_9 ?_
  refine st_cVi G lk_X6_55 (c_X6_error g.l g.D g.X q_t q_t_w q_t_k q_t_errors q_t_sheets q_t_r q_t_th q_t_sp c_images c_errors (1 : Int32) _ h) ⟨rfl, rfl, ⟨Nat.le_of_ble_eq_true rfl, Nat.le_of_ble_eq_true rfl⟩, Nat.zero_le _, Nat.zero_le _⟩ 13 rfl [0, 5] rfl (by decide) 0 6 rfl rfl rfl (Nat.le_of_ble_eq_true rfl) rfl dX6_falseSorts_10 (fun r_10 w hq => ?_)
  obtain ⟨c_errors_10, h, rfl⟩ := hq
  refine st_wp (ws' := [(q_t, .inr (6, [.ref q_t_w, .ref q_t_k, .int c_images, .ref q_t_errors, .ref q_t_sheets, .ref q_t_r, .ref q_t_th, .ref q_t_sp])), (q_t_w, .inr (5, [.int w_people, .ref q_t_w_km, .ref q_t_w_father, .ref q_t_w_mother, .ref q_t_w_from, .ref q_t_w_spoons, .ref q_t_w_owed, .int w_year, .int w_z, .ref q_t_w_tape, .int w_bytes, .ref q_t_w_tx0, .ref q_t_w_tx1, .ref q_t_w_waiting, .int w_waits])), (q_t_w_father, .inl (g.X.cI, 8, .inl w_father)), (q_t_w_mother, .inl (g.X.cI, 8, .inl w_mother)), (q_t_w_spoons, .inl (g.X.cI, 40, .inl w_spoons)), (q_t_errors, .inl (g.X.cI, 7, .inl c_errors_10))]) 6 [1, 2, 3, 4] (by decide) rfl rfl (by rfl) [(q_t_w, .inr (5, [.int w_people, .ref q_t_w_km, .ref q_t_w_father, .ref q_t_w_mother, .ref q_t_w_from, .ref q_t_w_spoons, .ref q_t_w_owed, .int w_year, .int w_z, .ref q_t_w_tape, .int w_bytes, .ref q_t_w_tx0, .ref q_t_w_tx1, .ref q_t_w_waiting, .int w_waits])), (q_t_w_father, .inl (g.X.cI, 8, .inl w_father)), (q_t_w_mother, .inl (g.X.cI, 8, .inl w_mother)), (q_t_w_spoons, .inl (g.X.cI, 40, .inl w_spoons))] (by rfl) rfl ?_
  exact R _ _ _ _ dX6_falseSorts_13 (Nat.le_of_ble_eq_true rfl) ⟨_, h, rfl⟩
set_option maxRecDepth 100000 in
set_option maxHeartbeats 4000000 in
theorem c_X6_falseSorts (l : Launch) (D : va_G) (X : XT) (q_t q_t_w q_t_w_km q_t_w_father q_t_w_mother q_t_w_from q_t_w_spoons q_t_w_owed q_t_w_tape q_t_w_tx0 q_t_w_tx1 q_t_w_waiting q_t_k q_t_errors q_t_sheets q_t_r q_t_th q_t_sp : Nat) (c_images : Int32) (w_people : Int32) (w_year : Int32) (w_z : Int32) (w_bytes : Int32) (w_waits : Int32) (w_father : Nat → Int32) (w_mother : Nat → Int32) (w_spoons : Nat → Int32) (c_errors : Nat → Int32) (x1 : Int32) (Q : Int32 → (Nat → Int32) → Prop) (h : wp_X6_falseSorts x1 w_people w_father w_mother w_spoons c_errors Q) : CTi l D X yX6_falseSorts cX6_falseSorts 7 .int rm_X6_falseSorts [.ref q_t, .int x1] [(q_t, .inr (6, [.ref q_t_w, .ref q_t_k, .int c_images, .ref q_t_errors, .ref q_t_sheets, .ref q_t_r, .ref q_t_th, .ref q_t_sp])), (q_t_w, .inr (5, [.int w_people, .ref q_t_w_km, .ref q_t_w_father, .ref q_t_w_mother, .ref q_t_w_from, .ref q_t_w_spoons, .ref q_t_w_owed, .int w_year, .int w_z, .ref q_t_w_tape, .int w_bytes, .ref q_t_w_tx0, .ref q_t_w_tx1, .ref q_t_w_waiting, .int w_waits])), (q_t_w_father, .inl (X.cI, 8, .inl w_father)), (q_t_w_mother, .inl (X.cI, 8, .inl w_mother)), (q_t_w_spoons, .inl (X.cI, 40, .inl w_spoons)), (q_t_errors, .inl (X.cI, 7, .inl c_errors))] (fun (r : Int32) w => ∃ (c_errors' : Nat → Int32), Q r c_errors' ∧ w = [(q_t, .inr (6, [.ref q_t_w, .ref q_t_k, .int c_images, .ref q_t_errors, .ref q_t_sheets, .ref q_t_r, .ref q_t_th, .ref q_t_sp])), (q_t_w, .inr (5, [.int w_people, .ref q_t_w_km, .ref q_t_w_father, .ref q_t_w_mother, .ref q_t_w_from, .ref q_t_w_spoons, .ref q_t_w_owed, .int w_year, .int w_z, .ref q_t_w_tape, .int w_bytes, .ref q_t_w_tx0, .ref q_t_w_tx1, .ref q_t_w_waiting, .int w_waits])), (q_t_w_father, .inl (X.cI, 8, .inl w_father)), (q_t_w_mother, .inl (X.cI, 8, .inl w_mother)), (q_t_w_spoons, .inl (X.cI, 40, .inl w_spoons)), (q_t_errors, .inl (X.cI, 7, .inl c_errors'))]) :=
  ct_i (by decide) (Nat.le_of_ble_eq_true rfl) (fun g hl hD hX G R => by subst hl; subst hD; subst hX; exact b_X6_falseSorts_e G R h)
set_option maxRecDepth 100000 in
set_option maxHeartbeats 4000000 in
theorem b_X6_kin_e {g : GT} (G : GOOD g RX6 cX6_kin 3 rm_X6_kin) {q_t q_t_w q_t_w_km q_t_w_father q_t_w_mother q_t_w_from q_t_w_spoons q_t_w_owed q_t_w_tape q_t_w_tx0 q_t_w_tx1 q_t_w_waiting q_t_k q_t_errors q_t_sheets q_t_r q_t_th q_t_sp : Nat} {c_images : Int32} {w_people : Int32} {w_year : Int32} {w_z : Int32} {w_bytes : Int32} {w_waits : Int32} {w_from : Nat → Int32} {c_errors : Nat → Int32} {x1 : Int32} {x2 : Int32} {Q : Int32 → (Nat → Int32) → Prop} (R : RETi g cX6_kin 4 (fun (r : Int32) w => ∃ (c_errors' : Nat → Int32), Q r c_errors' ∧ w = [(q_t, .inr (6, [.ref q_t_w, .ref q_t_k, .int c_images, .ref q_t_errors, .ref q_t_sheets, .ref q_t_r, .ref q_t_th, .ref q_t_sp])), (q_t_w, .inr (5, [.int w_people, .ref q_t_w_km, .ref q_t_w_father, .ref q_t_w_mother, .ref q_t_w_from, .ref q_t_w_spoons, .ref q_t_w_owed, .int w_year, .int w_z, .ref q_t_w_tape, .int w_bytes, .ref q_t_w_tx0, .ref q_t_w_tx1, .ref q_t_w_waiting, .int w_waits])), (q_t_w_from, .inl (g.X.cI, 8, .inl w_from)), (q_t_errors, .inl (g.X.cI, 7, .inl c_errors'))])) (h : wp_X6_kin x1 x2 w_people w_from c_errors Q) : ST g 0 0 0 [(0, .ref q_t), (1, .int x1), (2, .int x2)] [] [(q_t, .inr (6, [.ref q_t_w, .ref q_t_k, .int c_images, .ref q_t_errors, .ref q_t_sheets, .ref q_t_r, .ref q_t_th, .ref q_t_sp])), (q_t_w, .inr (5, [.int w_people, .ref q_t_w_km, .ref q_t_w_father, .ref q_t_w_mother, .ref q_t_w_from, .ref q_t_w_spoons, .ref q_t_w_owed, .int w_year, .int w_z, .ref q_t_w_tape, .int w_bytes, .ref q_t_w_tx0, .ref q_t_w_tx1, .ref q_t_w_waiting, .int w_waits])), (q_t_w_from, .inl (g.X.cI, 8, .inl w_from)), (q_t_errors, .inl (g.X.cI, 7, .inl c_errors))] := by
  unfold wp_X6_kin at h
  refine st_aload_n G 1 rfl 0 rfl dX6_kin_0 rfl ?_
  refine st_iload_n G 2 rfl 1 rfl dX6_kin_1 rfl ?_
  refine st_iload_n G 3 rfl 2 rfl dX6_kin_2 rfl ?_
  refine st_cVio G lk_X6_66 (c_X6_notTwo g.l g.D g.X q_t q_t_w q_t_w_km q_t_w_father q_t_w_mother q_t_w_from q_t_w_spoons q_t_w_owed q_t_w_tape q_t_w_tx0 q_t_w_tx1 q_t_w_waiting q_t_k q_t_errors q_t_sheets q_t_r q_t_th q_t_sp c_images w_people w_year w_z w_bytes w_waits x1 x2 _ h) ⟨rfl, rfl, ⟨Nat.le_of_ble_eq_true rfl, Nat.le_of_ble_eq_true rfl⟩, Nat.zero_le _, Nat.zero_le _⟩ 6 rfl [0, 1] rfl (by decide) 0 6 rfl rfl rfl (Nat.le_of_ble_eq_true rfl) rfl dX6_kin_3 (fun r_3 h => ?_)
  refine st_if_eq G 15 9 rfl dX6_kin_6 rfl (fun c => ?_) (fun c => ?_)
  · have h := h.1 c
    refine st_aload_n G 16 rfl 0 rfl dX6_kin_15 rfl ?_
    refine st_get G inX6 rfl 0 (by decide) wd_16 19 rfl 0 rfl rfl dX6_kin_16 ?_
    refine st_iload_n G 20 rfl 1 rfl dX6_kin_19 rfl ?_
    refine st_cVio G lk_X6_204 (c_X5_withForebears g.l g.D g.X q_t_w q_t_w_km q_t_w_father q_t_w_mother q_t_w_from q_t_w_spoons q_t_w_owed q_t_w_tape q_t_w_tx0 q_t_w_tx1 q_t_w_waiting w_people w_year w_z w_bytes w_waits w_from x1 _ h) ⟨rfl, rfl, ⟨Nat.le_of_ble_eq_true rfl, Nat.le_of_ble_eq_true rfl⟩, Nat.zero_le _, Nat.zero_le _⟩ 23 rfl [1, 2] rfl (by decide) 0 5 rfl rfl rfl (Nat.le_of_ble_eq_true rfl) rfl dX6_kin_20 (fun r_20 h => ?_)
    refine st_aload_n G 24 rfl 0 rfl dX6_kin_23 rfl ?_
    refine st_get G inX6 rfl 0 (by decide) wd_16 27 rfl 0 rfl rfl dX6_kin_24 ?_
    refine st_iload_n G 28 rfl 2 rfl dX6_kin_27 rfl ?_
    refine st_cVio G lk_X6_204 (c_X5_withForebears g.l g.D g.X q_t_w q_t_w_km q_t_w_father q_t_w_mother q_t_w_from q_t_w_spoons q_t_w_owed q_t_w_tape q_t_w_tx0 q_t_w_tx1 q_t_w_waiting w_people w_year w_z w_bytes w_waits w_from x2 _ h) ⟨rfl, rfl, ⟨Nat.le_of_ble_eq_true rfl, Nat.le_of_ble_eq_true rfl⟩, Nat.zero_le _, Nat.zero_le _⟩ 31 rfl [1, 2] rfl (by decide) 0 5 rfl rfl rfl (Nat.le_of_ble_eq_true rfl) rfl dX6_kin_28 (fun r_28 h => ?_)
    refine st_iand G 32 rfl dX6_kin_31 ?_
    exact R _ _ _ _ dX6_kin_32 (Nat.le_of_ble_eq_true rfl) ⟨_, h, rfl⟩
  have h := h.2 c
  refine st_aload_n G 10 rfl 0 rfl dX6_kin_9 rfl ?_
  refine st_iconst G 11 rfl (1 : Int32) (by decide) dX6_kin_10 ?_
  refine st_cVi G lk_X6_55 (c_X6_error g.l g.D g.X q_t q_t_w q_t_k q_t_errors q_t_sheets q_t_r q_t_th q_t_sp c_images c_errors (1 : Int32) _ h) ⟨rfl, rfl, ⟨Nat.le_of_ble_eq_true rfl, Nat.le_of_ble_eq_true rfl⟩, Nat.zero_le _, Nat.zero_le _⟩ 14 rfl [0, 3] rfl (by decide) 0 6 rfl rfl rfl (Nat.le_of_ble_eq_true rfl) rfl dX6_kin_11 (fun r_11 w hq => ?_)
  obtain ⟨c_errors_11, h, rfl⟩ := hq
  refine st_wp (ws' := [(q_t, .inr (6, [.ref q_t_w, .ref q_t_k, .int c_images, .ref q_t_errors, .ref q_t_sheets, .ref q_t_r, .ref q_t_th, .ref q_t_sp])), (q_t_w, .inr (5, [.int w_people, .ref q_t_w_km, .ref q_t_w_father, .ref q_t_w_mother, .ref q_t_w_from, .ref q_t_w_spoons, .ref q_t_w_owed, .int w_year, .int w_z, .ref q_t_w_tape, .int w_bytes, .ref q_t_w_tx0, .ref q_t_w_tx1, .ref q_t_w_waiting, .int w_waits])), (q_t_w_from, .inl (g.X.cI, 8, .inl w_from)), (q_t_errors, .inl (g.X.cI, 7, .inl c_errors_11))]) 4 [1, 2] (by decide) rfl rfl (by rfl) [(q_t_w, .inr (5, [.int w_people, .ref q_t_w_km, .ref q_t_w_father, .ref q_t_w_mother, .ref q_t_w_from, .ref q_t_w_spoons, .ref q_t_w_owed, .int w_year, .int w_z, .ref q_t_w_tape, .int w_bytes, .ref q_t_w_tx0, .ref q_t_w_tx1, .ref q_t_w_waiting, .int w_waits])), (q_t_w_from, .inl (g.X.cI, 8, .inl w_from))] (by rfl) rfl ?_
  exact R _ _ _ _ dX6_kin_14 (Nat.le_of_ble_eq_true rfl) ⟨_, h, rfl⟩
set_option maxRecDepth 100000 in
set_option maxHeartbeats 4000000 in
theorem c_X6_kin (l : Launch) (D : va_G) (X : XT) (q_t q_t_w q_t_w_km q_t_w_father q_t_w_mother q_t_w_from q_t_w_spoons q_t_w_owed q_t_w_tape q_t_w_tx0 q_t_w_tx1 q_t_w_waiting q_t_k q_t_errors q_t_sheets q_t_r q_t_th q_t_sp : Nat) (c_images : Int32) (w_people : Int32) (w_year : Int32) (w_z : Int32) (w_bytes : Int32) (w_waits : Int32) (w_from : Nat → Int32) (c_errors : Nat → Int32) (x1 : Int32) (x2 : Int32) (Q : Int32 → (Nat → Int32) → Prop) (h : wp_X6_kin x1 x2 w_people w_from c_errors Q) : CTi l D X yX6_kin cX6_kin 3 .int rm_X6_kin [.ref q_t, .int x1, .int x2] [(q_t, .inr (6, [.ref q_t_w, .ref q_t_k, .int c_images, .ref q_t_errors, .ref q_t_sheets, .ref q_t_r, .ref q_t_th, .ref q_t_sp])), (q_t_w, .inr (5, [.int w_people, .ref q_t_w_km, .ref q_t_w_father, .ref q_t_w_mother, .ref q_t_w_from, .ref q_t_w_spoons, .ref q_t_w_owed, .int w_year, .int w_z, .ref q_t_w_tape, .int w_bytes, .ref q_t_w_tx0, .ref q_t_w_tx1, .ref q_t_w_waiting, .int w_waits])), (q_t_w_from, .inl (X.cI, 8, .inl w_from)), (q_t_errors, .inl (X.cI, 7, .inl c_errors))] (fun (r : Int32) w => ∃ (c_errors' : Nat → Int32), Q r c_errors' ∧ w = [(q_t, .inr (6, [.ref q_t_w, .ref q_t_k, .int c_images, .ref q_t_errors, .ref q_t_sheets, .ref q_t_r, .ref q_t_th, .ref q_t_sp])), (q_t_w, .inr (5, [.int w_people, .ref q_t_w_km, .ref q_t_w_father, .ref q_t_w_mother, .ref q_t_w_from, .ref q_t_w_spoons, .ref q_t_w_owed, .int w_year, .int w_z, .ref q_t_w_tape, .int w_bytes, .ref q_t_w_tx0, .ref q_t_w_tx1, .ref q_t_w_waiting, .int w_waits])), (q_t_w_from, .inl (X.cI, 8, .inl w_from)), (q_t_errors, .inl (X.cI, 7, .inl c_errors'))]) :=
  ct_i (by decide) (Nat.le_of_ble_eq_true rfl) (fun g hl hD hX G R => by subst hl; subst hD; subst hX; exact b_X6_kin_e G R h)
set_option maxRecDepth 100000 in
set_option maxHeartbeats 4000000 in
theorem b_X5_balanceOf_4 {g : GT} (G : GOOD g RX5 cX5_balanceOf 4 rm_X5_balanceOf) {q_t q_t_km q_t_father q_t_mother q_t_from q_t_spoons q_t_owed q_t_tape q_t_tx0 q_t_tx1 q_t_waiting : Nat} {c_people : Int32} {c_year : Int32} {c_z : Int32} {c_bytes : Int32} {c_waits : Int32} {c_owed : Nat → Int32} {Q : Int32 → Prop} (R : RETi g cX5_balanceOf 2 (fun (r : Int32) w => (Q r) ∧ w = [(q_t, .inr (5, [.int c_people, .ref q_t_km, .ref q_t_father, .ref q_t_mother, .ref q_t_from, .ref q_t_spoons, .ref q_t_owed, .int c_year, .int c_z, .ref q_t_tape, .int c_bytes, .ref q_t_tx0, .ref q_t_tx1, .ref q_t_waiting, .int c_waits])), (q_t_owed, .inl (g.X.cI, 64, .inl c_owed))])) : ∀ (n : Nat) (x1 : Int32) (x2 : Int32) (x3 : Int32), wp_X5_balanceOf_b4 Q c_people c_owed n x1 x2 x3 → ST g 0 0 4 [(0, .ref q_t), (1, .int x1), (2, .int x2), (3, .int x3)] [] [(q_t, .inr (5, [.int c_people, .ref q_t_km, .ref q_t_father, .ref q_t_mother, .ref q_t_from, .ref q_t_spoons, .ref q_t_owed, .int c_year, .int c_z, .ref q_t_tape, .int c_bytes, .ref q_t_tx0, .ref q_t_tx1, .ref q_t_waiting, .int c_waits])), (q_t_owed, .inl (g.X.cI, 64, .inl c_owed))] := by
  intro n
  induction n with
  | zero => intro x1 x2 x3 h; exact False.elim h
  | succ n hK4 =>
    intro x1 x2 x3 h
    unfold wp_X5_balanceOf_b4 at h
    refine st_iload_n G 5 rfl 3 rfl dX5_balanceOf_4 rfl ?_
    refine st_aload_n G 6 rfl 0 rfl dX5_balanceOf_5 rfl ?_
    refine st_get G inX5 rfl 0 (by decide) wd_116 9 rfl 0 rfl rfl dX5_balanceOf_6 ?_
    refine st_icmp_ge G 42 12 rfl dX5_balanceOf_9 rfl (fun c => ?_) (fun c => ?_)
    · have h := h.1 c
      refine st_iload_n G 43 rfl 2 rfl dX5_balanceOf_42 rfl ?_
      exact R _ _ _ _ dX5_balanceOf_43 (Nat.le_of_ble_eq_true rfl) ⟨h, rfl⟩
    have h := h.2 c
    refine st_iload_n G 13 rfl 2 rfl dX5_balanceOf_12 rfl ?_
    refine st_aload_n G 14 rfl 0 rfl dX5_balanceOf_13 rfl ?_
    refine st_get G inX5 rfl 6 (by decide) wd_44 17 rfl 0 rfl rfl dX5_balanceOf_14 ?_
    refine st_iload_n G 18 rfl 3 rfl dX5_balanceOf_17 rfl ?_
    refine st_iload_n G 19 rfl 1 rfl dX5_balanceOf_18 rfl ?_
    refine st_cNio G lk_X5_87 (c_X6_pair g.l g.D g.X x3 x1 _ h) ⟨rfl, rfl, ⟨Nat.le_of_ble_eq_true rfl, Nat.le_of_ble_eq_true rfl⟩, Nat.zero_le _, Nat.zero_le _⟩ 22 rfl [] rfl (by decide) rfl (Nat.le_of_ble_eq_true rfl) rfl dX5_balanceOf_19 (fun r_19 h => ?_)
    obtain ⟨hin, h⟩ := h
    refine st_iald G 23 rfl 1 rfl hin dX5_balanceOf_22 ?_
    refine st_aload_n G 24 rfl 0 rfl dX5_balanceOf_23 rfl ?_
    refine st_get G inX5 rfl 6 (by decide) wd_44 27 rfl 0 rfl rfl dX5_balanceOf_24 ?_
    refine st_iload_n G 28 rfl 1 rfl dX5_balanceOf_27 rfl ?_
    refine st_iload_n G 29 rfl 3 rfl dX5_balanceOf_28 rfl ?_
    refine st_cNio G lk_X5_87 (c_X6_pair g.l g.D g.X x1 x3 _ h) ⟨rfl, rfl, ⟨Nat.le_of_ble_eq_true rfl, Nat.le_of_ble_eq_true rfl⟩, Nat.zero_le _, Nat.zero_le _⟩ 32 rfl [] rfl (by decide) rfl (Nat.le_of_ble_eq_true rfl) rfl dX5_balanceOf_29 (fun r_29 h => ?_)
    obtain ⟨hin, h⟩ := h
    refine st_iald G 33 rfl 1 rfl hin dX5_balanceOf_32 ?_
    refine st_isub G 34 rfl dX5_balanceOf_33 ?_
    refine st_iadd G 35 rfl dX5_balanceOf_34 ?_
    refine st_topi (fun x2_35 ex2_35 => ?_)
    have h := h x2_35 ex2_35
    refine st_istore_n G 36 rfl [(2, .int x2_35), (0, .ref q_t), (1, .int x1), (3, .int x3)] dX5_balanceOf_35 rfl (by decide) rfl ?_
    obtain ⟨x3_36, ex3_36⟩ : ∃ y : Int32, y = (x3 + (1 : Int32)) := ⟨_, rfl⟩
    have h := h x3_36 ex3_36
    refine st_iinc G 39 rfl [(3, .int x3_36), (2, .int x2_35), (0, .ref q_t), (1, .int x1)] x3_36 3 rfl (by rw [ex3_36]; rfl) dX5_balanceOf_36 (by decide) rfl ?_
    refine st_goto G 4 dX5_balanceOf_39 rfl ?_
    refine st_L (L' := [(0, .ref q_t), (1, .int x1), (2, .int x2_35), (3, .int x3_36)]) [2, 3, 1, 0] rfl ?_
    exact hK4 _ _ _ h
set_option maxRecDepth 100000 in
set_option maxHeartbeats 4000000 in
theorem b_X5_balanceOf_e {g : GT} (G : GOOD g RX5 cX5_balanceOf 4 rm_X5_balanceOf) {q_t q_t_km q_t_father q_t_mother q_t_from q_t_spoons q_t_owed q_t_tape q_t_tx0 q_t_tx1 q_t_waiting : Nat} {c_people : Int32} {c_year : Int32} {c_z : Int32} {c_bytes : Int32} {c_waits : Int32} {c_owed : Nat → Int32} {x1 : Int32} {Q : Int32 → Prop} (R : RETi g cX5_balanceOf 2 (fun (r : Int32) w => (Q r) ∧ w = [(q_t, .inr (5, [.int c_people, .ref q_t_km, .ref q_t_father, .ref q_t_mother, .ref q_t_from, .ref q_t_spoons, .ref q_t_owed, .int c_year, .int c_z, .ref q_t_tape, .int c_bytes, .ref q_t_tx0, .ref q_t_tx1, .ref q_t_waiting, .int c_waits])), (q_t_owed, .inl (g.X.cI, 64, .inl c_owed))])) (h : wp_X5_balanceOf x1 c_people c_owed Q) : ST g 0 0 0 [(0, .ref q_t), (1, .int x1)] [] [(q_t, .inr (5, [.int c_people, .ref q_t_km, .ref q_t_father, .ref q_t_mother, .ref q_t_from, .ref q_t_spoons, .ref q_t_owed, .int c_year, .int c_z, .ref q_t_tape, .int c_bytes, .ref q_t_tx0, .ref q_t_tx1, .ref q_t_waiting, .int c_waits])), (q_t_owed, .inl (g.X.cI, 64, .inl c_owed))] := by
  unfold wp_X5_balanceOf at h
  refine st_iconst G 1 rfl (0 : Int32) (by decide) dX5_balanceOf_0 ?_
  refine st_istore_n G 2 rfl [(2, .int (0 : Int32)), (0, .ref q_t), (1, .int x1)] dX5_balanceOf_1 rfl (by decide) rfl ?_
  refine st_iconst G 3 rfl (0 : Int32) (by decide) dX5_balanceOf_2 ?_
  refine st_istore_n G 4 rfl [(3, .int (0 : Int32)), (2, .int (0 : Int32)), (0, .ref q_t), (1, .int x1)] dX5_balanceOf_3 rfl (by decide) rfl ?_
  refine st_L (L' := [(0, .ref q_t), (1, .int x1), (2, .int (0 : Int32)), (3, .int (0 : Int32))]) [2, 3, 1, 0] rfl ?_
  obtain ⟨n, h⟩ := h
  exact b_X5_balanceOf_4 G R n _ _ _ h
set_option maxRecDepth 100000 in
set_option maxHeartbeats 4000000 in
theorem c_X5_balanceOf (l : Launch) (D : va_G) (X : XT) (q_t q_t_km q_t_father q_t_mother q_t_from q_t_spoons q_t_owed q_t_tape q_t_tx0 q_t_tx1 q_t_waiting : Nat) (c_people : Int32) (c_year : Int32) (c_z : Int32) (c_bytes : Int32) (c_waits : Int32) (c_owed : Nat → Int32) (x1 : Int32) (Q : Int32 → Prop) (h : wp_X5_balanceOf x1 c_people c_owed Q) : CTi l D X yX5_balanceOf cX5_balanceOf 4 .int rm_X5_balanceOf [.ref q_t, .int x1] [(q_t, .inr (5, [.int c_people, .ref q_t_km, .ref q_t_father, .ref q_t_mother, .ref q_t_from, .ref q_t_spoons, .ref q_t_owed, .int c_year, .int c_z, .ref q_t_tape, .int c_bytes, .ref q_t_tx0, .ref q_t_tx1, .ref q_t_waiting, .int c_waits])), (q_t_owed, .inl (X.cI, 64, .inl c_owed))] (fun (r : Int32) w => (Q r) ∧ w = [(q_t, .inr (5, [.int c_people, .ref q_t_km, .ref q_t_father, .ref q_t_mother, .ref q_t_from, .ref q_t_spoons, .ref q_t_owed, .int c_year, .int c_z, .ref q_t_tape, .int c_bytes, .ref q_t_tx0, .ref q_t_tx1, .ref q_t_waiting, .int c_waits])), (q_t_owed, .inl (X.cI, 64, .inl c_owed))]) :=
  ct_i (by decide) (Nat.le_of_ble_eq_true rfl) (fun g hl hD hX G R => by subst hl; subst hD; subst hX; exact b_X5_balanceOf_e G R h)
set_option maxRecDepth 100000 in
set_option maxHeartbeats 4000000 in
theorem b_X4_fewestPayments_79 {g : GT} (G : GOOD g RX4 cX4_fewestPayments 6 rm_X4_fewestPayments) {q_t q_t_cells q_t_sums q_t_groups q_a1 q_a1_km q_a1_father q_a1_mother q_a1_from q_a1_spoons q_a1_owed q_a1_tape q_a1_tx0 q_a1_tx1 q_a1_waiting : Nat} {a1_people : Int32} {a1_year : Int32} {a1_z : Int32} {a1_bytes : Int32} {a1_waits : Int32} {a1_owed : Nat → Int32} {Q : Int32 → (Nat → Int32) → (Nat → Int32) → Prop} {KK68 : (Int32) → (Int32) → (Nat → Int32) → (Nat → Int32) → Prop} (R : RETi g cX4_fewestPayments 5 (fun (r : Int32) w => ∃ (c_sums' : Nat → Int32) (c_groups' : Nat → Int32), Q r c_sums' c_groups' ∧ w = [(q_t, .inr (4, [.ref q_t_cells, .ref q_t_sums, .ref q_t_groups])), (q_t_sums, .inl (g.X.cI, 256, .inl c_sums')), (q_t_groups, .inl (g.X.cI, 256, .inl c_groups')), (q_a1, .inr (5, [.int a1_people, .ref q_a1_km, .ref q_a1_father, .ref q_a1_mother, .ref q_a1_from, .ref q_a1_spoons, .ref q_a1_owed, .int a1_year, .int a1_z, .ref q_a1_tape, .int a1_bytes, .ref q_a1_tx0, .ref q_a1_tx1, .ref q_a1_waiting, .int a1_waits])), (q_a1_owed, .inl (g.X.cI, 64, .inl a1_owed))])) (hK68 : ∀ (x2 : Int32) (x3 : Int32) (c_sums : Nat → Int32) (c_groups : Nat → Int32), KK68 x2 x3 c_sums c_groups → ST g 0 0 68 [(0, .ref q_t), (1, .ref q_a1), (2, .int x2), (3, .int x3)] [] [(q_t, .inr (4, [.ref q_t_cells, .ref q_t_sums, .ref q_t_groups])), (q_t_sums, .inl (g.X.cI, 256, .inl c_sums)), (q_t_groups, .inl (g.X.cI, 256, .inl c_groups)), (q_a1, .inr (5, [.int a1_people, .ref q_a1_km, .ref q_a1_father, .ref q_a1_mother, .ref q_a1_from, .ref q_a1_spoons, .ref q_a1_owed, .int a1_year, .int a1_z, .ref q_a1_tape, .int a1_bytes, .ref q_a1_tx0, .ref q_a1_tx1, .ref q_a1_waiting, .int a1_waits])), (q_a1_owed, .inl (g.X.cI, 64, .inl a1_owed))]) : ∀ (n : Nat) (x2 : Int32) (x3 : Int32) (x4 : Int32) (x5 : Int32) (c_sums : Nat → Int32) (c_groups : Nat → Int32), wp_X4_fewestPayments_b79 Q KK68 a1_people a1_owed n x2 x3 x4 x5 c_sums c_groups → ST g 0 0 79 [(0, .ref q_t), (1, .ref q_a1), (2, .int x2), (3, .int x3), (4, .int x4), (5, .int x5)] [] [(q_t, .inr (4, [.ref q_t_cells, .ref q_t_sums, .ref q_t_groups])), (q_t_sums, .inl (g.X.cI, 256, .inl c_sums)), (q_t_groups, .inl (g.X.cI, 256, .inl c_groups)), (q_a1, .inr (5, [.int a1_people, .ref q_a1_km, .ref q_a1_father, .ref q_a1_mother, .ref q_a1_from, .ref q_a1_spoons, .ref q_a1_owed, .int a1_year, .int a1_z, .ref q_a1_tape, .int a1_bytes, .ref q_a1_tx0, .ref q_a1_tx1, .ref q_a1_waiting, .int a1_waits])), (q_a1_owed, .inl (g.X.cI, 64, .inl a1_owed))] := by
  intro n
  induction n with
  | zero => intro x2 x3 x4 x5 c_sums c_groups h; exact False.elim h
  | succ n hK79 =>
    intro x2 x3 x4 x5 c_sums c_groups h
    unfold wp_X4_fewestPayments_b79 at h
    refine st_iload G 81 rfl 5 rfl dX4_fewestPayments_79 ?_
    refine st_aload_n G 82 rfl 1 rfl dX4_fewestPayments_81 rfl ?_
    refine st_get G inX5 rfl 0 (by decide) wd_660 85 rfl 3 rfl rfl dX4_fewestPayments_82 ?_
    refine st_icmp_ge G 122 88 rfl dX4_fewestPayments_85 rfl (fun c => ?_) (fun c => ?_)
    · have h := h.1 c
      refine st_aload_n G 123 rfl 0 rfl dX4_fewestPayments_122 rfl ?_
      refine st_get G inX4 rfl 2 (by decide) wd_73 126 rfl 0 rfl rfl dX4_fewestPayments_123 ?_
      refine st_iload_n G 127 rfl 3 rfl dX4_fewestPayments_126 rfl ?_
      refine st_iload G 129 rfl 4 rfl dX4_fewestPayments_127 ?_
      refine st_aload_n G 130 rfl 0 rfl dX4_fewestPayments_129 rfl ?_
      refine st_get G inX4 rfl 1 (by decide) wd_72 133 rfl 0 rfl rfl dX4_fewestPayments_130 ?_
      refine st_iload_n G 134 rfl 3 rfl dX4_fewestPayments_133 rfl ?_
      obtain ⟨hin, h⟩ := h
      refine st_iald G 135 rfl 1 rfl hin dX4_fewestPayments_134 ?_
      refine st_if_ne G 142 138 rfl dX4_fewestPayments_135 rfl (fun c => ?_) (fun c => ?_)
      · have h := h.1 c
        refine st_iconst G 143 rfl (0 : Int32) (by decide) dX4_fewestPayments_142 ?_
        refine st_cNio G lk_X4_66 (c_X6_truth g.l g.D g.X (0 : Int32) _ h) ⟨rfl, rfl, ⟨Nat.le_of_ble_eq_true rfl, Nat.le_of_ble_eq_true rfl⟩, Nat.zero_le _, Nat.zero_le _⟩ 146 rfl [] rfl (by decide) rfl (Nat.le_of_ble_eq_true rfl) rfl dX4_fewestPayments_143 (fun r_143 h => ?_)
        refine st_iadd G 147 rfl dX4_fewestPayments_146 ?_
        obtain ⟨hin, h⟩ := h
        obtain ⟨c_groups_147, ec_groups_147⟩ : ∃ y : Nat → Int32, y = upd c_groups x3.toNatClampNeg (x4 + r_143) := ⟨_, rfl⟩
        have h := h c_groups_147 ec_groups_147
        refine st_iast G [(q_t, .inr (4, [.ref q_t_cells, .ref q_t_sums, .ref q_t_groups])), (q_t_sums, .inl (g.X.cI, 256, .inl c_sums)), (q_t_groups, .inl (g.X.cI, 256, .inl c_groups_147)), (q_a1, .inr (5, [.int a1_people, .ref q_a1_km, .ref q_a1_father, .ref q_a1_mother, .ref q_a1_from, .ref q_a1_spoons, .ref q_a1_owed, .int a1_year, .int a1_z, .ref q_a1_tape, .int a1_bytes, .ref q_a1_tx0, .ref q_a1_tx1, .ref q_a1_waiting, .int a1_waits])), (q_a1_owed, .inl (g.X.cI, 64, .inl a1_owed))] 148 rfl 2 rfl hin (by subst ec_groups_147; rfl) dX4_fewestPayments_147 ?_
        obtain ⟨x3_148, ex3_148⟩ : ∃ y : Int32, y = (x3 + (1 : Int32)) := ⟨_, rfl⟩
        have h := h x3_148 ex3_148
        refine st_iinc G 151 rfl [(3, .int x3_148), (0, .ref q_t), (1, .ref q_a1), (2, .int x2), (4, .int x4), (5, .int x5)] x3_148 3 rfl (by rw [ex3_148]; rfl) dX4_fewestPayments_148 (by decide) rfl ?_
        refine st_goto G 68 dX4_fewestPayments_151 rfl ?_
        refine st_L (L' := [(0, .ref q_t), (1, .ref q_a1), (2, .int x2), (3, .int x3_148)]) [1, 2, 3, 0] rfl ?_
        exact hK68 _ _ _ _ h
      have h := h.2 c
      refine st_iconst G 139 rfl (1 : Int32) (by decide) dX4_fewestPayments_138 ?_
      refine st_goto G 143 dX4_fewestPayments_139 rfl ?_
      refine st_cNio G lk_X4_66 (c_X6_truth g.l g.D g.X (1 : Int32) _ h) ⟨rfl, rfl, ⟨Nat.le_of_ble_eq_true rfl, Nat.le_of_ble_eq_true rfl⟩, Nat.zero_le _, Nat.zero_le _⟩ 146 rfl [] rfl (by decide) rfl (Nat.le_of_ble_eq_true rfl) rfl dX4_fewestPayments_143 (fun r_143 h => ?_)
      refine st_iadd G 147 rfl dX4_fewestPayments_146 ?_
      obtain ⟨hin, h⟩ := h
      obtain ⟨c_groups_147, ec_groups_147⟩ : ∃ y : Nat → Int32, y = upd c_groups x3.toNatClampNeg (x4 + r_143) := ⟨_, rfl⟩
      have h := h c_groups_147 ec_groups_147
      refine st_iast G [(q_t, .inr (4, [.ref q_t_cells, .ref q_t_sums, .ref q_t_groups])), (q_t_sums, .inl (g.X.cI, 256, .inl c_sums)), (q_t_groups, .inl (g.X.cI, 256, .inl c_groups_147)), (q_a1, .inr (5, [.int a1_people, .ref q_a1_km, .ref q_a1_father, .ref q_a1_mother, .ref q_a1_from, .ref q_a1_spoons, .ref q_a1_owed, .int a1_year, .int a1_z, .ref q_a1_tape, .int a1_bytes, .ref q_a1_tx0, .ref q_a1_tx1, .ref q_a1_waiting, .int a1_waits])), (q_a1_owed, .inl (g.X.cI, 64, .inl a1_owed))] 148 rfl 2 rfl hin (by subst ec_groups_147; rfl) dX4_fewestPayments_147 ?_
      obtain ⟨x3_148, ex3_148⟩ : ∃ y : Int32, y = (x3 + (1 : Int32)) := ⟨_, rfl⟩
      have h := h x3_148 ex3_148
      refine st_iinc G 151 rfl [(3, .int x3_148), (0, .ref q_t), (1, .ref q_a1), (2, .int x2), (4, .int x4), (5, .int x5)] x3_148 3 rfl (by rw [ex3_148]; rfl) dX4_fewestPayments_148 (by decide) rfl ?_
      refine st_goto G 68 dX4_fewestPayments_151 rfl ?_
      refine st_L (L' := [(0, .ref q_t), (1, .ref q_a1), (2, .int x2), (3, .int x3_148)]) [1, 2, 3, 0] rfl ?_
      exact hK68 _ _ _ _ h
    have h := h.2 c
    refine st_iload_n G 89 rfl 3 rfl dX4_fewestPayments_88 rfl ?_
    refine st_iload G 91 rfl 5 rfl dX4_fewestPayments_89 ?_
    refine st_ishr G 92 rfl dX4_fewestPayments_91 ?_
    refine st_iconst G 93 rfl (1 : Int32) (by decide) dX4_fewestPayments_92 ?_
    refine st_iand G 94 rfl dX4_fewestPayments_93 ?_
    refine st_iconst G 95 rfl (1 : Int32) (by decide) dX4_fewestPayments_94 ?_
    refine st_icmp_ne G 116 98 rfl dX4_fewestPayments_95 rfl (fun c => ?_) (fun c => ?_)
    · have h := h.1 c
      obtain ⟨x5_116, ex5_116⟩ : ∃ y : Int32, y = (x5 + (1 : Int32)) := ⟨_, rfl⟩
      have h := h x5_116 ex5_116
      refine st_iinc G 119 rfl [(5, .int x5_116), (0, .ref q_t), (1, .ref q_a1), (2, .int x2), (3, .int x3), (4, .int x4)] x5_116 5 rfl (by rw [ex5_116]; rfl) dX4_fewestPayments_116 (by decide) rfl ?_
      refine st_goto G 79 dX4_fewestPayments_119 rfl ?_
      refine st_L (L' := [(0, .ref q_t), (1, .ref q_a1), (2, .int x2), (3, .int x3), (4, .int x4), (5, .int x5_116)]) [1, 2, 3, 4, 5, 0] rfl ?_
      exact hK79 _ _ _ _ _ _ h
    have h := h.2 c
    refine st_iload G 100 rfl 4 rfl dX4_fewestPayments_98 ?_
    refine st_aload_n G 101 rfl 0 rfl dX4_fewestPayments_100 rfl ?_
    refine st_get G inX4 rfl 2 (by decide) wd_73 104 rfl 0 rfl rfl dX4_fewestPayments_101 ?_
    refine st_iload_n G 105 rfl 3 rfl dX4_fewestPayments_104 rfl ?_
    refine st_iconst G 106 rfl (1 : Int32) (by decide) dX4_fewestPayments_105 ?_
    refine st_iload G 108 rfl 5 rfl dX4_fewestPayments_106 ?_
    refine st_ishl G 109 rfl dX4_fewestPayments_108 ?_
    refine st_ixor G 110 rfl dX4_fewestPayments_109 ?_
    obtain ⟨hin, h⟩ := h
    refine st_iald G 111 rfl 2 rfl hin dX4_fewestPayments_110 ?_
    refine st_mmax G wd_720 wd_239 wd_236 wd_240 ⟨Nat.le_of_ble_eq_true rfl, Nat.le_of_ble_eq_true rfl, Nat.zero_le _, Nat.zero_le _⟩ 114 rfl dX4_fewestPayments_111 ?_
    refine st_topi (fun x4_114 ex4_114 => ?_)
    have h := h x4_114 ex4_114
    refine st_istore G 116 rfl [(4, .int x4_114), (0, .ref q_t), (1, .ref q_a1), (2, .int x2), (3, .int x3), (5, .int x5)] dX4_fewestPayments_114 (by decide) rfl ?_
    obtain ⟨x5_116, ex5_116⟩ : ∃ y : Int32, y = (x5 + (1 : Int32)) := ⟨_, rfl⟩
    have h := h x5_116 ex5_116
    refine st_iinc G 119 rfl [(5, .int x5_116), (4, .int x4_114), (0, .ref q_t), (1, .ref q_a1), (2, .int x2), (3, .int x3)] x5_116 5 rfl (by rw [ex5_116]; rfl) dX4_fewestPayments_116 (by decide) rfl ?_
    refine st_goto G 79 dX4_fewestPayments_119 rfl ?_
    refine st_L (L' := [(0, .ref q_t), (1, .ref q_a1), (2, .int x2), (3, .int x3), (4, .int x4_114), (5, .int x5_116)]) [2, 3, 4, 5, 1, 0] rfl ?_
    exact hK79 _ _ _ _ _ _ h
set_option maxRecDepth 100000 in
set_option maxHeartbeats 4000000 in
theorem b_X4_fewestPayments_68 {g : GT} (G : GOOD g RX4 cX4_fewestPayments 6 rm_X4_fewestPayments) {q_t q_t_cells q_t_sums q_t_groups q_a1 q_a1_km q_a1_father q_a1_mother q_a1_from q_a1_spoons q_a1_owed q_a1_tape q_a1_tx0 q_a1_tx1 q_a1_waiting : Nat} {a1_people : Int32} {a1_year : Int32} {a1_z : Int32} {a1_bytes : Int32} {a1_waits : Int32} {a1_owed : Nat → Int32} {Q : Int32 → (Nat → Int32) → (Nat → Int32) → Prop} (R : RETi g cX4_fewestPayments 5 (fun (r : Int32) w => ∃ (c_sums' : Nat → Int32) (c_groups' : Nat → Int32), Q r c_sums' c_groups' ∧ w = [(q_t, .inr (4, [.ref q_t_cells, .ref q_t_sums, .ref q_t_groups])), (q_t_sums, .inl (g.X.cI, 256, .inl c_sums')), (q_t_groups, .inl (g.X.cI, 256, .inl c_groups')), (q_a1, .inr (5, [.int a1_people, .ref q_a1_km, .ref q_a1_father, .ref q_a1_mother, .ref q_a1_from, .ref q_a1_spoons, .ref q_a1_owed, .int a1_year, .int a1_z, .ref q_a1_tape, .int a1_bytes, .ref q_a1_tx0, .ref q_a1_tx1, .ref q_a1_waiting, .int a1_waits])), (q_a1_owed, .inl (g.X.cI, 64, .inl a1_owed))])) : ∀ (n : Nat) (x2 : Int32) (x3 : Int32) (c_sums : Nat → Int32) (c_groups : Nat → Int32), wp_X4_fewestPayments_b68 Q a1_people a1_owed n x2 x3 c_sums c_groups → ST g 0 0 68 [(0, .ref q_t), (1, .ref q_a1), (2, .int x2), (3, .int x3)] [] [(q_t, .inr (4, [.ref q_t_cells, .ref q_t_sums, .ref q_t_groups])), (q_t_sums, .inl (g.X.cI, 256, .inl c_sums)), (q_t_groups, .inl (g.X.cI, 256, .inl c_groups)), (q_a1, .inr (5, [.int a1_people, .ref q_a1_km, .ref q_a1_father, .ref q_a1_mother, .ref q_a1_from, .ref q_a1_spoons, .ref q_a1_owed, .int a1_year, .int a1_z, .ref q_a1_tape, .int a1_bytes, .ref q_a1_tx0, .ref q_a1_tx1, .ref q_a1_waiting, .int a1_waits])), (q_a1_owed, .inl (g.X.cI, 64, .inl a1_owed))] := by
  intro n
  induction n with
  | zero => intro x2 x3 c_sums c_groups h; exact False.elim h
  | succ n hK68 =>
    intro x2 x3 c_sums c_groups h
    unfold wp_X4_fewestPayments_b68 at h
    refine st_iload_n G 69 rfl 3 rfl dX4_fewestPayments_68 rfl ?_
    refine st_iload_n G 70 rfl 2 rfl dX4_fewestPayments_69 rfl ?_
    refine st_icmp_ge G 154 73 rfl dX4_fewestPayments_70 rfl (fun c => ?_) (fun c => ?_)
    · have h := h.1 c
      refine st_aload_n G 155 rfl 1 rfl dX4_fewestPayments_154 rfl ?_
      refine st_get G inX5 rfl 0 (by decide) wd_660 158 rfl 3 rfl rfl dX4_fewestPayments_155 ?_
      refine st_aload_n G 159 rfl 0 rfl dX4_fewestPayments_158 rfl ?_
      refine st_get G inX4 rfl 2 (by decide) wd_73 162 rfl 0 rfl rfl dX4_fewestPayments_159 ?_
      refine st_iload_n G 163 rfl 2 rfl dX4_fewestPayments_162 rfl ?_
      refine st_iconst G 164 rfl (1 : Int32) (by decide) dX4_fewestPayments_163 ?_
      refine st_isub G 165 rfl dX4_fewestPayments_164 ?_
      obtain ⟨hin, h⟩ := h
      refine st_iald G 166 rfl 2 rfl hin dX4_fewestPayments_165 ?_
      refine st_isub G 167 rfl dX4_fewestPayments_166 ?_
      exact R _ _ _ _ dX4_fewestPayments_167 (Nat.le_of_ble_eq_true rfl) ⟨_, _, h, rfl⟩
    have h := h.2 c
    refine st_iconst G 74 rfl (0 : Int32) (by decide) dX4_fewestPayments_73 ?_
    refine st_istore G 76 rfl [(4, .int (0 : Int32)), (0, .ref q_t), (1, .ref q_a1), (2, .int x2), (3, .int x3)] dX4_fewestPayments_74 (by decide) rfl ?_
    refine st_iconst G 77 rfl (0 : Int32) (by decide) dX4_fewestPayments_76 ?_
    refine st_istore G 79 rfl [(5, .int (0 : Int32)), (4, .int (0 : Int32)), (0, .ref q_t), (1, .ref q_a1), (2, .int x2), (3, .int x3)] dX4_fewestPayments_77 (by decide) rfl ?_
    refine st_L (L' := [(0, .ref q_t), (1, .ref q_a1), (2, .int x2), (3, .int x3), (4, .int (0 : Int32)), (5, .int (0 : Int32))]) [2, 3, 4, 5, 1, 0] rfl ?_
    obtain ⟨n, h⟩ := h
    exact b_X4_fewestPayments_79 G R hK68 n _ _ _ _ _ _ h
set_option maxRecDepth 100000 in
set_option maxHeartbeats 4000000 in
theorem b_X4_fewestPayments_19 {g : GT} (G : GOOD g RX4 cX4_fewestPayments 6 rm_X4_fewestPayments) {q_t q_t_cells q_t_sums q_t_groups q_a1 q_a1_km q_a1_father q_a1_mother q_a1_from q_a1_spoons q_a1_owed q_a1_tape q_a1_tx0 q_a1_tx1 q_a1_waiting : Nat} {a1_people : Int32} {a1_year : Int32} {a1_z : Int32} {a1_bytes : Int32} {a1_waits : Int32} {a1_owed : Nat → Int32} {Q : Int32 → (Nat → Int32) → (Nat → Int32) → Prop} {KK2 : (Int32) → (Nat → Int32) → (Nat → Int32) → Prop} (R : RETi g cX4_fewestPayments 5 (fun (r : Int32) w => ∃ (c_sums' : Nat → Int32) (c_groups' : Nat → Int32), Q r c_sums' c_groups' ∧ w = [(q_t, .inr (4, [.ref q_t_cells, .ref q_t_sums, .ref q_t_groups])), (q_t_sums, .inl (g.X.cI, 256, .inl c_sums')), (q_t_groups, .inl (g.X.cI, 256, .inl c_groups')), (q_a1, .inr (5, [.int a1_people, .ref q_a1_km, .ref q_a1_father, .ref q_a1_mother, .ref q_a1_from, .ref q_a1_spoons, .ref q_a1_owed, .int a1_year, .int a1_z, .ref q_a1_tape, .int a1_bytes, .ref q_a1_tx0, .ref q_a1_tx1, .ref q_a1_waiting, .int a1_waits])), (q_a1_owed, .inl (g.X.cI, 64, .inl a1_owed))])) (hK2 : ∀ (x2 : Int32) (c_sums : Nat → Int32) (c_groups : Nat → Int32), KK2 x2 c_sums c_groups → ST g 0 0 2 [(0, .ref q_t), (1, .ref q_a1), (2, .int x2)] [] [(q_t, .inr (4, [.ref q_t_cells, .ref q_t_sums, .ref q_t_groups])), (q_t_sums, .inl (g.X.cI, 256, .inl c_sums)), (q_t_groups, .inl (g.X.cI, 256, .inl c_groups)), (q_a1, .inr (5, [.int a1_people, .ref q_a1_km, .ref q_a1_father, .ref q_a1_mother, .ref q_a1_from, .ref q_a1_spoons, .ref q_a1_owed, .int a1_year, .int a1_z, .ref q_a1_tape, .int a1_bytes, .ref q_a1_tx0, .ref q_a1_tx1, .ref q_a1_waiting, .int a1_waits])), (q_a1_owed, .inl (g.X.cI, 64, .inl a1_owed))]) : ∀ (n : Nat) (x2 : Int32) (x3 : Int32) (x4 : Int32) (c_sums : Nat → Int32) (c_groups : Nat → Int32), wp_X4_fewestPayments_b19 Q KK2 a1_people a1_owed n x2 x3 x4 c_sums c_groups → ST g 0 0 19 [(0, .ref q_t), (1, .ref q_a1), (2, .int x2), (3, .int x3), (4, .int x4)] [] [(q_t, .inr (4, [.ref q_t_cells, .ref q_t_sums, .ref q_t_groups])), (q_t_sums, .inl (g.X.cI, 256, .inl c_sums)), (q_t_groups, .inl (g.X.cI, 256, .inl c_groups)), (q_a1, .inr (5, [.int a1_people, .ref q_a1_km, .ref q_a1_father, .ref q_a1_mother, .ref q_a1_from, .ref q_a1_spoons, .ref q_a1_owed, .int a1_year, .int a1_z, .ref q_a1_tape, .int a1_bytes, .ref q_a1_tx0, .ref q_a1_tx1, .ref q_a1_waiting, .int a1_waits])), (q_a1_owed, .inl (g.X.cI, 64, .inl a1_owed))] := by
  intro n
  induction n with
  | zero => intro x2 x3 x4 c_sums c_groups h; exact False.elim h
  | succ n hK19 =>
    intro x2 x3 x4 c_sums c_groups h
    unfold wp_X4_fewestPayments_b19 at h
    refine st_iload G 21 rfl 4 rfl dX4_fewestPayments_19 ?_
    refine st_iconst G 22 rfl (1 : Int32) (by decide) dX4_fewestPayments_21 ?_
    refine st_iload_n G 23 rfl 2 rfl dX4_fewestPayments_22 rfl ?_
    refine st_ishl G 24 rfl dX4_fewestPayments_23 ?_
    refine st_icmp_ge G 53 27 rfl dX4_fewestPayments_24 rfl (fun c => ?_) (fun c => ?_)
    · have h := h.1 c
      obtain ⟨x2_53, ex2_53⟩ : ∃ y : Int32, y = (x2 + (1 : Int32)) := ⟨_, rfl⟩
      have h := h x2_53 ex2_53
      refine st_iinc G 56 rfl [(2, .int x2_53), (0, .ref q_t), (1, .ref q_a1), (3, .int x3), (4, .int x4)] x2_53 2 rfl (by rw [ex2_53]; rfl) dX4_fewestPayments_53 (by decide) rfl ?_
      refine st_goto G 2 dX4_fewestPayments_56 rfl ?_
      refine st_L (L' := [(0, .ref q_t), (1, .ref q_a1), (2, .int x2_53)]) [1, 2, 0] rfl ?_
      exact hK2 _ _ _ h
    have h := h.2 c
    refine st_aload_n G 28 rfl 0 rfl dX4_fewestPayments_27 rfl ?_
    refine st_get G inX4 rfl 1 (by decide) wd_72 31 rfl 0 rfl rfl dX4_fewestPayments_28 ?_
    refine st_iload G 33 rfl 4 rfl dX4_fewestPayments_31 ?_
    refine st_iconst G 34 rfl (1 : Int32) (by decide) dX4_fewestPayments_33 ?_
    refine st_iload_n G 35 rfl 2 rfl dX4_fewestPayments_34 rfl ?_
    refine st_ishl G 36 rfl dX4_fewestPayments_35 ?_
    refine st_ior G 37 rfl dX4_fewestPayments_36 ?_
    refine st_aload_n G 38 rfl 0 rfl dX4_fewestPayments_37 rfl ?_
    refine st_get G inX4 rfl 1 (by decide) wd_72 41 rfl 0 rfl rfl dX4_fewestPayments_38 ?_
    refine st_iload G 43 rfl 4 rfl dX4_fewestPayments_41 ?_
    obtain ⟨hin, h⟩ := h
    refine st_iald G 44 rfl 1 rfl hin dX4_fewestPayments_43 ?_
    refine st_iload_n G 45 rfl 3 rfl dX4_fewestPayments_44 rfl ?_
    refine st_iadd G 46 rfl dX4_fewestPayments_45 ?_
    obtain ⟨hin, h⟩ := h
    obtain ⟨c_sums_46, ec_sums_46⟩ : ∃ y : Nat → Int32, y = upd c_sums (x4 ||| ((1 : Int32) <<< (x2 &&& 31))).toNatClampNeg ((c_sums x4.toNatClampNeg) + x3) := ⟨_, rfl⟩
    have h := h c_sums_46 ec_sums_46
    refine st_iast G [(q_t, .inr (4, [.ref q_t_cells, .ref q_t_sums, .ref q_t_groups])), (q_t_sums, .inl (g.X.cI, 256, .inl c_sums_46)), (q_t_groups, .inl (g.X.cI, 256, .inl c_groups)), (q_a1, .inr (5, [.int a1_people, .ref q_a1_km, .ref q_a1_father, .ref q_a1_mother, .ref q_a1_from, .ref q_a1_spoons, .ref q_a1_owed, .int a1_year, .int a1_z, .ref q_a1_tape, .int a1_bytes, .ref q_a1_tx0, .ref q_a1_tx1, .ref q_a1_waiting, .int a1_waits])), (q_a1_owed, .inl (g.X.cI, 64, .inl a1_owed))] 47 rfl 1 rfl hin (by subst ec_sums_46; rfl) dX4_fewestPayments_46 ?_
    obtain ⟨x4_47, ex4_47⟩ : ∃ y : Int32, y = (x4 + (1 : Int32)) := ⟨_, rfl⟩
    have h := h x4_47 ex4_47
    refine st_iinc G 50 rfl [(4, .int x4_47), (0, .ref q_t), (1, .ref q_a1), (2, .int x2), (3, .int x3)] x4_47 4 rfl (by rw [ex4_47]; rfl) dX4_fewestPayments_47 (by decide) rfl ?_
    refine st_goto G 19 dX4_fewestPayments_50 rfl ?_
    refine st_L (L' := [(0, .ref q_t), (1, .ref q_a1), (2, .int x2), (3, .int x3), (4, .int x4_47)]) [1, 2, 3, 4, 0] rfl ?_
    exact hK19 _ _ _ _ _ h
set_option maxRecDepth 100000 in
set_option maxHeartbeats 4000000 in
theorem b_X4_fewestPayments_2 {g : GT} (G : GOOD g RX4 cX4_fewestPayments 6 rm_X4_fewestPayments) {q_t q_t_cells q_t_sums q_t_groups q_a1 q_a1_km q_a1_father q_a1_mother q_a1_from q_a1_spoons q_a1_owed q_a1_tape q_a1_tx0 q_a1_tx1 q_a1_waiting : Nat} {a1_people : Int32} {a1_year : Int32} {a1_z : Int32} {a1_bytes : Int32} {a1_waits : Int32} {a1_owed : Nat → Int32} {Q : Int32 → (Nat → Int32) → (Nat → Int32) → Prop} (R : RETi g cX4_fewestPayments 5 (fun (r : Int32) w => ∃ (c_sums' : Nat → Int32) (c_groups' : Nat → Int32), Q r c_sums' c_groups' ∧ w = [(q_t, .inr (4, [.ref q_t_cells, .ref q_t_sums, .ref q_t_groups])), (q_t_sums, .inl (g.X.cI, 256, .inl c_sums')), (q_t_groups, .inl (g.X.cI, 256, .inl c_groups')), (q_a1, .inr (5, [.int a1_people, .ref q_a1_km, .ref q_a1_father, .ref q_a1_mother, .ref q_a1_from, .ref q_a1_spoons, .ref q_a1_owed, .int a1_year, .int a1_z, .ref q_a1_tape, .int a1_bytes, .ref q_a1_tx0, .ref q_a1_tx1, .ref q_a1_waiting, .int a1_waits])), (q_a1_owed, .inl (g.X.cI, 64, .inl a1_owed))])) : ∀ (n : Nat) (x2 : Int32) (c_sums : Nat → Int32) (c_groups : Nat → Int32), wp_X4_fewestPayments_b2 Q a1_people a1_owed n x2 c_sums c_groups → ST g 0 0 2 [(0, .ref q_t), (1, .ref q_a1), (2, .int x2)] [] [(q_t, .inr (4, [.ref q_t_cells, .ref q_t_sums, .ref q_t_groups])), (q_t_sums, .inl (g.X.cI, 256, .inl c_sums)), (q_t_groups, .inl (g.X.cI, 256, .inl c_groups)), (q_a1, .inr (5, [.int a1_people, .ref q_a1_km, .ref q_a1_father, .ref q_a1_mother, .ref q_a1_from, .ref q_a1_spoons, .ref q_a1_owed, .int a1_year, .int a1_z, .ref q_a1_tape, .int a1_bytes, .ref q_a1_tx0, .ref q_a1_tx1, .ref q_a1_waiting, .int a1_waits])), (q_a1_owed, .inl (g.X.cI, 64, .inl a1_owed))] := by
  intro n
  induction n with
  | zero => intro x2 c_sums c_groups h; exact False.elim h
  | succ n hK2 =>
    intro x2 c_sums c_groups h
    unfold wp_X4_fewestPayments_b2 at h
    refine st_iload_n G 3 rfl 2 rfl dX4_fewestPayments_2 rfl ?_
    refine st_aload_n G 4 rfl 1 rfl dX4_fewestPayments_3 rfl ?_
    refine st_get G inX5 rfl 0 (by decide) wd_660 7 rfl 3 rfl rfl dX4_fewestPayments_4 ?_
    refine st_icmp_ge G 59 10 rfl dX4_fewestPayments_7 rfl (fun c => ?_) (fun c => ?_)
    · have h := h.1 c
      refine st_iconst G 60 rfl (1 : Int32) (by decide) dX4_fewestPayments_59 ?_
      refine st_aload_n G 61 rfl 1 rfl dX4_fewestPayments_60 rfl ?_
      refine st_get G inX5 rfl 0 (by decide) wd_660 64 rfl 3 rfl rfl dX4_fewestPayments_61 ?_
      refine st_ishl G 65 rfl dX4_fewestPayments_64 ?_
      refine st_topi (fun x2_65 ex2_65 => ?_)
      have h := h x2_65 ex2_65
      refine st_istore_n G 66 rfl [(2, .int x2_65), (0, .ref q_t), (1, .ref q_a1)] dX4_fewestPayments_65 rfl (by decide) rfl ?_
      refine st_iconst G 67 rfl (1 : Int32) (by decide) dX4_fewestPayments_66 ?_
      refine st_istore_n G 68 rfl [(3, .int (1 : Int32)), (2, .int x2_65), (0, .ref q_t), (1, .ref q_a1)] dX4_fewestPayments_67 rfl (by decide) rfl ?_
      refine st_L (L' := [(0, .ref q_t), (1, .ref q_a1), (2, .int x2_65), (3, .int (1 : Int32))]) [2, 3, 1, 0] rfl ?_
      obtain ⟨n, h⟩ := h
      exact b_X4_fewestPayments_68 G R n _ _ _ _ h
    have h := h.2 c
    refine st_aload_n G 11 rfl 1 rfl dX4_fewestPayments_10 rfl ?_
    refine st_iload_n G 12 rfl 2 rfl dX4_fewestPayments_11 rfl ?_
    refine st_cVio G lk_X4_76 (c_X5_balanceOf g.l g.D g.X q_a1 q_a1_km q_a1_father q_a1_mother q_a1_from q_a1_spoons q_a1_owed q_a1_tape q_a1_tx0 q_a1_tx1 q_a1_waiting a1_people a1_year a1_z a1_bytes a1_waits a1_owed x2 _ h) ⟨rfl, rfl, ⟨Nat.le_of_ble_eq_true rfl, Nat.le_of_ble_eq_true rfl⟩, Nat.zero_le _, Nat.zero_le _⟩ 15 rfl [3, 4] rfl (by decide) 0 5 rfl rfl rfl (Nat.le_of_ble_eq_true rfl) rfl dX4_fewestPayments_12 (fun r_12 h => ?_)
    refine st_istore_n G 16 rfl [(3, .int r_12), (0, .ref q_t), (1, .ref q_a1), (2, .int x2)] dX4_fewestPayments_15 rfl (by decide) rfl ?_
    refine st_iconst G 17 rfl (0 : Int32) (by decide) dX4_fewestPayments_16 ?_
    refine st_istore G 19 rfl [(4, .int (0 : Int32)), (3, .int r_12), (0, .ref q_t), (1, .ref q_a1), (2, .int x2)] dX4_fewestPayments_17 (by decide) rfl ?_
    refine st_L (L' := [(0, .ref q_t), (1, .ref q_a1), (2, .int x2), (3, .int r_12), (4, .int (0 : Int32))]) [2, 3, 4, 1, 0] rfl ?_
    obtain ⟨n, h⟩ := h
    exact b_X4_fewestPayments_19 G R hK2 n _ _ _ _ _ h
set_option maxRecDepth 100000 in
set_option maxHeartbeats 4000000 in
theorem b_X4_fewestPayments_e {g : GT} (G : GOOD g RX4 cX4_fewestPayments 6 rm_X4_fewestPayments) {q_t q_t_cells q_t_sums q_t_groups q_a1 q_a1_km q_a1_father q_a1_mother q_a1_from q_a1_spoons q_a1_owed q_a1_tape q_a1_tx0 q_a1_tx1 q_a1_waiting : Nat} {c_sums : Nat → Int32} {c_groups : Nat → Int32} {a1_people : Int32} {a1_year : Int32} {a1_z : Int32} {a1_bytes : Int32} {a1_waits : Int32} {a1_owed : Nat → Int32} {Q : Int32 → (Nat → Int32) → (Nat → Int32) → Prop} (R : RETi g cX4_fewestPayments 5 (fun (r : Int32) w => ∃ (c_sums' : Nat → Int32) (c_groups' : Nat → Int32), Q r c_sums' c_groups' ∧ w = [(q_t, .inr (4, [.ref q_t_cells, .ref q_t_sums, .ref q_t_groups])), (q_t_sums, .inl (g.X.cI, 256, .inl c_sums')), (q_t_groups, .inl (g.X.cI, 256, .inl c_groups')), (q_a1, .inr (5, [.int a1_people, .ref q_a1_km, .ref q_a1_father, .ref q_a1_mother, .ref q_a1_from, .ref q_a1_spoons, .ref q_a1_owed, .int a1_year, .int a1_z, .ref q_a1_tape, .int a1_bytes, .ref q_a1_tx0, .ref q_a1_tx1, .ref q_a1_waiting, .int a1_waits])), (q_a1_owed, .inl (g.X.cI, 64, .inl a1_owed))])) (h : wp_X4_fewestPayments c_sums c_groups a1_people a1_owed Q) : ST g 0 0 0 [(0, .ref q_t), (1, .ref q_a1)] [] [(q_t, .inr (4, [.ref q_t_cells, .ref q_t_sums, .ref q_t_groups])), (q_t_sums, .inl (g.X.cI, 256, .inl c_sums)), (q_t_groups, .inl (g.X.cI, 256, .inl c_groups)), (q_a1, .inr (5, [.int a1_people, .ref q_a1_km, .ref q_a1_father, .ref q_a1_mother, .ref q_a1_from, .ref q_a1_spoons, .ref q_a1_owed, .int a1_year, .int a1_z, .ref q_a1_tape, .int a1_bytes, .ref q_a1_tx0, .ref q_a1_tx1, .ref q_a1_waiting, .int a1_waits])), (q_a1_owed, .inl (g.X.cI, 64, .inl a1_owed))] := by
  unfold wp_X4_fewestPayments at h
  refine st_iconst G 1 rfl (0 : Int32) (by decide) dX4_fewestPayments_0 ?_
  refine st_istore_n G 2 rfl [(2, .int (0 : Int32)), (0, .ref q_t), (1, .ref q_a1)] dX4_fewestPayments_1 rfl (by decide) rfl ?_
  refine st_L (L' := [(0, .ref q_t), (1, .ref q_a1), (2, .int (0 : Int32))]) [1, 2, 0] rfl ?_
  obtain ⟨n, h⟩ := h
  exact b_X4_fewestPayments_2 G R n _ _ _ h
set_option maxRecDepth 100000 in
set_option maxHeartbeats 4000000 in
theorem c_X4_fewestPayments (l : Launch) (D : va_G) (X : XT) (q_t q_t_cells q_t_sums q_t_groups q_a1 q_a1_km q_a1_father q_a1_mother q_a1_from q_a1_spoons q_a1_owed q_a1_tape q_a1_tx0 q_a1_tx1 q_a1_waiting : Nat) (c_sums : Nat → Int32) (c_groups : Nat → Int32) (a1_people : Int32) (a1_year : Int32) (a1_z : Int32) (a1_bytes : Int32) (a1_waits : Int32) (a1_owed : Nat → Int32) (Q : Int32 → (Nat → Int32) → (Nat → Int32) → Prop) (h : wp_X4_fewestPayments c_sums c_groups a1_people a1_owed Q) : CTi l D X yX4_fewestPayments cX4_fewestPayments 6 .int rm_X4_fewestPayments [.ref q_t, .ref q_a1] [(q_t, .inr (4, [.ref q_t_cells, .ref q_t_sums, .ref q_t_groups])), (q_t_sums, .inl (X.cI, 256, .inl c_sums)), (q_t_groups, .inl (X.cI, 256, .inl c_groups)), (q_a1, .inr (5, [.int a1_people, .ref q_a1_km, .ref q_a1_father, .ref q_a1_mother, .ref q_a1_from, .ref q_a1_spoons, .ref q_a1_owed, .int a1_year, .int a1_z, .ref q_a1_tape, .int a1_bytes, .ref q_a1_tx0, .ref q_a1_tx1, .ref q_a1_waiting, .int a1_waits])), (q_a1_owed, .inl (X.cI, 64, .inl a1_owed))] (fun (r : Int32) w => ∃ (c_sums' : Nat → Int32) (c_groups' : Nat → Int32), Q r c_sums' c_groups' ∧ w = [(q_t, .inr (4, [.ref q_t_cells, .ref q_t_sums, .ref q_t_groups])), (q_t_sums, .inl (X.cI, 256, .inl c_sums')), (q_t_groups, .inl (X.cI, 256, .inl c_groups')), (q_a1, .inr (5, [.int a1_people, .ref q_a1_km, .ref q_a1_father, .ref q_a1_mother, .ref q_a1_from, .ref q_a1_spoons, .ref q_a1_owed, .int a1_year, .int a1_z, .ref q_a1_tape, .int a1_bytes, .ref q_a1_tx0, .ref q_a1_tx1, .ref q_a1_waiting, .int a1_waits])), (q_a1_owed, .inl (X.cI, 64, .inl a1_owed))]) :=
  ct_i (by decide) (Nat.le_of_ble_eq_true rfl) (fun g hl hD hX G R => by subst hl; subst hD; subst hX; exact b_X4_fewestPayments_e G R h)
set_option maxRecDepth 100000 in
set_option maxHeartbeats 4000000 in
theorem b_X6_nets_35 {g : GT} (G : GOOD g RX6 cX6_nets 4 rm_X6_nets) {q_t q_t_w q_t_w_km q_t_w_father q_t_w_mother q_t_w_from q_t_w_spoons q_t_w_owed q_t_w_tape q_t_w_tx0 q_t_w_tx1 q_t_w_waiting q_t_k q_t_errors q_t_sheets q_t_r q_t_th q_t_th_cells q_t_th_sums q_t_th_groups q_t_sp : Nat} {c_images : Int32} {w_people : Int32} {w_year : Int32} {w_z : Int32} {w_bytes : Int32} {w_waits : Int32} {w_owed : Nat → Int32} {Q : Int32 → (Nat → Int32) → (Nat → Int32) → (Nat → Int32) → Prop} (R : RETi g cX6_nets 7 (fun (r : Int32) w => ∃ (c_errors' : Nat → Int32) (th_sums' : Nat → Int32) (th_groups' : Nat → Int32), Q r c_errors' th_sums' th_groups' ∧ w = [(q_t, .inr (6, [.ref q_t_w, .ref q_t_k, .int c_images, .ref q_t_errors, .ref q_t_sheets, .ref q_t_r, .ref q_t_th, .ref q_t_sp])), (q_t_w, .inr (5, [.int w_people, .ref q_t_w_km, .ref q_t_w_father, .ref q_t_w_mother, .ref q_t_w_from, .ref q_t_w_spoons, .ref q_t_w_owed, .int w_year, .int w_z, .ref q_t_w_tape, .int w_bytes, .ref q_t_w_tx0, .ref q_t_w_tx1, .ref q_t_w_waiting, .int w_waits])), (q_t_w_owed, .inl (g.X.cI, 64, .inl w_owed)), (q_t_errors, .inl (g.X.cI, 7, .inl c_errors')), (q_t_th, .inr (4, [.ref q_t_th_cells, .ref q_t_th_sums, .ref q_t_th_groups])), (q_t_th_sums, .inl (g.X.cI, 256, .inl th_sums')), (q_t_th_groups, .inl (g.X.cI, 256, .inl th_groups'))])) : ∀ (n : Nat) (x2 : Int32) (x3 : Int32) (c_errors : Nat → Int32) (th_sums : Nat → Int32) (th_groups : Nat → Int32), wp_X6_nets_b35 Q w_people w_owed n x2 x3 c_errors th_sums th_groups → ST g 0 0 35 [(0, .ref q_t), (2, .int x2), (3, .int x3)] [] [(q_t, .inr (6, [.ref q_t_w, .ref q_t_k, .int c_images, .ref q_t_errors, .ref q_t_sheets, .ref q_t_r, .ref q_t_th, .ref q_t_sp])), (q_t_w, .inr (5, [.int w_people, .ref q_t_w_km, .ref q_t_w_father, .ref q_t_w_mother, .ref q_t_w_from, .ref q_t_w_spoons, .ref q_t_w_owed, .int w_year, .int w_z, .ref q_t_w_tape, .int w_bytes, .ref q_t_w_tx0, .ref q_t_w_tx1, .ref q_t_w_waiting, .int w_waits])), (q_t_w_owed, .inl (g.X.cI, 64, .inl w_owed)), (q_t_errors, .inl (g.X.cI, 7, .inl c_errors)), (q_t_th, .inr (4, [.ref q_t_th_cells, .ref q_t_th_sums, .ref q_t_th_groups])), (q_t_th_sums, .inl (g.X.cI, 256, .inl th_sums)), (q_t_th_groups, .inl (g.X.cI, 256, .inl th_groups))] := by
  intro n
  induction n with
  | zero => intro x2 x3 c_errors th_sums th_groups h; exact False.elim h
  | succ n hK35 =>
    intro x2 x3 c_errors th_sums th_groups h
    unfold wp_X6_nets_b35 at h
    refine st_iload_n G 36 rfl 2 rfl dX6_nets_35 rfl ?_
    refine st_aload_n G 37 rfl 0 rfl dX6_nets_36 rfl ?_
    refine st_get G inX6 rfl 0 (by decide) wd_16 40 rfl 0 rfl rfl dX6_nets_37 ?_
    refine st_get G inX5 rfl 0 (by decide) wd_100 43 rfl 1 rfl rfl dX6_nets_40 ?_
    refine st_icmp_ge G 67 46 rfl dX6_nets_43 rfl (fun c => ?_) (fun c => ?_)
    · have h := h.1 c
      refine st_iload_n G 68 rfl 1 rfl dX6_nets_67 rfl ?_
      exact R _ _ _ _ dX6_nets_68 (Nat.le_of_ble_eq_true rfl) ⟨_, _, _, h, rfl⟩
    have h := h.2 c
    refine st_iload_n G 47 rfl 1 rfl dX6_nets_46 rfl ?_
    refine st_iconst G 48 rfl (0 : Int32) (by decide) dX6_nets_47 ?_
    refine st_aload_n G 49 rfl 0 rfl dX6_nets_48 rfl ?_
    refine st_get G inX6 rfl 0 (by decide) wd_16 52 rfl 0 rfl rfl dX6_nets_49 ?_
    refine st_iload_n G 53 rfl 2 rfl dX6_nets_52 rfl ?_
    refine st_cVio G lk_X6_211 (c_X5_balanceOf g.l g.D g.X q_t_w q_t_w_km q_t_w_father q_t_w_mother q_t_w_from q_t_w_spoons q_t_w_owed q_t_w_tape q_t_w_tx0 q_t_w_tx1 q_t_w_waiting w_people w_year w_z w_bytes w_waits w_owed x3 _ h) ⟨rfl, rfl, ⟨Nat.le_of_ble_eq_true rfl, Nat.le_of_ble_eq_true rfl⟩, Nat.zero_le _, Nat.zero_le _⟩ 56 rfl [1, 2] rfl (by decide) 0 5 rfl rfl rfl (Nat.le_of_ble_eq_true rfl) rfl dX6_nets_53 (fun r_53 h => ?_)
    refine st_mmax G wd_238 wd_239 wd_236 wd_240 ⟨Nat.le_of_ble_eq_true rfl, Nat.le_of_ble_eq_true rfl, Nat.zero_le _, Nat.zero_le _⟩ 59 rfl dX6_nets_56 ?_
    refine st_iadd G 60 rfl dX6_nets_59 ?_
    refine st_topi (fun x2_60 ex2_60 => ?_)
    have h := h x2_60 ex2_60
    refine st_istore_n G 61 rfl [(2, .int x2_60), (0, .ref q_t), (3, .int x3)] dX6_nets_60 rfl (by decide) rfl ?_
    obtain ⟨x3_61, ex3_61⟩ : ∃ y : Int32, y = (x3 + (1 : Int32)) := ⟨_, rfl⟩
    have h := h x3_61 ex3_61
    refine st_iinc G 64 rfl [(3, .int x3_61), (2, .int x2_60), (0, .ref q_t)] x3_61 2 rfl (by rw [ex3_61]; rfl) dX6_nets_61 (by decide) rfl ?_
    refine st_goto G 35 dX6_nets_64 rfl ?_
    refine st_L (L' := [(0, .ref q_t), (2, .int x2_60), (3, .int x3_61)]) [2, 1, 0] rfl ?_
    exact hK35 _ _ _ _ _ h
set_option maxRecDepth 100000 in
set_option maxHeartbeats 4000000 in
theorem b_X6_nets_e {g : GT} (G : GOOD g RX6 cX6_nets 4 rm_X6_nets) {q_t q_t_w q_t_w_km q_t_w_father q_t_w_mother q_t_w_from q_t_w_spoons q_t_w_owed q_t_w_tape q_t_w_tx0 q_t_w_tx1 q_t_w_waiting q_t_k q_t_errors q_t_sheets q_t_r q_t_th q_t_th_cells q_t_th_sums q_t_th_groups q_t_sp : Nat} {c_images : Int32} {w_people : Int32} {w_year : Int32} {w_z : Int32} {w_bytes : Int32} {w_waits : Int32} {w_owed : Nat → Int32} {c_errors : Nat → Int32} {th_sums : Nat → Int32} {th_groups : Nat → Int32} {x1 : Int32} {Q : Int32 → (Nat → Int32) → (Nat → Int32) → (Nat → Int32) → Prop} (R : RETi g cX6_nets 7 (fun (r : Int32) w => ∃ (c_errors' : Nat → Int32) (th_sums' : Nat → Int32) (th_groups' : Nat → Int32), Q r c_errors' th_sums' th_groups' ∧ w = [(q_t, .inr (6, [.ref q_t_w, .ref q_t_k, .int c_images, .ref q_t_errors, .ref q_t_sheets, .ref q_t_r, .ref q_t_th, .ref q_t_sp])), (q_t_w, .inr (5, [.int w_people, .ref q_t_w_km, .ref q_t_w_father, .ref q_t_w_mother, .ref q_t_w_from, .ref q_t_w_spoons, .ref q_t_w_owed, .int w_year, .int w_z, .ref q_t_w_tape, .int w_bytes, .ref q_t_w_tx0, .ref q_t_w_tx1, .ref q_t_w_waiting, .int w_waits])), (q_t_w_owed, .inl (g.X.cI, 64, .inl w_owed)), (q_t_errors, .inl (g.X.cI, 7, .inl c_errors')), (q_t_th, .inr (4, [.ref q_t_th_cells, .ref q_t_th_sums, .ref q_t_th_groups])), (q_t_th_sums, .inl (g.X.cI, 256, .inl th_sums')), (q_t_th_groups, .inl (g.X.cI, 256, .inl th_groups'))])) (h : wp_X6_nets x1 w_people w_owed c_errors th_sums th_groups Q) : ST g 0 0 0 [(0, .ref q_t), (1, .int x1)] [] [(q_t, .inr (6, [.ref q_t_w, .ref q_t_k, .int c_images, .ref q_t_errors, .ref q_t_sheets, .ref q_t_r, .ref q_t_th, .ref q_t_sp])), (q_t_w, .inr (5, [.int w_people, .ref q_t_w_km, .ref q_t_w_father, .ref q_t_w_mother, .ref q_t_w_from, .ref q_t_w_spoons, .ref q_t_w_owed, .int w_year, .int w_z, .ref q_t_w_tape, .int w_bytes, .ref q_t_w_tx0, .ref q_t_w_tx1, .ref q_t_w_waiting, .int w_waits])), (q_t_w_owed, .inl (g.X.cI, 64, .inl w_owed)), (q_t_errors, .inl (g.X.cI, 7, .inl c_errors)), (q_t_th, .inr (4, [.ref q_t_th_cells, .ref q_t_th_sums, .ref q_t_th_groups])), (q_t_th_sums, .inl (g.X.cI, 256, .inl th_sums)), (q_t_th_groups, .inl (g.X.cI, 256, .inl th_groups))] := by
  unfold wp_X6_nets at h
  refine st_iload_n G 1 rfl 1 rfl dX6_nets_0 rfl ?_
  refine st_iconst G 2 rfl (0 : Int32) (by decide) dX6_nets_1 ?_
  refine st_iconst G 3 rfl (1 : Int32) (by decide) dX6_nets_2 ?_
  refine st_cSio G lk_X6_115 (c_X6_notWithin g.l g.D g.X x1 (0 : Int32) (1 : Int32) _ h) ⟨rfl, rfl, ⟨Nat.le_of_ble_eq_true rfl, Nat.le_of_ble_eq_true rfl⟩, Nat.zero_le _, Nat.zero_le _⟩ 6 rfl [] rfl (by decide) rfl (Nat.le_of_ble_eq_true rfl) rfl dX6_nets_3 (fun r_3 h => ?_)
  refine st_if_eq G 15 9 rfl dX6_nets_6 rfl (fun c => ?_) (fun c => ?_)
  · have h := h.1 c
    refine st_iload_n G 16 rfl 1 rfl dX6_nets_15 rfl ?_
    refine st_if_ne G 31 19 rfl dX6_nets_16 rfl (fun c => ?_) (fun c => ?_)
    · have h := h.1 c
      refine st_iconst G 32 rfl (0 : Int32) (by decide) dX6_nets_31 ?_
      refine st_istore_n G 33 rfl [(2, .int (0 : Int32)), (0, .ref q_t), (1, .int x1)] dX6_nets_32 rfl (by decide) rfl ?_
      refine st_iconst G 34 rfl (0 : Int32) (by decide) dX6_nets_33 ?_
      refine st_istore_n G 35 rfl [(3, .int (0 : Int32)), (2, .int (0 : Int32)), (0, .ref q_t), (1, .int x1)] dX6_nets_34 rfl (by decide) rfl ?_
      refine st_L (L' := [(0, .ref q_t), (2, .int (0 : Int32)), (3, .int (0 : Int32))]) [2, 1, 0] rfl ?_
      obtain ⟨n, h⟩ := h
      exact b_X6_nets_35 G R n _ _ _ _ _ h
    have h := h.2 c
    refine st_aload_n G 20 rfl 0 rfl dX6_nets_19 rfl ?_
    refine st_get G inX6 rfl 6 (by decide) wd_31 23 rfl 0 rfl rfl dX6_nets_20 ?_
    refine st_aload_n G 24 rfl 0 rfl dX6_nets_23 rfl ?_
    refine st_get G inX6 rfl 0 (by decide) wd_16 27 rfl 0 rfl rfl dX6_nets_24 ?_
    refine st_cVi G lk_X6_207 (c_X4_fewestPayments g.l g.D g.X q_t_th q_t_th_cells q_t_th_sums q_t_th_groups q_t_w q_t_w_km q_t_w_father q_t_w_mother q_t_w_from q_t_w_spoons q_t_w_owed q_t_w_tape q_t_w_tx0 q_t_w_tx1 q_t_w_waiting th_sums th_groups w_people w_year w_z w_bytes w_waits w_owed _ h) ⟨rfl, rfl, ⟨Nat.le_of_ble_eq_true rfl, Nat.le_of_ble_eq_true rfl⟩, Nat.zero_le _, Nat.zero_le _⟩ 30 rfl [4, 5, 6, 1, 2] rfl (by decide) 0 4 rfl rfl rfl (Nat.le_of_ble_eq_true rfl) rfl dX6_nets_27 (fun r_27 w hq => ?_)
    obtain ⟨th_sums_27, th_groups_27, h, rfl⟩ := hq
    refine st_wp (ws' := [(q_t, .inr (6, [.ref q_t_w, .ref q_t_k, .int c_images, .ref q_t_errors, .ref q_t_sheets, .ref q_t_r, .ref q_t_th, .ref q_t_sp])), (q_t_w, .inr (5, [.int w_people, .ref q_t_w_km, .ref q_t_w_father, .ref q_t_w_mother, .ref q_t_w_from, .ref q_t_w_spoons, .ref q_t_w_owed, .int w_year, .int w_z, .ref q_t_w_tape, .int w_bytes, .ref q_t_w_tx0, .ref q_t_w_tx1, .ref q_t_w_waiting, .int w_waits])), (q_t_w_owed, .inl (g.X.cI, 64, .inl w_owed)), (q_t_errors, .inl (g.X.cI, 7, .inl c_errors)), (q_t_th, .inr (4, [.ref q_t_th_cells, .ref q_t_th_sums, .ref q_t_th_groups])), (q_t_th_sums, .inl (g.X.cI, 256, .inl th_sums_27)), (q_t_th_groups, .inl (g.X.cI, 256, .inl th_groups_27))]) 7 [0, 3] (by decide) rfl rfl (by rfl) [(q_t, .inr (6, [.ref q_t_w, .ref q_t_k, .int c_images, .ref q_t_errors, .ref q_t_sheets, .ref q_t_r, .ref q_t_th, .ref q_t_sp])), (q_t_errors, .inl (g.X.cI, 7, .inl c_errors))] (by rfl) rfl ?_
    exact R _ _ _ _ dX6_nets_30 (Nat.le_of_ble_eq_true rfl) ⟨_, _, _, h, rfl⟩
  have h := h.2 c
  refine st_aload_n G 10 rfl 0 rfl dX6_nets_9 rfl ?_
  refine st_iconst G 11 rfl (1 : Int32) (by decide) dX6_nets_10 ?_
  refine st_cVi G lk_X6_55 (c_X6_error g.l g.D g.X q_t q_t_w q_t_k q_t_errors q_t_sheets q_t_r q_t_th q_t_sp c_images c_errors (1 : Int32) _ h) ⟨rfl, rfl, ⟨Nat.le_of_ble_eq_true rfl, Nat.le_of_ble_eq_true rfl⟩, Nat.zero_le _, Nat.zero_le _⟩ 14 rfl [0, 3] rfl (by decide) 0 6 rfl rfl rfl (Nat.le_of_ble_eq_true rfl) rfl dX6_nets_11 (fun r_11 w hq => ?_)
  obtain ⟨c_errors_11, h, rfl⟩ := hq
  refine st_wp (ws' := [(q_t, .inr (6, [.ref q_t_w, .ref q_t_k, .int c_images, .ref q_t_errors, .ref q_t_sheets, .ref q_t_r, .ref q_t_th, .ref q_t_sp])), (q_t_w, .inr (5, [.int w_people, .ref q_t_w_km, .ref q_t_w_father, .ref q_t_w_mother, .ref q_t_w_from, .ref q_t_w_spoons, .ref q_t_w_owed, .int w_year, .int w_z, .ref q_t_w_tape, .int w_bytes, .ref q_t_w_tx0, .ref q_t_w_tx1, .ref q_t_w_waiting, .int w_waits])), (q_t_w_owed, .inl (g.X.cI, 64, .inl w_owed)), (q_t_errors, .inl (g.X.cI, 7, .inl c_errors_11)), (q_t_th, .inr (4, [.ref q_t_th_cells, .ref q_t_th_sums, .ref q_t_th_groups])), (q_t_th_sums, .inl (g.X.cI, 256, .inl th_sums)), (q_t_th_groups, .inl (g.X.cI, 256, .inl th_groups))]) 7 [1, 2, 4, 5, 6] (by decide) rfl rfl (by rfl) [(q_t_w, .inr (5, [.int w_people, .ref q_t_w_km, .ref q_t_w_father, .ref q_t_w_mother, .ref q_t_w_from, .ref q_t_w_spoons, .ref q_t_w_owed, .int w_year, .int w_z, .ref q_t_w_tape, .int w_bytes, .ref q_t_w_tx0, .ref q_t_w_tx1, .ref q_t_w_waiting, .int w_waits])), (q_t_w_owed, .inl (g.X.cI, 64, .inl w_owed)), (q_t_th, .inr (4, [.ref q_t_th_cells, .ref q_t_th_sums, .ref q_t_th_groups])), (q_t_th_sums, .inl (g.X.cI, 256, .inl th_sums)), (q_t_th_groups, .inl (g.X.cI, 256, .inl th_groups))] (by rfl) rfl ?_
  exact R _ _ _ _ dX6_nets_14 (Nat.le_of_ble_eq_true rfl) ⟨_, _, _, h, rfl⟩
set_option maxRecDepth 100000 in
set_option maxHeartbeats 4000000 in
theorem c_X6_nets (l : Launch) (D : va_G) (X : XT) (q_t q_t_w q_t_w_km q_t_w_father q_t_w_mother q_t_w_from q_t_w_spoons q_t_w_owed q_t_w_tape q_t_w_tx0 q_t_w_tx1 q_t_w_waiting q_t_k q_t_errors q_t_sheets q_t_r q_t_th q_t_th_cells q_t_th_sums q_t_th_groups q_t_sp : Nat) (c_images : Int32) (w_people : Int32) (w_year : Int32) (w_z : Int32) (w_bytes : Int32) (w_waits : Int32) (w_owed : Nat → Int32) (c_errors : Nat → Int32) (th_sums : Nat → Int32) (th_groups : Nat → Int32) (x1 : Int32) (Q : Int32 → (Nat → Int32) → (Nat → Int32) → (Nat → Int32) → Prop) (h : wp_X6_nets x1 w_people w_owed c_errors th_sums th_groups Q) : CTi l D X yX6_nets cX6_nets 4 .int rm_X6_nets [.ref q_t, .int x1] [(q_t, .inr (6, [.ref q_t_w, .ref q_t_k, .int c_images, .ref q_t_errors, .ref q_t_sheets, .ref q_t_r, .ref q_t_th, .ref q_t_sp])), (q_t_w, .inr (5, [.int w_people, .ref q_t_w_km, .ref q_t_w_father, .ref q_t_w_mother, .ref q_t_w_from, .ref q_t_w_spoons, .ref q_t_w_owed, .int w_year, .int w_z, .ref q_t_w_tape, .int w_bytes, .ref q_t_w_tx0, .ref q_t_w_tx1, .ref q_t_w_waiting, .int w_waits])), (q_t_w_owed, .inl (X.cI, 64, .inl w_owed)), (q_t_errors, .inl (X.cI, 7, .inl c_errors)), (q_t_th, .inr (4, [.ref q_t_th_cells, .ref q_t_th_sums, .ref q_t_th_groups])), (q_t_th_sums, .inl (X.cI, 256, .inl th_sums)), (q_t_th_groups, .inl (X.cI, 256, .inl th_groups))] (fun (r : Int32) w => ∃ (c_errors' : Nat → Int32) (th_sums' : Nat → Int32) (th_groups' : Nat → Int32), Q r c_errors' th_sums' th_groups' ∧ w = [(q_t, .inr (6, [.ref q_t_w, .ref q_t_k, .int c_images, .ref q_t_errors, .ref q_t_sheets, .ref q_t_r, .ref q_t_th, .ref q_t_sp])), (q_t_w, .inr (5, [.int w_people, .ref q_t_w_km, .ref q_t_w_father, .ref q_t_w_mother, .ref q_t_w_from, .ref q_t_w_spoons, .ref q_t_w_owed, .int w_year, .int w_z, .ref q_t_w_tape, .int w_bytes, .ref q_t_w_tx0, .ref q_t_w_tx1, .ref q_t_w_waiting, .int w_waits])), (q_t_w_owed, .inl (X.cI, 64, .inl w_owed)), (q_t_errors, .inl (X.cI, 7, .inl c_errors')), (q_t_th, .inr (4, [.ref q_t_th_cells, .ref q_t_th_sums, .ref q_t_th_groups])), (q_t_th_sums, .inl (X.cI, 256, .inl th_sums')), (q_t_th_groups, .inl (X.cI, 256, .inl th_groups'))]) :=
  ct_i (by decide) (Nat.le_of_ble_eq_true rfl) (fun g hl hD hX G R => by subst hl; subst hD; subst hX; exact b_X6_nets_e G R h)
set_option maxRecDepth 100000 in
set_option maxHeartbeats 4000000 in
theorem b_X6_commonDivisor_2 {g : GT} (G : GOOD g RX6 cX6_commonDivisor 3 rm_X6_commonDivisor) {Q : Int32 → Prop} (R : RETi g cX6_commonDivisor 0 (fun (r : Int32) w => (Q r) ∧ w = [])) : ∀ (n : Nat) (x0 : Int32) (x1 : Int32) (x2 : Int32), wp_X6_commonDivisor_b2 Q n x0 x1 x2 → ST g 0 0 2 [(0, .int x0), (1, .int x1), (2, .int x2)] [] [] := by
  intro n
  induction n with
  | zero => intro x0 x1 x2 h; exact False.elim h
  | succ n hK2 =>
    intro x0 x1 x2 h
    unfold wp_X6_commonDivisor_b2 at h
    refine st_iload_n G 3 rfl 2 rfl dX6_commonDivisor_2 rfl ?_
    refine st_iconst G 4 rfl (1 : Int32) (by decide) dX6_commonDivisor_3 ?_
    refine st_icmp_le G 27 7 rfl dX6_commonDivisor_4 rfl (fun c => ?_) (fun c => ?_)
    · have h := h.1 c
      refine st_iconst G 28 rfl (1 : Int32) (by decide) dX6_commonDivisor_27 ?_
      exact R _ _ _ _ dX6_commonDivisor_28 (Nat.le_of_ble_eq_true rfl) ⟨h, rfl⟩
    have h := h.2 c
    refine st_iload_n G 8 rfl 0 rfl dX6_commonDivisor_7 rfl ?_
    refine st_iload_n G 9 rfl 2 rfl dX6_commonDivisor_8 rfl ?_
    obtain ⟨hne, h⟩ := h
    refine st_irem G 10 rfl hne dX6_commonDivisor_9 ?_
    refine st_if_ne G 21 13 rfl dX6_commonDivisor_10 rfl (fun c => ?_) (fun c => ?_)
    · have h := h.1 c
      obtain ⟨x2_21, ex2_21⟩ : ∃ y : Int32, y = (x2 + (-1 : Int32)) := ⟨_, rfl⟩
      have h := h x2_21 ex2_21
      refine st_iinc G 24 rfl [(2, .int x2_21), (0, .int x0), (1, .int x1)] x2_21 2 rfl (by rw [ex2_21]; rfl) dX6_commonDivisor_21 (by decide) rfl ?_
      refine st_goto G 2 dX6_commonDivisor_24 rfl ?_
      refine st_L (L' := [(0, .int x0), (1, .int x1), (2, .int x2_21)]) [1, 2, 0] rfl ?_
      exact hK2 _ _ _ h
    have h := h.2 c
    refine st_iload_n G 14 rfl 1 rfl dX6_commonDivisor_13 rfl ?_
    refine st_iload_n G 15 rfl 2 rfl dX6_commonDivisor_14 rfl ?_
    obtain ⟨hne, h⟩ := h
    refine st_irem G 16 rfl hne dX6_commonDivisor_15 ?_
    refine st_if_ne G 21 19 rfl dX6_commonDivisor_16 rfl (fun c => ?_) (fun c => ?_)
    · have h := h.1 c
      obtain ⟨x2_21, ex2_21⟩ : ∃ y : Int32, y = (x2 + (-1 : Int32)) := ⟨_, rfl⟩
      have h := h x2_21 ex2_21
      refine st_iinc G 24 rfl [(2, .int x2_21), (0, .int x0), (1, .int x1)] x2_21 2 rfl (by rw [ex2_21]; rfl) dX6_commonDivisor_21 (by decide) rfl ?_
      refine st_goto G 2 dX6_commonDivisor_24 rfl ?_
      refine st_L (L' := [(0, .int x0), (1, .int x1), (2, .int x2_21)]) [1, 2, 0] rfl ?_
      exact hK2 _ _ _ h
    have h := h.2 c
    refine st_iload_n G 20 rfl 2 rfl dX6_commonDivisor_19 rfl ?_
    exact R _ _ _ _ dX6_commonDivisor_20 (Nat.le_of_ble_eq_true rfl) ⟨h, rfl⟩
set_option maxRecDepth 100000 in
set_option maxHeartbeats 4000000 in
theorem b_X6_commonDivisor_e {g : GT} (G : GOOD g RX6 cX6_commonDivisor 3 rm_X6_commonDivisor) {x0 : Int32} {x1 : Int32} {Q : Int32 → Prop} (R : RETi g cX6_commonDivisor 0 (fun (r : Int32) w => (Q r) ∧ w = [])) (h : wp_X6_commonDivisor x0 x1 Q) : ST g 0 0 0 [(0, .int x0), (1, .int x1)] [] [] := by
  unfold wp_X6_commonDivisor at h
  refine st_iload_n G 1 rfl 1 rfl dX6_commonDivisor_0 rfl ?_
  refine st_istore_n G 2 rfl [(2, .int x1), (0, .int x0), (1, .int x1)] dX6_commonDivisor_1 rfl (by decide) rfl ?_
  refine st_L (L' := [(0, .int x0), (1, .int x1), (2, .int x1)]) [1, 2, 0] rfl ?_
  obtain ⟨n, h⟩ := h
  exact b_X6_commonDivisor_2 G R n _ _ _ h
set_option maxRecDepth 100000 in
set_option maxHeartbeats 4000000 in
theorem c_X6_commonDivisor (l : Launch) (D : va_G) (X : XT) (x0 : Int32) (x1 : Int32) (Q : Int32 → Prop) (h : wp_X6_commonDivisor x0 x1 Q) : CTi l D X yX6_commonDivisor cX6_commonDivisor 3 .int rm_X6_commonDivisor [.int x0, .int x1] [] (fun (r : Int32) w => (Q r) ∧ w = []) :=
  ct_i (by decide) (Nat.le_of_ble_eq_true rfl) (fun g hl hD hX G R => by subst hl; subst hD; subst hX; exact b_X6_commonDivisor_e G R h)
set_option maxRecDepth 100000 in
set_option maxHeartbeats 4000000 in
theorem b_X5_pouredTogether_5 {g : GT} (G : GOOD g RX5 cX5_pouredTogether 5 rm_X5_pouredTogether) {q_t q_t_km q_t_father q_t_mother q_t_from q_t_spoons q_t_owed q_t_tape q_t_tx0 q_t_tx1 q_t_waiting : Nat} {c_people : Int32} {c_year : Int32} {c_z : Int32} {c_bytes : Int32} {c_waits : Int32} {c_spoons : Nat → Int32} {Q : Int32 → Prop} (R : RETi g cX5_pouredTogether 2 (fun (r : Int32) w => (Q r) ∧ w = [(q_t, .inr (5, [.int c_people, .ref q_t_km, .ref q_t_father, .ref q_t_mother, .ref q_t_from, .ref q_t_spoons, .ref q_t_owed, .int c_year, .int c_z, .ref q_t_tape, .int c_bytes, .ref q_t_tx0, .ref q_t_tx1, .ref q_t_waiting, .int c_waits])), (q_t_spoons, .inl (g.X.cI, 40, .inl c_spoons))])) : ∀ (n : Nat) (x1 : Int32) (x2 : Int32) (x3 : Int32) (x4 : Int32), wp_X5_pouredTogether_b5 Q c_spoons n x1 x2 x3 x4 → ST g 0 0 5 [(0, .ref q_t), (1, .int x1), (2, .int x2), (3, .int x3), (4, .int x4)] [] [(q_t, .inr (5, [.int c_people, .ref q_t_km, .ref q_t_father, .ref q_t_mother, .ref q_t_from, .ref q_t_spoons, .ref q_t_owed, .int c_year, .int c_z, .ref q_t_tape, .int c_bytes, .ref q_t_tx0, .ref q_t_tx1, .ref q_t_waiting, .int c_waits])), (q_t_spoons, .inl (g.X.cI, 40, .inl c_spoons))] := by
  intro n
  induction n with
  | zero => intro x1 x2 x3 x4 h; exact False.elim h
  | succ n hK5 =>
    intro x1 x2 x3 x4 h
    unfold wp_X5_pouredTogether_b5 at h
    refine st_iload G 7 rfl 4 rfl dX5_pouredTogether_5 ?_
    refine st_iconst G 8 rfl (5 : Int32) (by decide) dX5_pouredTogether_7 ?_
    refine st_icmp_ge G 28 11 rfl dX5_pouredTogether_8 rfl (fun c => ?_) (fun c => ?_)
    · have h := h.1 c
      refine st_iload_n G 29 rfl 3 rfl dX5_pouredTogether_28 rfl ?_
      exact R _ _ _ _ dX5_pouredTogether_29 (Nat.le_of_ble_eq_true rfl) ⟨h, rfl⟩
    have h := h.2 c
    refine st_iload_n G 12 rfl 3 rfl dX5_pouredTogether_11 rfl ?_
    refine st_aload_n G 13 rfl 0 rfl dX5_pouredTogether_12 rfl ?_
    refine st_iload_n G 14 rfl 1 rfl dX5_pouredTogether_13 rfl ?_
    refine st_iload_n G 15 rfl 2 rfl dX5_pouredTogether_14 rfl ?_
    refine st_iload G 17 rfl 4 rfl dX5_pouredTogether_15 ?_
    refine st_cVio G lk_X5_83 (c_X5_poured g.l g.D g.X q_t q_t_km q_t_father q_t_mother q_t_from q_t_spoons q_t_owed q_t_tape q_t_tx0 q_t_tx1 q_t_waiting c_people c_year c_z c_bytes c_waits c_spoons x1 x2 x4 _ h) ⟨rfl, rfl, ⟨Nat.le_of_ble_eq_true rfl, Nat.le_of_ble_eq_true rfl⟩, Nat.zero_le _, Nat.zero_le _⟩ 20 rfl [0, 1] rfl (by decide) 0 5 rfl rfl rfl (Nat.le_of_ble_eq_true rfl) rfl dX5_pouredTogether_17 (fun r_17 h => ?_)
    refine st_iadd G 21 rfl dX5_pouredTogether_20 ?_
    refine st_topi (fun x3_21 ex3_21 => ?_)
    have h := h x3_21 ex3_21
    refine st_istore_n G 22 rfl [(3, .int x3_21), (0, .ref q_t), (1, .int x1), (2, .int x2), (4, .int x4)] dX5_pouredTogether_21 rfl (by decide) rfl ?_
    obtain ⟨x4_22, ex4_22⟩ : ∃ y : Int32, y = (x4 + (1 : Int32)) := ⟨_, rfl⟩
    have h := h x4_22 ex4_22
    refine st_iinc G 25 rfl [(4, .int x4_22), (3, .int x3_21), (0, .ref q_t), (1, .int x1), (2, .int x2)] x4_22 4 rfl (by rw [ex4_22]; rfl) dX5_pouredTogether_22 (by decide) rfl ?_
    refine st_goto G 5 dX5_pouredTogether_25 rfl ?_
    refine st_L (L' := [(0, .ref q_t), (1, .int x1), (2, .int x2), (3, .int x3_21), (4, .int x4_22)]) [2, 3, 4, 1, 0] rfl ?_
    exact hK5 _ _ _ _ h
set_option maxRecDepth 100000 in
set_option maxHeartbeats 4000000 in
theorem b_X5_pouredTogether_e {g : GT} (G : GOOD g RX5 cX5_pouredTogether 5 rm_X5_pouredTogether) {q_t q_t_km q_t_father q_t_mother q_t_from q_t_spoons q_t_owed q_t_tape q_t_tx0 q_t_tx1 q_t_waiting : Nat} {c_people : Int32} {c_year : Int32} {c_z : Int32} {c_bytes : Int32} {c_waits : Int32} {c_spoons : Nat → Int32} {x1 : Int32} {x2 : Int32} {Q : Int32 → Prop} (R : RETi g cX5_pouredTogether 2 (fun (r : Int32) w => (Q r) ∧ w = [(q_t, .inr (5, [.int c_people, .ref q_t_km, .ref q_t_father, .ref q_t_mother, .ref q_t_from, .ref q_t_spoons, .ref q_t_owed, .int c_year, .int c_z, .ref q_t_tape, .int c_bytes, .ref q_t_tx0, .ref q_t_tx1, .ref q_t_waiting, .int c_waits])), (q_t_spoons, .inl (g.X.cI, 40, .inl c_spoons))])) (h : wp_X5_pouredTogether x1 x2 c_spoons Q) : ST g 0 0 0 [(0, .ref q_t), (1, .int x1), (2, .int x2)] [] [(q_t, .inr (5, [.int c_people, .ref q_t_km, .ref q_t_father, .ref q_t_mother, .ref q_t_from, .ref q_t_spoons, .ref q_t_owed, .int c_year, .int c_z, .ref q_t_tape, .int c_bytes, .ref q_t_tx0, .ref q_t_tx1, .ref q_t_waiting, .int c_waits])), (q_t_spoons, .inl (g.X.cI, 40, .inl c_spoons))] := by
  unfold wp_X5_pouredTogether at h
  refine st_iconst G 1 rfl (0 : Int32) (by decide) dX5_pouredTogether_0 ?_
  refine st_istore_n G 2 rfl [(3, .int (0 : Int32)), (0, .ref q_t), (1, .int x1), (2, .int x2)] dX5_pouredTogether_1 rfl (by decide) rfl ?_
  refine st_iconst G 3 rfl (0 : Int32) (by decide) dX5_pouredTogether_2 ?_
  refine st_istore G 5 rfl [(4, .int (0 : Int32)), (3, .int (0 : Int32)), (0, .ref q_t), (1, .int x1), (2, .int x2)] dX5_pouredTogether_3 (by decide) rfl ?_
  refine st_L (L' := [(0, .ref q_t), (1, .int x1), (2, .int x2), (3, .int (0 : Int32)), (4, .int (0 : Int32))]) [2, 3, 4, 1, 0] rfl ?_
  obtain ⟨n, h⟩ := h
  exact b_X5_pouredTogether_5 G R n _ _ _ _ h
set_option maxRecDepth 100000 in
set_option maxHeartbeats 4000000 in
theorem c_X5_pouredTogether (l : Launch) (D : va_G) (X : XT) (q_t q_t_km q_t_father q_t_mother q_t_from q_t_spoons q_t_owed q_t_tape q_t_tx0 q_t_tx1 q_t_waiting : Nat) (c_people : Int32) (c_year : Int32) (c_z : Int32) (c_bytes : Int32) (c_waits : Int32) (c_spoons : Nat → Int32) (x1 : Int32) (x2 : Int32) (Q : Int32 → Prop) (h : wp_X5_pouredTogether x1 x2 c_spoons Q) : CTi l D X yX5_pouredTogether cX5_pouredTogether 5 .int rm_X5_pouredTogether [.ref q_t, .int x1, .int x2] [(q_t, .inr (5, [.int c_people, .ref q_t_km, .ref q_t_father, .ref q_t_mother, .ref q_t_from, .ref q_t_spoons, .ref q_t_owed, .int c_year, .int c_z, .ref q_t_tape, .int c_bytes, .ref q_t_tx0, .ref q_t_tx1, .ref q_t_waiting, .int c_waits])), (q_t_spoons, .inl (X.cI, 40, .inl c_spoons))] (fun (r : Int32) w => (Q r) ∧ w = [(q_t, .inr (5, [.int c_people, .ref q_t_km, .ref q_t_father, .ref q_t_mother, .ref q_t_from, .ref q_t_spoons, .ref q_t_owed, .int c_year, .int c_z, .ref q_t_tape, .int c_bytes, .ref q_t_tx0, .ref q_t_tx1, .ref q_t_waiting, .int c_waits])), (q_t_spoons, .inl (X.cI, 40, .inl c_spoons))]) :=
  ct_i (by decide) (Nat.le_of_ble_eq_true rfl) (fun g hl hD hX G R => by subst hl; subst hD; subst hX; exact b_X5_pouredTogether_e G R h)
set_option maxRecDepth 100000 in
set_option maxHeartbeats 4000000 in
theorem b_X4_pairsBelow_20 {g : GT} (G : GOOD g RX4 cX4_pairsBelow 6 rm_X4_pairsBelow) {q_t q_t_cells q_t_sums q_t_groups q_a1 q_a1_km q_a1_father q_a1_mother q_a1_from q_a1_spoons q_a1_owed q_a1_tape q_a1_tx0 q_a1_tx1 q_a1_waiting : Nat} {a1_people : Int32} {a1_year : Int32} {a1_z : Int32} {a1_bytes : Int32} {a1_waits : Int32} {a1_spoons : Nat → Int32} {Q : Int32 → Prop} {KK5 : (Int32) → (Int32) → (Int32) → Prop} (R : RETi g cX4_pairsBelow 3 (fun (r : Int32) w => (Q r) ∧ w = [(q_t, .inr (4, [.ref q_t_cells, .ref q_t_sums, .ref q_t_groups])), (q_a1, .inr (5, [.int a1_people, .ref q_a1_km, .ref q_a1_father, .ref q_a1_mother, .ref q_a1_from, .ref q_a1_spoons, .ref q_a1_owed, .int a1_year, .int a1_z, .ref q_a1_tape, .int a1_bytes, .ref q_a1_tx0, .ref q_a1_tx1, .ref q_a1_waiting, .int a1_waits])), (q_a1_spoons, .inl (g.X.cI, 40, .inl a1_spoons))])) (hK5 : ∀ (x2 : Int32) (x3 : Int32) (x4 : Int32), KK5 x2 x3 x4 → ST g 0 0 5 [(1, .ref q_a1), (2, .int x2), (3, .int x3), (4, .int x4)] [] [(q_t, .inr (4, [.ref q_t_cells, .ref q_t_sums, .ref q_t_groups])), (q_a1, .inr (5, [.int a1_people, .ref q_a1_km, .ref q_a1_father, .ref q_a1_mother, .ref q_a1_from, .ref q_a1_spoons, .ref q_a1_owed, .int a1_year, .int a1_z, .ref q_a1_tape, .int a1_bytes, .ref q_a1_tx0, .ref q_a1_tx1, .ref q_a1_waiting, .int a1_waits])), (q_a1_spoons, .inl (g.X.cI, 40, .inl a1_spoons))]) : ∀ (n : Nat) (x2 : Int32) (x3 : Int32) (x4 : Int32) (x5 : Int32), wp_X4_pairsBelow_b20 Q KK5 a1_people a1_spoons n x2 x3 x4 x5 → ST g 0 0 20 [(1, .ref q_a1), (2, .int x2), (3, .int x3), (4, .int x4), (5, .int x5)] [] [(q_t, .inr (4, [.ref q_t_cells, .ref q_t_sums, .ref q_t_groups])), (q_a1, .inr (5, [.int a1_people, .ref q_a1_km, .ref q_a1_father, .ref q_a1_mother, .ref q_a1_from, .ref q_a1_spoons, .ref q_a1_owed, .int a1_year, .int a1_z, .ref q_a1_tape, .int a1_bytes, .ref q_a1_tx0, .ref q_a1_tx1, .ref q_a1_waiting, .int a1_waits])), (q_a1_spoons, .inl (g.X.cI, 40, .inl a1_spoons))] := by
  intro n
  induction n with
  | zero => intro x2 x3 x4 x5 h; exact False.elim h
  | succ n hK20 =>
    intro x2 x3 x4 x5 h
    unfold wp_X4_pairsBelow_b20 at h
    refine st_iload G 22 rfl 4 rfl dX4_pairsBelow_20 ?_
    refine st_aload_n G 23 rfl 0 rfl dX4_pairsBelow_22 rfl ?_
    refine st_get G inX5 rfl 0 (by decide) wd_660 26 rfl 1 rfl rfl dX4_pairsBelow_23 ?_
    refine st_icmp_ge G 58 29 rfl dX4_pairsBelow_26 rfl (fun c => ?_) (fun c => ?_)
    · have h := h.1 c
      obtain ⟨x4_58, ex4_58⟩ : ∃ y : Int32, y = (x4 + (1 : Int32)) := ⟨_, rfl⟩
      have h := h x4_58 ex4_58
      refine st_iinc G 61 rfl [(4, .int x4_58), (1, .ref q_a1), (2, .int x2), (3, .int x3), (5, .int x5)] x4_58 3 rfl (by rw [ex4_58]; rfl) dX4_pairsBelow_58 (by decide) rfl ?_
      refine st_goto G 5 dX4_pairsBelow_61 rfl ?_
      refine st_L (L' := [(1, .ref q_a1), (2, .int x2), (3, .int x3), (4, .int x4_58)]) [1, 2, 3, 0] rfl ?_
      exact hK5 _ _ _ h
    have h := h.2 c
    refine st_iload_n G 30 rfl 2 rfl dX4_pairsBelow_29 rfl ?_
    refine st_aload_n G 31 rfl 0 rfl dX4_pairsBelow_30 rfl ?_
    refine st_iload G 33 rfl 3 rfl dX4_pairsBelow_31 ?_
    refine st_iload G 35 rfl 4 rfl dX4_pairsBelow_33 ?_
    refine st_cVio G lk_X4_73 (c_X5_pouredTogether g.l g.D g.X q_a1 q_a1_km q_a1_father q_a1_mother q_a1_from q_a1_spoons q_a1_owed q_a1_tape q_a1_tx0 q_a1_tx1 q_a1_waiting a1_people a1_year a1_z a1_bytes a1_waits a1_spoons x4 x5 _ h) ⟨rfl, rfl, ⟨Nat.le_of_ble_eq_true rfl, Nat.le_of_ble_eq_true rfl⟩, Nat.zero_le _, Nat.zero_le _⟩ 38 rfl [1, 2] rfl (by decide) 0 5 rfl rfl rfl (Nat.le_of_ble_eq_true rfl) rfl dX4_pairsBelow_35 (fun r_35 h => ?_)
    refine st_iload_n G 39 rfl 1 rfl dX4_pairsBelow_38 rfl ?_
    refine st_icmp_ge G 46 42 rfl dX4_pairsBelow_39 rfl (fun c => ?_) (fun c => ?_)
    · have h := h.1 c
      refine st_iconst G 47 rfl (0 : Int32) (by decide) dX4_pairsBelow_46 ?_
      refine st_cNio G lk_X4_66 (c_X6_truth g.l g.D g.X (0 : Int32) _ h) ⟨rfl, rfl, ⟨Nat.le_of_ble_eq_true rfl, Nat.le_of_ble_eq_true rfl⟩, Nat.zero_le _, Nat.zero_le _⟩ 50 rfl [] rfl (by decide) rfl (Nat.le_of_ble_eq_true rfl) rfl dX4_pairsBelow_47 (fun r_47 h => ?_)
      refine st_iadd G 51 rfl dX4_pairsBelow_50 ?_
      refine st_topi (fun x3_51 ex3_51 => ?_)
      have h := h x3_51 ex3_51
      refine st_istore_n G 52 rfl [(3, .int x3_51), (1, .ref q_a1), (2, .int x2), (4, .int x4), (5, .int x5)] dX4_pairsBelow_51 rfl (by decide) rfl ?_
      obtain ⟨x5_52, ex5_52⟩ : ∃ y : Int32, y = (x5 + (1 : Int32)) := ⟨_, rfl⟩
      have h := h x5_52 ex5_52
      refine st_iinc G 55 rfl [(5, .int x5_52), (3, .int x3_51), (1, .ref q_a1), (2, .int x2), (4, .int x4)] x5_52 4 rfl (by rw [ex5_52]; rfl) dX4_pairsBelow_52 (by decide) rfl ?_
      refine st_goto G 20 dX4_pairsBelow_55 rfl ?_
      refine st_L (L' := [(1, .ref q_a1), (2, .int x2), (3, .int x3_51), (4, .int x4), (5, .int x5_52)]) [2, 3, 1, 4, 0] rfl ?_
      exact hK20 _ _ _ _ h
    have h := h.2 c
    refine st_iconst G 43 rfl (1 : Int32) (by decide) dX4_pairsBelow_42 ?_
    refine st_goto G 47 dX4_pairsBelow_43 rfl ?_
    refine st_cNio G lk_X4_66 (c_X6_truth g.l g.D g.X (1 : Int32) _ h) ⟨rfl, rfl, ⟨Nat.le_of_ble_eq_true rfl, Nat.le_of_ble_eq_true rfl⟩, Nat.zero_le _, Nat.zero_le _⟩ 50 rfl [] rfl (by decide) rfl (Nat.le_of_ble_eq_true rfl) rfl dX4_pairsBelow_47 (fun r_47 h => ?_)
    refine st_iadd G 51 rfl dX4_pairsBelow_50 ?_
    refine st_topi (fun x3_51 ex3_51 => ?_)
    have h := h x3_51 ex3_51
    refine st_istore_n G 52 rfl [(3, .int x3_51), (1, .ref q_a1), (2, .int x2), (4, .int x4), (5, .int x5)] dX4_pairsBelow_51 rfl (by decide) rfl ?_
    obtain ⟨x5_52, ex5_52⟩ : ∃ y : Int32, y = (x5 + (1 : Int32)) := ⟨_, rfl⟩
    have h := h x5_52 ex5_52
    refine st_iinc G 55 rfl [(5, .int x5_52), (3, .int x3_51), (1, .ref q_a1), (2, .int x2), (4, .int x4)] x5_52 4 rfl (by rw [ex5_52]; rfl) dX4_pairsBelow_52 (by decide) rfl ?_
    refine st_goto G 20 dX4_pairsBelow_55 rfl ?_
    refine st_L (L' := [(1, .ref q_a1), (2, .int x2), (3, .int x3_51), (4, .int x4), (5, .int x5_52)]) [2, 3, 1, 4, 0] rfl ?_
    exact hK20 _ _ _ _ h
set_option maxRecDepth 100000 in
set_option maxHeartbeats 4000000 in
theorem b_X4_pairsBelow_5 {g : GT} (G : GOOD g RX4 cX4_pairsBelow 6 rm_X4_pairsBelow) {q_t q_t_cells q_t_sums q_t_groups q_a1 q_a1_km q_a1_father q_a1_mother q_a1_from q_a1_spoons q_a1_owed q_a1_tape q_a1_tx0 q_a1_tx1 q_a1_waiting : Nat} {a1_people : Int32} {a1_year : Int32} {a1_z : Int32} {a1_bytes : Int32} {a1_waits : Int32} {a1_spoons : Nat → Int32} {Q : Int32 → Prop} (R : RETi g cX4_pairsBelow 3 (fun (r : Int32) w => (Q r) ∧ w = [(q_t, .inr (4, [.ref q_t_cells, .ref q_t_sums, .ref q_t_groups])), (q_a1, .inr (5, [.int a1_people, .ref q_a1_km, .ref q_a1_father, .ref q_a1_mother, .ref q_a1_from, .ref q_a1_spoons, .ref q_a1_owed, .int a1_year, .int a1_z, .ref q_a1_tape, .int a1_bytes, .ref q_a1_tx0, .ref q_a1_tx1, .ref q_a1_waiting, .int a1_waits])), (q_a1_spoons, .inl (g.X.cI, 40, .inl a1_spoons))])) : ∀ (n : Nat) (x2 : Int32) (x3 : Int32) (x4 : Int32), wp_X4_pairsBelow_b5 Q a1_people a1_spoons n x2 x3 x4 → ST g 0 0 5 [(1, .ref q_a1), (2, .int x2), (3, .int x3), (4, .int x4)] [] [(q_t, .inr (4, [.ref q_t_cells, .ref q_t_sums, .ref q_t_groups])), (q_a1, .inr (5, [.int a1_people, .ref q_a1_km, .ref q_a1_father, .ref q_a1_mother, .ref q_a1_from, .ref q_a1_spoons, .ref q_a1_owed, .int a1_year, .int a1_z, .ref q_a1_tape, .int a1_bytes, .ref q_a1_tx0, .ref q_a1_tx1, .ref q_a1_waiting, .int a1_waits])), (q_a1_spoons, .inl (g.X.cI, 40, .inl a1_spoons))] := by
  intro n
  induction n with
  | zero => intro x2 x3 x4 h; exact False.elim h
  | succ n hK5 =>
    intro x2 x3 x4 h
    unfold wp_X4_pairsBelow_b5 at h
    refine st_iload G 7 rfl 3 rfl dX4_pairsBelow_5 ?_
    refine st_aload_n G 8 rfl 0 rfl dX4_pairsBelow_7 rfl ?_
    refine st_get G inX5 rfl 0 (by decide) wd_660 11 rfl 1 rfl rfl dX4_pairsBelow_8 ?_
    refine st_icmp_ge G 64 14 rfl dX4_pairsBelow_11 rfl (fun c => ?_) (fun c => ?_)
    · have h := h.1 c
      refine st_iload_n G 65 rfl 2 rfl dX4_pairsBelow_64 rfl ?_
      exact R _ _ _ _ dX4_pairsBelow_65 (Nat.le_of_ble_eq_true rfl) ⟨h, rfl⟩
    have h := h.2 c
    refine st_iload G 16 rfl 3 rfl dX4_pairsBelow_14 ?_
    refine st_iconst G 17 rfl (1 : Int32) (by decide) dX4_pairsBelow_16 ?_
    refine st_iadd G 18 rfl dX4_pairsBelow_17 ?_
    refine st_topi (fun x5_18 ex5_18 => ?_)
    have h := h x5_18 ex5_18
    refine st_istore G 20 rfl [(5, .int x5_18), (1, .ref q_a1), (2, .int x2), (3, .int x3), (4, .int x4)] dX4_pairsBelow_18 (by decide) rfl ?_
    refine st_L (L' := [(1, .ref q_a1), (2, .int x2), (3, .int x3), (4, .int x4), (5, .int x5_18)]) [1, 2, 3, 4, 0] rfl ?_
    obtain ⟨n, h⟩ := h
    exact b_X4_pairsBelow_20 G R hK5 n _ _ _ _ h
set_option maxRecDepth 100000 in
set_option maxHeartbeats 4000000 in
theorem b_X4_pairsBelow_e {g : GT} (G : GOOD g RX4 cX4_pairsBelow 6 rm_X4_pairsBelow) {q_t q_t_cells q_t_sums q_t_groups q_a1 q_a1_km q_a1_father q_a1_mother q_a1_from q_a1_spoons q_a1_owed q_a1_tape q_a1_tx0 q_a1_tx1 q_a1_waiting : Nat} {a1_people : Int32} {a1_year : Int32} {a1_z : Int32} {a1_bytes : Int32} {a1_waits : Int32} {a1_spoons : Nat → Int32} {x2 : Int32} {Q : Int32 → Prop} (R : RETi g cX4_pairsBelow 3 (fun (r : Int32) w => (Q r) ∧ w = [(q_t, .inr (4, [.ref q_t_cells, .ref q_t_sums, .ref q_t_groups])), (q_a1, .inr (5, [.int a1_people, .ref q_a1_km, .ref q_a1_father, .ref q_a1_mother, .ref q_a1_from, .ref q_a1_spoons, .ref q_a1_owed, .int a1_year, .int a1_z, .ref q_a1_tape, .int a1_bytes, .ref q_a1_tx0, .ref q_a1_tx1, .ref q_a1_waiting, .int a1_waits])), (q_a1_spoons, .inl (g.X.cI, 40, .inl a1_spoons))])) (h : wp_X4_pairsBelow x2 a1_people a1_spoons Q) : ST g 0 0 0 [(0, .ref q_t), (1, .ref q_a1), (2, .int x2)] [] [(q_t, .inr (4, [.ref q_t_cells, .ref q_t_sums, .ref q_t_groups])), (q_a1, .inr (5, [.int a1_people, .ref q_a1_km, .ref q_a1_father, .ref q_a1_mother, .ref q_a1_from, .ref q_a1_spoons, .ref q_a1_owed, .int a1_year, .int a1_z, .ref q_a1_tape, .int a1_bytes, .ref q_a1_tx0, .ref q_a1_tx1, .ref q_a1_waiting, .int a1_waits])), (q_a1_spoons, .inl (g.X.cI, 40, .inl a1_spoons))] := by
  unfold wp_X4_pairsBelow at h
  refine st_iconst G 1 rfl (0 : Int32) (by decide) dX4_pairsBelow_0 ?_
  refine st_istore_n G 2 rfl [(3, .int (0 : Int32)), (0, .ref q_t), (1, .ref q_a1), (2, .int x2)] dX4_pairsBelow_1 rfl (by decide) rfl ?_
  refine st_iconst G 3 rfl (0 : Int32) (by decide) dX4_pairsBelow_2 ?_
  refine st_istore G 5 rfl [(4, .int (0 : Int32)), (3, .int (0 : Int32)), (0, .ref q_t), (1, .ref q_a1), (2, .int x2)] dX4_pairsBelow_3 (by decide) rfl ?_
  refine st_L (L' := [(1, .ref q_a1), (2, .int x2), (3, .int (0 : Int32)), (4, .int (0 : Int32))]) [3, 4, 1, 0] rfl ?_
  obtain ⟨n, h⟩ := h
  exact b_X4_pairsBelow_5 G R n _ _ _ h
set_option maxRecDepth 100000 in
set_option maxHeartbeats 4000000 in
theorem c_X4_pairsBelow (l : Launch) (D : va_G) (X : XT) (q_t q_t_cells q_t_sums q_t_groups q_a1 q_a1_km q_a1_father q_a1_mother q_a1_from q_a1_spoons q_a1_owed q_a1_tape q_a1_tx0 q_a1_tx1 q_a1_waiting : Nat) (a1_people : Int32) (a1_year : Int32) (a1_z : Int32) (a1_bytes : Int32) (a1_waits : Int32) (a1_spoons : Nat → Int32) (x2 : Int32) (Q : Int32 → Prop) (h : wp_X4_pairsBelow x2 a1_people a1_spoons Q) : CTi l D X yX4_pairsBelow cX4_pairsBelow 6 .int rm_X4_pairsBelow [.ref q_t, .ref q_a1, .int x2] [(q_t, .inr (4, [.ref q_t_cells, .ref q_t_sums, .ref q_t_groups])), (q_a1, .inr (5, [.int a1_people, .ref q_a1_km, .ref q_a1_father, .ref q_a1_mother, .ref q_a1_from, .ref q_a1_spoons, .ref q_a1_owed, .int a1_year, .int a1_z, .ref q_a1_tape, .int a1_bytes, .ref q_a1_tx0, .ref q_a1_tx1, .ref q_a1_waiting, .int a1_waits])), (q_a1_spoons, .inl (X.cI, 40, .inl a1_spoons))] (fun (r : Int32) w => (Q r) ∧ w = [(q_t, .inr (4, [.ref q_t_cells, .ref q_t_sums, .ref q_t_groups])), (q_a1, .inr (5, [.int a1_people, .ref q_a1_km, .ref q_a1_father, .ref q_a1_mother, .ref q_a1_from, .ref q_a1_spoons, .ref q_a1_owed, .int a1_year, .int a1_z, .ref q_a1_tape, .int a1_bytes, .ref q_a1_tx0, .ref q_a1_tx1, .ref q_a1_waiting, .int a1_waits])), (q_a1_spoons, .inl (X.cI, 40, .inl a1_spoons))]) :=
  ct_i (by decide) (Nat.le_of_ble_eq_true rfl) (fun g hl hD hX G R => by subst hl; subst hD; subst hX; exact b_X4_pairsBelow_e G R h)
set_option maxRecDepth 100000 in
set_option maxHeartbeats 4000000 in
theorem b_X6_odds_e {g : GT} (G : GOOD g RX6 cX6_odds 6 rm_X6_odds) {q_t q_t_w q_t_w_km q_t_w_father q_t_w_mother q_t_w_from q_t_w_spoons q_t_w_owed q_t_w_tape q_t_w_tx0 q_t_w_tx1 q_t_w_waiting q_t_k q_t_errors q_t_sheets q_t_r q_t_th q_t_th_cells q_t_th_sums q_t_th_groups q_t_sp : Nat} {c_images : Int32} {w_people : Int32} {w_year : Int32} {w_z : Int32} {w_bytes : Int32} {w_waits : Int32} {w_spoons : Nat → Int32} {c_errors : Nat → Int32} {x1 : Int32} {x2 : Int32} {Q : Int32 → (Nat → Int32) → Prop} (R : RETi g cX6_odds 5 (fun (r : Int32) w => ∃ (c_errors' : Nat → Int32), Q r c_errors' ∧ w = [(q_t, .inr (6, [.ref q_t_w, .ref q_t_k, .int c_images, .ref q_t_errors, .ref q_t_sheets, .ref q_t_r, .ref q_t_th, .ref q_t_sp])), (q_t_w, .inr (5, [.int w_people, .ref q_t_w_km, .ref q_t_w_father, .ref q_t_w_mother, .ref q_t_w_from, .ref q_t_w_spoons, .ref q_t_w_owed, .int w_year, .int w_z, .ref q_t_w_tape, .int w_bytes, .ref q_t_w_tx0, .ref q_t_w_tx1, .ref q_t_w_waiting, .int w_waits])), (q_t_w_spoons, .inl (g.X.cI, 40, .inl w_spoons)), (q_t_errors, .inl (g.X.cI, 7, .inl c_errors')), (q_t_th, .inr (4, [.ref q_t_th_cells, .ref q_t_th_sums, .ref q_t_th_groups]))])) (h : wp_X6_odds x1 x2 w_people w_spoons c_errors Q) : ST g 0 0 0 [(0, .ref q_t), (1, .int x1), (2, .int x2)] [] [(q_t, .inr (6, [.ref q_t_w, .ref q_t_k, .int c_images, .ref q_t_errors, .ref q_t_sheets, .ref q_t_r, .ref q_t_th, .ref q_t_sp])), (q_t_w, .inr (5, [.int w_people, .ref q_t_w_km, .ref q_t_w_father, .ref q_t_w_mother, .ref q_t_w_from, .ref q_t_w_spoons, .ref q_t_w_owed, .int w_year, .int w_z, .ref q_t_w_tape, .int w_bytes, .ref q_t_w_tx0, .ref q_t_w_tx1, .ref q_t_w_waiting, .int w_waits])), (q_t_w_spoons, .inl (g.X.cI, 40, .inl w_spoons)), (q_t_errors, .inl (g.X.cI, 7, .inl c_errors)), (q_t_th, .inr (4, [.ref q_t_th_cells, .ref q_t_th_sums, .ref q_t_th_groups]))] := by
  unfold wp_X6_odds at h
  refine st_iload_n G 1 rfl 1 rfl dX6_odds_0 rfl ?_
  refine st_iconst G 2 rfl (0 : Int32) (by decide) dX6_odds_1 ?_
  refine st_sipush G 5 rfl (500 : Int32) (by decide) dX6_odds_2 ?_
  refine st_cSio G lk_X6_115 (c_X6_notWithin g.l g.D g.X x1 (0 : Int32) (500 : Int32) _ h) ⟨rfl, rfl, ⟨Nat.le_of_ble_eq_true rfl, Nat.le_of_ble_eq_true rfl⟩, Nat.zero_le _, Nat.zero_le _⟩ 8 rfl [] rfl (by decide) rfl (Nat.le_of_ble_eq_true rfl) rfl dX6_odds_5 (fun r_5 h => ?_)
  refine st_if_ne G 20 11 rfl dX6_odds_8 rfl (fun c => ?_) (fun c => ?_)
  · have h := h.1 c
    refine st_aload_n G 21 rfl 0 rfl dX6_odds_20 rfl ?_
    refine st_iconst G 22 rfl (1 : Int32) (by decide) dX6_odds_21 ?_
    refine st_cVi G lk_X6_55 (c_X6_error g.l g.D g.X q_t q_t_w q_t_k q_t_errors q_t_sheets q_t_r q_t_th q_t_sp c_images c_errors (1 : Int32) _ h) ⟨rfl, rfl, ⟨Nat.le_of_ble_eq_true rfl, Nat.le_of_ble_eq_true rfl⟩, Nat.zero_le _, Nat.zero_le _⟩ 25 rfl [0, 3] rfl (by decide) 0 6 rfl rfl rfl (Nat.le_of_ble_eq_true rfl) rfl dX6_odds_22 (fun r_22 w hq => ?_)
    obtain ⟨c_errors_22, h, rfl⟩ := hq
    refine st_wp (ws' := [(q_t, .inr (6, [.ref q_t_w, .ref q_t_k, .int c_images, .ref q_t_errors, .ref q_t_sheets, .ref q_t_r, .ref q_t_th, .ref q_t_sp])), (q_t_w, .inr (5, [.int w_people, .ref q_t_w_km, .ref q_t_w_father, .ref q_t_w_mother, .ref q_t_w_from, .ref q_t_w_spoons, .ref q_t_w_owed, .int w_year, .int w_z, .ref q_t_w_tape, .int w_bytes, .ref q_t_w_tx0, .ref q_t_w_tx1, .ref q_t_w_waiting, .int w_waits])), (q_t_w_spoons, .inl (g.X.cI, 40, .inl w_spoons)), (q_t_errors, .inl (g.X.cI, 7, .inl c_errors_22)), (q_t_th, .inr (4, [.ref q_t_th_cells, .ref q_t_th_sums, .ref q_t_th_groups]))]) 5 [1, 2, 4] (by decide) rfl rfl (by rfl) [(q_t_w, .inr (5, [.int w_people, .ref q_t_w_km, .ref q_t_w_father, .ref q_t_w_mother, .ref q_t_w_from, .ref q_t_w_spoons, .ref q_t_w_owed, .int w_year, .int w_z, .ref q_t_w_tape, .int w_bytes, .ref q_t_w_tx0, .ref q_t_w_tx1, .ref q_t_w_waiting, .int w_waits])), (q_t_w_spoons, .inl (g.X.cI, 40, .inl w_spoons)), (q_t_th, .inr (4, [.ref q_t_th_cells, .ref q_t_th_sums, .ref q_t_th_groups]))] (by rfl) rfl ?_
    exact R _ _ _ _ dX6_odds_25 (Nat.le_of_ble_eq_true rfl) ⟨_, h, rfl⟩
  have h := h.2 c
  refine st_iload_n G 12 rfl 2 rfl dX6_odds_11 rfl ?_
  refine st_iconst G 13 rfl (0 : Int32) (by decide) dX6_odds_12 ?_
  refine st_iconst G 14 rfl (1 : Int32) (by decide) dX6_odds_13 ?_
  refine st_cSio G lk_X6_115 (c_X6_notWithin g.l g.D g.X x2 (0 : Int32) (1 : Int32) _ h) ⟨rfl, rfl, ⟨Nat.le_of_ble_eq_true rfl, Nat.le_of_ble_eq_true rfl⟩, Nat.zero_le _, Nat.zero_le _⟩ 17 rfl [] rfl (by decide) rfl (Nat.le_of_ble_eq_true rfl) rfl dX6_odds_14 (fun r_14 h => ?_)
  refine st_if_eq G 26 20 rfl dX6_odds_17 rfl (fun c => ?_) (fun c => ?_)
  · have h := h.1 c
    refine st_aload_n G 27 rfl 0 rfl dX6_odds_26 rfl ?_
    refine st_get G inX6 rfl 0 (by decide) wd_16 30 rfl 0 rfl rfl dX6_odds_27 ?_
    refine st_get G inX5 rfl 0 (by decide) wd_100 33 rfl 1 rfl rfl dX6_odds_30 ?_
    refine st_iconst G 34 rfl (2 : Int32) (by decide) dX6_odds_33 ?_
    refine st_icmp_ge G 43 37 rfl dX6_odds_34 rfl (fun c => ?_) (fun c => ?_)
    · have h := h.1 c
      refine st_aload_n G 44 rfl 0 rfl dX6_odds_43 rfl ?_
      refine st_get G inX6 rfl 0 (by decide) wd_16 47 rfl 0 rfl rfl dX6_odds_44 ?_
      refine st_get G inX5 rfl 0 (by decide) wd_100 50 rfl 1 rfl rfl dX6_odds_47 ?_
      refine st_aload_n G 51 rfl 0 rfl dX6_odds_50 rfl ?_
      refine st_get G inX6 rfl 0 (by decide) wd_16 54 rfl 0 rfl rfl dX6_odds_51 ?_
      refine st_get G inX5 rfl 0 (by decide) wd_100 57 rfl 1 rfl rfl dX6_odds_54 ?_
      refine st_iconst G 58 rfl (1 : Int32) (by decide) dX6_odds_57 ?_
      refine st_isub G 59 rfl dX6_odds_58 ?_
      refine st_imul G 60 rfl dX6_odds_59 ?_
      refine st_iconst G 61 rfl (2 : Int32) (by decide) dX6_odds_60 ?_
      refine st_idiv G 62 rfl (by decide) dX6_odds_61 ?_
      refine st_topi (fun x3_62 ex3_62 => ?_)
      have h := h x3_62 ex3_62
      refine st_istore_n G 63 rfl [(3, .int x3_62), (0, .ref q_t), (1, .int x1), (2, .int x2)] dX6_odds_62 rfl (by decide) rfl ?_
      refine st_aload_n G 64 rfl 1 rfl dX6_odds_63 rfl ?_
      refine st_get G inX6 rfl 6 (by decide) wd_31 67 rfl 0 rfl rfl dX6_odds_64 ?_
      refine st_aload_n G 68 rfl 1 rfl dX6_odds_67 rfl ?_
      refine st_get G inX6 rfl 0 (by decide) wd_16 71 rfl 0 rfl rfl dX6_odds_68 ?_
      refine st_iload_n G 72 rfl 2 rfl dX6_odds_71 rfl ?_
      refine st_cVio G lk_X6_219 (c_X4_pairsBelow g.l g.D g.X q_t_th q_t_th_cells q_t_th_sums q_t_th_groups q_t_w q_t_w_km q_t_w_father q_t_w_mother q_t_w_from q_t_w_spoons q_t_w_owed q_t_w_tape q_t_w_tx0 q_t_w_tx1 q_t_w_waiting w_people w_year w_z w_bytes w_waits w_spoons x1 _ h) ⟨rfl, rfl, ⟨Nat.le_of_ble_eq_true rfl, Nat.le_of_ble_eq_true rfl⟩, Nat.zero_le _, Nat.zero_le _⟩ 75 rfl [4, 1, 2] rfl (by decide) 0 4 rfl rfl rfl (Nat.le_of_ble_eq_true rfl) rfl dX6_odds_72 (fun r_72 h => ?_)
      refine st_istore G 77 rfl [(4, .int r_72), (3, .int x3_62), (0, .ref q_t), (1, .int x1), (2, .int x2)] dX6_odds_75 (by decide) rfl ?_
      refine st_iload G 79 rfl 0 rfl dX6_odds_77 ?_
      refine st_iload_n G 80 rfl 1 rfl dX6_odds_79 rfl ?_
      refine st_cSio G lk_X6_222 (c_X6_commonDivisor g.l g.D g.X r_72 x3_62 _ h) ⟨rfl, rfl, ⟨Nat.le_of_ble_eq_true rfl, Nat.le_of_ble_eq_true rfl⟩, Nat.zero_le _, Nat.zero_le _⟩ 83 rfl [] rfl (by decide) rfl (Nat.le_of_ble_eq_true rfl) rfl dX6_odds_80 (fun r_80 h => ?_)
      refine st_istore G 85 rfl [(5, .int r_80), (4, .int r_72), (3, .int x3_62), (0, .ref q_t), (1, .int x1), (2, .int x2)] dX6_odds_83 (by decide) rfl ?_
      refine st_iload_n G 86 rfl 5 rfl dX6_odds_85 rfl ?_
      refine st_if_ne G 97 89 rfl dX6_odds_86 rfl (fun c => ?_) (fun c => ?_)
      · have h := h.1 c
        refine st_iload_n G 98 rfl 2 rfl dX6_odds_97 rfl ?_
        refine st_iload G 100 rfl 0 rfl dX6_odds_98 ?_
        obtain ⟨hne, h⟩ := h
        refine st_idiv G 101 rfl hne dX6_odds_100 ?_
        exact R _ _ _ _ dX6_odds_101 (Nat.le_of_ble_eq_true rfl) ⟨_, h, rfl⟩
      have h := h.2 c
      refine st_iload G 91 rfl 1 rfl dX6_odds_89 ?_
      refine st_iload G 93 rfl 0 rfl dX6_odds_91 ?_
      obtain ⟨hne, h⟩ := h
      refine st_idiv G 94 rfl hne dX6_odds_93 ?_
      refine st_goto G 101 dX6_odds_94 rfl ?_
      exact R _ _ _ _ dX6_odds_101 (Nat.le_of_ble_eq_true rfl) ⟨_, h, rfl⟩
    have h := h.2 c
    refine st_aload_n G 38 rfl 0 rfl dX6_odds_37 rfl ?_
    refine st_iconst G 39 rfl (3 : Int32) (by decide) dX6_odds_38 ?_
    refine st_cVi G lk_X6_55 (c_X6_error g.l g.D g.X q_t q_t_w q_t_k q_t_errors q_t_sheets q_t_r q_t_th q_t_sp c_images c_errors (3 : Int32) _ h) ⟨rfl, rfl, ⟨Nat.le_of_ble_eq_true rfl, Nat.le_of_ble_eq_true rfl⟩, Nat.zero_le _, Nat.zero_le _⟩ 42 rfl [0, 3] rfl (by decide) 0 6 rfl rfl rfl (Nat.le_of_ble_eq_true rfl) rfl dX6_odds_39 (fun r_39 w hq => ?_)
    obtain ⟨c_errors_39, h, rfl⟩ := hq
    refine st_wp (ws' := [(q_t, .inr (6, [.ref q_t_w, .ref q_t_k, .int c_images, .ref q_t_errors, .ref q_t_sheets, .ref q_t_r, .ref q_t_th, .ref q_t_sp])), (q_t_w, .inr (5, [.int w_people, .ref q_t_w_km, .ref q_t_w_father, .ref q_t_w_mother, .ref q_t_w_from, .ref q_t_w_spoons, .ref q_t_w_owed, .int w_year, .int w_z, .ref q_t_w_tape, .int w_bytes, .ref q_t_w_tx0, .ref q_t_w_tx1, .ref q_t_w_waiting, .int w_waits])), (q_t_w_spoons, .inl (g.X.cI, 40, .inl w_spoons)), (q_t_errors, .inl (g.X.cI, 7, .inl c_errors_39)), (q_t_th, .inr (4, [.ref q_t_th_cells, .ref q_t_th_sums, .ref q_t_th_groups]))]) 5 [1, 2, 4] (by decide) rfl rfl (by rfl) [(q_t_w, .inr (5, [.int w_people, .ref q_t_w_km, .ref q_t_w_father, .ref q_t_w_mother, .ref q_t_w_from, .ref q_t_w_spoons, .ref q_t_w_owed, .int w_year, .int w_z, .ref q_t_w_tape, .int w_bytes, .ref q_t_w_tx0, .ref q_t_w_tx1, .ref q_t_w_waiting, .int w_waits])), (q_t_w_spoons, .inl (g.X.cI, 40, .inl w_spoons)), (q_t_th, .inr (4, [.ref q_t_th_cells, .ref q_t_th_sums, .ref q_t_th_groups]))] (by rfl) rfl ?_
    exact R _ _ _ _ dX6_odds_42 (Nat.le_of_ble_eq_true rfl) ⟨_, h, rfl⟩
  have h := h.2 c
  refine st_aload_n G 21 rfl 0 rfl dX6_odds_20 rfl ?_
  refine st_iconst G 22 rfl (1 : Int32) (by decide) dX6_odds_21 ?_
  refine st_cVi G lk_X6_55 (c_X6_error g.l g.D g.X q_t q_t_w q_t_k q_t_errors q_t_sheets q_t_r q_t_th q_t_sp c_images c_errors (1 : Int32) _ h) ⟨rfl, rfl, ⟨Nat.le_of_ble_eq_true rfl, Nat.le_of_ble_eq_true rfl⟩, Nat.zero_le _, Nat.zero_le _⟩ 25 rfl [0, 3] rfl (by decide) 0 6 rfl rfl rfl (Nat.le_of_ble_eq_true rfl) rfl dX6_odds_22 (fun r_22 w hq => ?_)
  obtain ⟨c_errors_22, h, rfl⟩ := hq
  refine st_wp (ws' := [(q_t, .inr (6, [.ref q_t_w, .ref q_t_k, .int c_images, .ref q_t_errors, .ref q_t_sheets, .ref q_t_r, .ref q_t_th, .ref q_t_sp])), (q_t_w, .inr (5, [.int w_people, .ref q_t_w_km, .ref q_t_w_father, .ref q_t_w_mother, .ref q_t_w_from, .ref q_t_w_spoons, .ref q_t_w_owed, .int w_year, .int w_z, .ref q_t_w_tape, .int w_bytes, .ref q_t_w_tx0, .ref q_t_w_tx1, .ref q_t_w_waiting, .int w_waits])), (q_t_w_spoons, .inl (g.X.cI, 40, .inl w_spoons)), (q_t_errors, .inl (g.X.cI, 7, .inl c_errors_22)), (q_t_th, .inr (4, [.ref q_t_th_cells, .ref q_t_th_sums, .ref q_t_th_groups]))]) 5 [1, 2, 4] (by decide) rfl rfl (by rfl) [(q_t_w, .inr (5, [.int w_people, .ref q_t_w_km, .ref q_t_w_father, .ref q_t_w_mother, .ref q_t_w_from, .ref q_t_w_spoons, .ref q_t_w_owed, .int w_year, .int w_z, .ref q_t_w_tape, .int w_bytes, .ref q_t_w_tx0, .ref q_t_w_tx1, .ref q_t_w_waiting, .int w_waits])), (q_t_w_spoons, .inl (g.X.cI, 40, .inl w_spoons)), (q_t_th, .inr (4, [.ref q_t_th_cells, .ref q_t_th_sums, .ref q_t_th_groups]))] (by rfl) rfl ?_
  exact R _ _ _ _ dX6_odds_25 (Nat.le_of_ble_eq_true rfl) ⟨_, h, rfl⟩
set_option maxRecDepth 100000 in
set_option maxHeartbeats 4000000 in
theorem c_X6_odds (l : Launch) (D : va_G) (X : XT) (q_t q_t_w q_t_w_km q_t_w_father q_t_w_mother q_t_w_from q_t_w_spoons q_t_w_owed q_t_w_tape q_t_w_tx0 q_t_w_tx1 q_t_w_waiting q_t_k q_t_errors q_t_sheets q_t_r q_t_th q_t_th_cells q_t_th_sums q_t_th_groups q_t_sp : Nat) (c_images : Int32) (w_people : Int32) (w_year : Int32) (w_z : Int32) (w_bytes : Int32) (w_waits : Int32) (w_spoons : Nat → Int32) (c_errors : Nat → Int32) (x1 : Int32) (x2 : Int32) (Q : Int32 → (Nat → Int32) → Prop) (h : wp_X6_odds x1 x2 w_people w_spoons c_errors Q) : CTi l D X yX6_odds cX6_odds 6 .int rm_X6_odds [.ref q_t, .int x1, .int x2] [(q_t, .inr (6, [.ref q_t_w, .ref q_t_k, .int c_images, .ref q_t_errors, .ref q_t_sheets, .ref q_t_r, .ref q_t_th, .ref q_t_sp])), (q_t_w, .inr (5, [.int w_people, .ref q_t_w_km, .ref q_t_w_father, .ref q_t_w_mother, .ref q_t_w_from, .ref q_t_w_spoons, .ref q_t_w_owed, .int w_year, .int w_z, .ref q_t_w_tape, .int w_bytes, .ref q_t_w_tx0, .ref q_t_w_tx1, .ref q_t_w_waiting, .int w_waits])), (q_t_w_spoons, .inl (X.cI, 40, .inl w_spoons)), (q_t_errors, .inl (X.cI, 7, .inl c_errors)), (q_t_th, .inr (4, [.ref q_t_th_cells, .ref q_t_th_sums, .ref q_t_th_groups]))] (fun (r : Int32) w => ∃ (c_errors' : Nat → Int32), Q r c_errors' ∧ w = [(q_t, .inr (6, [.ref q_t_w, .ref q_t_k, .int c_images, .ref q_t_errors, .ref q_t_sheets, .ref q_t_r, .ref q_t_th, .ref q_t_sp])), (q_t_w, .inr (5, [.int w_people, .ref q_t_w_km, .ref q_t_w_father, .ref q_t_w_mother, .ref q_t_w_from, .ref q_t_w_spoons, .ref q_t_w_owed, .int w_year, .int w_z, .ref q_t_w_tape, .int w_bytes, .ref q_t_w_tx0, .ref q_t_w_tx1, .ref q_t_w_waiting, .int w_waits])), (q_t_w_spoons, .inl (X.cI, 40, .inl w_spoons)), (q_t_errors, .inl (X.cI, 7, .inl c_errors')), (q_t_th, .inr (4, [.ref q_t_th_cells, .ref q_t_th_sums, .ref q_t_th_groups]))]) :=
  ct_i (by decide) (Nat.le_of_ble_eq_true rfl) (fun g hl hD hX G R => by subst hl; subst hD; subst hX; exact b_X6_odds_e G R h)
set_option maxRecDepth 100000 in
set_option maxHeartbeats 4000000 in
theorem b_X6_notSheet_e {g : GT} (G : GOOD g RX6 cX6_notSheet 1 rm_X6_notSheet) {x0 : Int32} {Q : Int32 → Prop} (R : RETz g cX6_notSheet 0 (fun (r : Int32) w => (Q r) ∧ w = [])) (h : wp_X6_notSheet x0 Q) : ST g 0 0 0 [(0, .int x0)] [] [] := by
  unfold wp_X6_notSheet at h
  refine st_iload_n G 1 rfl 0 rfl dX6_notSheet_0 rfl ?_
  refine st_iconst G 2 rfl (0 : Int32) (by decide) dX6_notSheet_1 ?_
  refine st_iconst G 3 rfl (3 : Int32) (by decide) dX6_notSheet_2 ?_
  refine st_cSio G lk_X6_115 (c_X6_notWithin g.l g.D g.X x0 (0 : Int32) (3 : Int32) _ h) ⟨rfl, rfl, ⟨Nat.le_of_ble_eq_true rfl, Nat.le_of_ble_eq_true rfl⟩, Nat.zero_le _, Nat.zero_le _⟩ 6 rfl [] rfl (by decide) rfl (Nat.le_of_ble_eq_true rfl) rfl dX6_notSheet_3 (fun r_3 h => ?_)
  obtain ⟨hbz, h⟩ := h
  exact R _ _ _ _ dX6_notSheet_6 (Nat.le_of_ble_eq_true rfl) hbz ⟨h, rfl⟩
set_option maxRecDepth 100000 in
set_option maxHeartbeats 4000000 in
theorem c_X6_notSheet (l : Launch) (D : va_G) (X : XT) (x0 : Int32) (Q : Int32 → Prop) (h : wp_X6_notSheet x0 Q) : CTi l D X yX6_notSheet cX6_notSheet 1 .boolean rm_X6_notSheet [.int x0] [] (fun (r : Int32) w => (Q r) ∧ w = []) :=
  ct_z (by decide) (Nat.le_of_ble_eq_true rfl) (fun g hl hD hX G R => by subst hl; subst hD; subst hX; exact b_X6_notSheet_e G R h)
set_option maxRecDepth 100000 in
set_option maxHeartbeats 4000000 in
theorem b_X1_missing_e {g : GT} (G : GOOD g RX1 cX1_missing 1 rm_X1_missing) {q_t q_t_numbers : Nat} {c_bits : Int32} {c_length : Int32} {Q : Int32 → Prop} (R : RETz g cX1_missing 1 (fun (r : Int32) w => (Q r) ∧ w = [(q_t, .inr (1, [.ref q_t_numbers, .int c_bits, .int c_length]))])) (h : wp_X1_missing c_bits Q) : ST g 0 0 0 [(0, .ref q_t)] [] [(q_t, .inr (1, [.ref q_t_numbers, .int c_bits, .int c_length]))] := by
  unfold wp_X1_missing at h
  refine st_aload_n G 1 rfl 0 rfl dX1_missing_0 rfl ?_
  refine st_get G inX1 rfl 1 (by decide) wd_776 4 rfl 0 rfl rfl dX1_missing_1 ?_
  refine st_if_ne G 11 7 rfl dX1_missing_4 rfl (fun c => ?_) (fun c => ?_)
  · have h := h.1 c
    refine st_iconst G 12 rfl (0 : Int32) (by decide) dX1_missing_11 ?_
    exact R _ _ _ _ dX1_missing_12 (Nat.le_of_ble_eq_true rfl) rfl ⟨h, rfl⟩
  have h := h.2 c
  refine st_iconst G 8 rfl (1 : Int32) (by decide) dX1_missing_7 ?_
  refine st_goto G 12 dX1_missing_8 rfl ?_
  exact R _ _ _ _ dX1_missing_12 (Nat.le_of_ble_eq_true rfl) rfl ⟨h, rfl⟩
set_option maxRecDepth 100000 in
set_option maxHeartbeats 4000000 in
theorem c_X1_missing (l : Launch) (D : va_G) (X : XT) (q_t q_t_numbers : Nat) (c_bits : Int32) (c_length : Int32) (Q : Int32 → Prop) (h : wp_X1_missing c_bits Q) : CTi l D X yX1_missing cX1_missing 1 .boolean rm_X1_missing [.ref q_t] [(q_t, .inr (1, [.ref q_t_numbers, .int c_bits, .int c_length]))] (fun (r : Int32) w => (Q r) ∧ w = [(q_t, .inr (1, [.ref q_t_numbers, .int c_bits, .int c_length]))]) :=
  ct_z (by decide) (Nat.le_of_ble_eq_true rfl) (fun g hl hD hX G R => by subst hl; subst hD; subst hX; exact b_X1_missing_e G R h)
set_option maxRecDepth 100000 in
set_option maxHeartbeats 4000000 in
theorem b_X4_fitsSet_24 {g : GT} (G : GOOD g RX4 cX4_fitsSet 7 rm_X4_fitsSet) {q_t q_t_cells q_t_sums q_t_groups q_a1 q_a1_km q_a1_father q_a1_mother q_a1_from q_a1_spoons q_a1_owed q_a1_tape q_a1_tx0 q_a1_tx1 q_a1_waiting q_a2 q_a2_numbers : Nat} {a1_people : Int32} {a1_year : Int32} {a1_z : Int32} {a1_bytes : Int32} {a1_waits : Int32} {a1_spoons : Nat → Int32} {a2_bits : Int32} {a2_length : Int32} {a2_numbers : Nat → Int32} {Q : Int32 → Prop} {KK3 : (Int32) → (Int32) → Prop} (R : RETz g cX4_fitsSet 5 (fun (r : Int32) w => (Q r) ∧ w = [(q_t, .inr (4, [.ref q_t_cells, .ref q_t_sums, .ref q_t_groups])), (q_a1, .inr (5, [.int a1_people, .ref q_a1_km, .ref q_a1_father, .ref q_a1_mother, .ref q_a1_from, .ref q_a1_spoons, .ref q_a1_owed, .int a1_year, .int a1_z, .ref q_a1_tape, .int a1_bytes, .ref q_a1_tx0, .ref q_a1_tx1, .ref q_a1_waiting, .int a1_waits])), (q_a1_spoons, .inl (g.X.cI, 40, .inl a1_spoons)), (q_a2, .inr (1, [.ref q_a2_numbers, .int a2_bits, .int a2_length])), (q_a2_numbers, .inl (g.X.cI, 24, .inl a2_numbers))])) (hK3 : ∀ (x3 : Int32) (x4 : Int32), KK3 x3 x4 → ST g 0 0 3 [(1, .ref q_a1), (2, .ref q_a2), (3, .int x3), (4, .int x4)] [] [(q_t, .inr (4, [.ref q_t_cells, .ref q_t_sums, .ref q_t_groups])), (q_a1, .inr (5, [.int a1_people, .ref q_a1_km, .ref q_a1_father, .ref q_a1_mother, .ref q_a1_from, .ref q_a1_spoons, .ref q_a1_owed, .int a1_year, .int a1_z, .ref q_a1_tape, .int a1_bytes, .ref q_a1_tx0, .ref q_a1_tx1, .ref q_a1_waiting, .int a1_waits])), (q_a1_spoons, .inl (g.X.cI, 40, .inl a1_spoons)), (q_a2, .inr (1, [.ref q_a2_numbers, .int a2_bits, .int a2_length])), (q_a2_numbers, .inl (g.X.cI, 24, .inl a2_numbers))]) : ∀ (n : Nat) (x3 : Int32) (x4 : Int32) (x5 : Int32) (x6 : Int32), wp_X4_fitsSet_b24 Q KK3 a1_people a1_spoons a2_length a2_numbers n x3 x4 x5 x6 → ST g 0 0 24 [(1, .ref q_a1), (2, .ref q_a2), (3, .int x3), (4, .int x4), (5, .int x5), (6, .int x6)] [] [(q_t, .inr (4, [.ref q_t_cells, .ref q_t_sums, .ref q_t_groups])), (q_a1, .inr (5, [.int a1_people, .ref q_a1_km, .ref q_a1_father, .ref q_a1_mother, .ref q_a1_from, .ref q_a1_spoons, .ref q_a1_owed, .int a1_year, .int a1_z, .ref q_a1_tape, .int a1_bytes, .ref q_a1_tx0, .ref q_a1_tx1, .ref q_a1_waiting, .int a1_waits])), (q_a1_spoons, .inl (g.X.cI, 40, .inl a1_spoons)), (q_a2, .inr (1, [.ref q_a2_numbers, .int a2_bits, .int a2_length])), (q_a2_numbers, .inl (g.X.cI, 24, .inl a2_numbers))] := by
  intro n
  induction n with
  | zero => intro x3 x4 x5 x6 h; exact False.elim h
  | succ n hK24 =>
    intro x3 x4 x5 x6 h
    unfold wp_X4_fitsSet_b24 at h
    refine st_iload G 26 rfl 5 rfl dX4_fitsSet_24 ?_
    refine st_aload_n G 27 rfl 0 rfl dX4_fitsSet_26 rfl ?_
    refine st_get G inX5 rfl 0 (by decide) wd_660 30 rfl 1 rfl rfl dX4_fitsSet_27 ?_
    refine st_icmp_ge G 66 33 rfl dX4_fitsSet_30 rfl (fun c => ?_) (fun c => ?_)
    · have h := h.1 c
      refine st_iload G 68 rfl 4 rfl dX4_fitsSet_66 ?_
      refine st_aload_n G 69 rfl 1 rfl dX4_fitsSet_68 rfl ?_
      refine st_get G inX1 rfl 0 (by decide) wd_786 72 rfl 3 rfl rfl dX4_fitsSet_69 ?_
      refine st_iload G 74 rfl 3 rfl dX4_fitsSet_72 ?_
      obtain ⟨hin, h⟩ := h
      refine st_iald G 75 rfl 4 rfl hin dX4_fitsSet_74 ?_
      refine st_icmp_eq G 80 78 rfl dX4_fitsSet_75 rfl (fun c => ?_) (fun c => ?_)
      · have h := h.1 c
        obtain ⟨x4_80, ex4_80⟩ : ∃ y : Int32, y = (x4 + (1 : Int32)) := ⟨_, rfl⟩
        have h := h x4_80 ex4_80
        refine st_iinc G 83 rfl [(4, .int x4_80), (1, .ref q_a1), (2, .ref q_a2), (3, .int x3), (5, .int x5), (6, .int x6)] x4_80 3 rfl (by rw [ex4_80]; rfl) dX4_fitsSet_80 (by decide) rfl ?_
        refine st_goto G 3 dX4_fitsSet_83 rfl ?_
        refine st_L (L' := [(1, .ref q_a1), (2, .ref q_a2), (3, .int x3), (4, .int x4_80)]) [1, 2, 3, 0] rfl ?_
        exact hK3 _ _ h
      have h := h.2 c
      refine st_iconst G 79 rfl (0 : Int32) (by decide) dX4_fitsSet_78 ?_
      exact R _ _ _ _ dX4_fitsSet_79 (Nat.le_of_ble_eq_true rfl) rfl ⟨h, rfl⟩
    have h := h.2 c
    refine st_iload_n G 34 rfl 2 rfl dX4_fitsSet_33 rfl ?_
    refine st_iload G 36 rfl 5 rfl dX4_fitsSet_34 ?_
    refine st_ishr G 37 rfl dX4_fitsSet_36 ?_
    refine st_iconst G 38 rfl (1 : Int32) (by decide) dX4_fitsSet_37 ?_
    refine st_iand G 39 rfl dX4_fitsSet_38 ?_
    refine st_iconst G 40 rfl (1 : Int32) (by decide) dX4_fitsSet_39 ?_
    refine st_icmp_ne G 60 43 rfl dX4_fitsSet_40 rfl (fun c => ?_) (fun c => ?_)
    · have h := h.1 c
      obtain ⟨x6_60, ex6_60⟩ : ∃ y : Int32, y = (x6 + (1 : Int32)) := ⟨_, rfl⟩
      have h := h x6_60 ex6_60
      refine st_iinc G 63 rfl [(6, .int x6_60), (1, .ref q_a1), (2, .ref q_a2), (3, .int x3), (4, .int x4), (5, .int x5)] x6_60 5 rfl (by rw [ex6_60]; rfl) dX4_fitsSet_60 (by decide) rfl ?_
      refine st_goto G 24 dX4_fitsSet_63 rfl ?_
      refine st_L (L' := [(1, .ref q_a1), (2, .ref q_a2), (3, .int x3), (4, .int x4), (5, .int x5), (6, .int x6_60)]) [1, 2, 3, 4, 5, 0] rfl ?_
      exact hK24 _ _ _ _ h
    have h := h.2 c
    refine st_iload G 45 rfl 4 rfl dX4_fitsSet_43 ?_
    refine st_aload_n G 46 rfl 0 rfl dX4_fitsSet_45 rfl ?_
    refine st_get G inX5 rfl 5 (by decide) wd_636 49 rfl 1 rfl rfl dX4_fitsSet_46 ?_
    refine st_iload G 51 rfl 5 rfl dX4_fitsSet_49 ?_
    refine st_iload G 53 rfl 3 rfl dX4_fitsSet_51 ?_
    refine st_cNio G lk_X4_26 (c_X6_cell g.l g.D g.X x6 x4 _ h) ⟨rfl, rfl, ⟨Nat.le_of_ble_eq_true rfl, Nat.le_of_ble_eq_true rfl⟩, Nat.zero_le _, Nat.zero_le _⟩ 56 rfl [] rfl (by decide) rfl (Nat.le_of_ble_eq_true rfl) rfl dX4_fitsSet_53 (fun r_53 h => ?_)
    obtain ⟨hin, h⟩ := h
    refine st_iald G 57 rfl 2 rfl hin dX4_fitsSet_56 ?_
    refine st_iadd G 58 rfl dX4_fitsSet_57 ?_
    refine st_topi (fun x5_58 ex5_58 => ?_)
    have h := h x5_58 ex5_58
    refine st_istore G 60 rfl [(5, .int x5_58), (1, .ref q_a1), (2, .ref q_a2), (3, .int x3), (4, .int x4), (6, .int x6)] dX4_fitsSet_58 (by decide) rfl ?_
    obtain ⟨x6_60, ex6_60⟩ : ∃ y : Int32, y = (x6 + (1 : Int32)) := ⟨_, rfl⟩
    have h := h x6_60 ex6_60
    refine st_iinc G 63 rfl [(6, .int x6_60), (5, .int x5_58), (1, .ref q_a1), (2, .ref q_a2), (3, .int x3), (4, .int x4)] x6_60 5 rfl (by rw [ex6_60]; rfl) dX4_fitsSet_60 (by decide) rfl ?_
    refine st_goto G 24 dX4_fitsSet_63 rfl ?_
    refine st_L (L' := [(1, .ref q_a1), (2, .ref q_a2), (3, .int x3), (4, .int x4), (5, .int x5_58), (6, .int x6_60)]) [2, 3, 4, 5, 1, 0] rfl ?_
    exact hK24 _ _ _ _ h
set_option maxRecDepth 100000 in
set_option maxHeartbeats 4000000 in
theorem b_X4_fitsSet_3 {g : GT} (G : GOOD g RX4 cX4_fitsSet 7 rm_X4_fitsSet) {q_t q_t_cells q_t_sums q_t_groups q_a1 q_a1_km q_a1_father q_a1_mother q_a1_from q_a1_spoons q_a1_owed q_a1_tape q_a1_tx0 q_a1_tx1 q_a1_waiting q_a2 q_a2_numbers : Nat} {a1_people : Int32} {a1_year : Int32} {a1_z : Int32} {a1_bytes : Int32} {a1_waits : Int32} {a1_spoons : Nat → Int32} {a2_bits : Int32} {a2_length : Int32} {a2_numbers : Nat → Int32} {Q : Int32 → Prop} (R : RETz g cX4_fitsSet 5 (fun (r : Int32) w => (Q r) ∧ w = [(q_t, .inr (4, [.ref q_t_cells, .ref q_t_sums, .ref q_t_groups])), (q_a1, .inr (5, [.int a1_people, .ref q_a1_km, .ref q_a1_father, .ref q_a1_mother, .ref q_a1_from, .ref q_a1_spoons, .ref q_a1_owed, .int a1_year, .int a1_z, .ref q_a1_tape, .int a1_bytes, .ref q_a1_tx0, .ref q_a1_tx1, .ref q_a1_waiting, .int a1_waits])), (q_a1_spoons, .inl (g.X.cI, 40, .inl a1_spoons)), (q_a2, .inr (1, [.ref q_a2_numbers, .int a2_bits, .int a2_length])), (q_a2_numbers, .inl (g.X.cI, 24, .inl a2_numbers))])) : ∀ (n : Nat) (x3 : Int32) (x4 : Int32), wp_X4_fitsSet_b3 Q a1_people a1_spoons a2_length a2_numbers n x3 x4 → ST g 0 0 3 [(1, .ref q_a1), (2, .ref q_a2), (3, .int x3), (4, .int x4)] [] [(q_t, .inr (4, [.ref q_t_cells, .ref q_t_sums, .ref q_t_groups])), (q_a1, .inr (5, [.int a1_people, .ref q_a1_km, .ref q_a1_father, .ref q_a1_mother, .ref q_a1_from, .ref q_a1_spoons, .ref q_a1_owed, .int a1_year, .int a1_z, .ref q_a1_tape, .int a1_bytes, .ref q_a1_tx0, .ref q_a1_tx1, .ref q_a1_waiting, .int a1_waits])), (q_a1_spoons, .inl (g.X.cI, 40, .inl a1_spoons)), (q_a2, .inr (1, [.ref q_a2_numbers, .int a2_bits, .int a2_length])), (q_a2_numbers, .inl (g.X.cI, 24, .inl a2_numbers))] := by
  intro n
  induction n with
  | zero => intro x3 x4 h; exact False.elim h
  | succ n hK3 =>
    intro x3 x4 h
    unfold wp_X4_fitsSet_b3 at h
    refine st_iload G 5 rfl 3 rfl dX4_fitsSet_3 ?_
    refine st_aload_n G 6 rfl 1 rfl dX4_fitsSet_5 rfl ?_
    refine st_get G inX1 rfl 2 (by decide) wd_785 9 rfl 3 rfl rfl dX4_fitsSet_6 ?_
    refine st_icmp_ge G 86 12 rfl dX4_fitsSet_9 rfl (fun c => ?_) (fun c => ?_)
    · have h := h.1 c
      refine st_iconst G 87 rfl (1 : Int32) (by decide) dX4_fitsSet_86 ?_
      exact R _ _ _ _ dX4_fitsSet_87 (Nat.le_of_ble_eq_true rfl) rfl ⟨h, rfl⟩
    have h := h.2 c
    refine st_iload G 14 rfl 3 rfl dX4_fitsSet_12 ?_
    refine st_iconst G 15 rfl (5 : Int32) (by decide) dX4_fitsSet_14 ?_
    refine st_icmp_ge G 86 18 rfl dX4_fitsSet_15 rfl (fun c => ?_) (fun c => ?_)
    · have h := h.1 c
      refine st_iconst G 87 rfl (1 : Int32) (by decide) dX4_fitsSet_86 ?_
      exact R _ _ _ _ dX4_fitsSet_87 (Nat.le_of_ble_eq_true rfl) rfl ⟨h, rfl⟩
    have h := h.2 c
    refine st_iconst G 19 rfl (0 : Int32) (by decide) dX4_fitsSet_18 ?_
    refine st_istore G 21 rfl [(5, .int (0 : Int32)), (1, .ref q_a1), (2, .ref q_a2), (3, .int x3), (4, .int x4)] dX4_fitsSet_19 (by decide) rfl ?_
    refine st_iconst G 22 rfl (0 : Int32) (by decide) dX4_fitsSet_21 ?_
    refine st_istore G 24 rfl [(6, .int (0 : Int32)), (5, .int (0 : Int32)), (1, .ref q_a1), (2, .ref q_a2), (3, .int x3), (4, .int x4)] dX4_fitsSet_22 (by decide) rfl ?_
    refine st_L (L' := [(1, .ref q_a1), (2, .ref q_a2), (3, .int x3), (4, .int x4), (5, .int (0 : Int32)), (6, .int (0 : Int32))]) [2, 3, 4, 5, 1, 0] rfl ?_
    obtain ⟨n, h⟩ := h
    exact b_X4_fitsSet_24 G R hK3 n _ _ _ _ h
set_option maxRecDepth 100000 in
set_option maxHeartbeats 4000000 in
theorem b_X4_fitsSet_e {g : GT} (G : GOOD g RX4 cX4_fitsSet 7 rm_X4_fitsSet) {q_t q_t_cells q_t_sums q_t_groups q_a1 q_a1_km q_a1_father q_a1_mother q_a1_from q_a1_spoons q_a1_owed q_a1_tape q_a1_tx0 q_a1_tx1 q_a1_waiting q_a2 q_a2_numbers : Nat} {a1_people : Int32} {a1_year : Int32} {a1_z : Int32} {a1_bytes : Int32} {a1_waits : Int32} {a1_spoons : Nat → Int32} {a2_bits : Int32} {a2_length : Int32} {a2_numbers : Nat → Int32} {x3 : Int32} {Q : Int32 → Prop} (R : RETz g cX4_fitsSet 5 (fun (r : Int32) w => (Q r) ∧ w = [(q_t, .inr (4, [.ref q_t_cells, .ref q_t_sums, .ref q_t_groups])), (q_a1, .inr (5, [.int a1_people, .ref q_a1_km, .ref q_a1_father, .ref q_a1_mother, .ref q_a1_from, .ref q_a1_spoons, .ref q_a1_owed, .int a1_year, .int a1_z, .ref q_a1_tape, .int a1_bytes, .ref q_a1_tx0, .ref q_a1_tx1, .ref q_a1_waiting, .int a1_waits])), (q_a1_spoons, .inl (g.X.cI, 40, .inl a1_spoons)), (q_a2, .inr (1, [.ref q_a2_numbers, .int a2_bits, .int a2_length])), (q_a2_numbers, .inl (g.X.cI, 24, .inl a2_numbers))])) (h : wp_X4_fitsSet x3 a1_people a1_spoons a2_length a2_numbers Q) : ST g 0 0 0 [(0, .ref q_t), (1, .ref q_a1), (2, .ref q_a2), (3, .int x3)] [] [(q_t, .inr (4, [.ref q_t_cells, .ref q_t_sums, .ref q_t_groups])), (q_a1, .inr (5, [.int a1_people, .ref q_a1_km, .ref q_a1_father, .ref q_a1_mother, .ref q_a1_from, .ref q_a1_spoons, .ref q_a1_owed, .int a1_year, .int a1_z, .ref q_a1_tape, .int a1_bytes, .ref q_a1_tx0, .ref q_a1_tx1, .ref q_a1_waiting, .int a1_waits])), (q_a1_spoons, .inl (g.X.cI, 40, .inl a1_spoons)), (q_a2, .inr (1, [.ref q_a2_numbers, .int a2_bits, .int a2_length])), (q_a2_numbers, .inl (g.X.cI, 24, .inl a2_numbers))] := by
  unfold wp_X4_fitsSet at h
  refine st_iconst G 1 rfl (0 : Int32) (by decide) dX4_fitsSet_0 ?_
  refine st_istore G 3 rfl [(4, .int (0 : Int32)), (0, .ref q_t), (1, .ref q_a1), (2, .ref q_a2), (3, .int x3)] dX4_fitsSet_1 (by decide) rfl ?_
  refine st_L (L' := [(1, .ref q_a1), (2, .ref q_a2), (3, .int x3), (4, .int (0 : Int32))]) [2, 3, 4, 0] rfl ?_
  obtain ⟨n, h⟩ := h
  exact b_X4_fitsSet_3 G R n _ _ h
set_option maxRecDepth 100000 in
set_option maxHeartbeats 4000000 in
theorem c_X4_fitsSet (l : Launch) (D : va_G) (X : XT) (q_t q_t_cells q_t_sums q_t_groups q_a1 q_a1_km q_a1_father q_a1_mother q_a1_from q_a1_spoons q_a1_owed q_a1_tape q_a1_tx0 q_a1_tx1 q_a1_waiting q_a2 q_a2_numbers : Nat) (a1_people : Int32) (a1_year : Int32) (a1_z : Int32) (a1_bytes : Int32) (a1_waits : Int32) (a1_spoons : Nat → Int32) (a2_bits : Int32) (a2_length : Int32) (a2_numbers : Nat → Int32) (x3 : Int32) (Q : Int32 → Prop) (h : wp_X4_fitsSet x3 a1_people a1_spoons a2_length a2_numbers Q) : CTi l D X yX4_fitsSet cX4_fitsSet 7 .boolean rm_X4_fitsSet [.ref q_t, .ref q_a1, .ref q_a2, .int x3] [(q_t, .inr (4, [.ref q_t_cells, .ref q_t_sums, .ref q_t_groups])), (q_a1, .inr (5, [.int a1_people, .ref q_a1_km, .ref q_a1_father, .ref q_a1_mother, .ref q_a1_from, .ref q_a1_spoons, .ref q_a1_owed, .int a1_year, .int a1_z, .ref q_a1_tape, .int a1_bytes, .ref q_a1_tx0, .ref q_a1_tx1, .ref q_a1_waiting, .int a1_waits])), (q_a1_spoons, .inl (X.cI, 40, .inl a1_spoons)), (q_a2, .inr (1, [.ref q_a2_numbers, .int a2_bits, .int a2_length])), (q_a2_numbers, .inl (X.cI, 24, .inl a2_numbers))] (fun (r : Int32) w => (Q r) ∧ w = [(q_t, .inr (4, [.ref q_t_cells, .ref q_t_sums, .ref q_t_groups])), (q_a1, .inr (5, [.int a1_people, .ref q_a1_km, .ref q_a1_father, .ref q_a1_mother, .ref q_a1_from, .ref q_a1_spoons, .ref q_a1_owed, .int a1_year, .int a1_z, .ref q_a1_tape, .int a1_bytes, .ref q_a1_tx0, .ref q_a1_tx1, .ref q_a1_waiting, .int a1_waits])), (q_a1_spoons, .inl (X.cI, 40, .inl a1_spoons)), (q_a2, .inr (1, [.ref q_a2_numbers, .int a2_bits, .int a2_length])), (q_a2_numbers, .inl (X.cI, 24, .inl a2_numbers))]) :=
  ct_z (by decide) (Nat.le_of_ble_eq_true rfl) (fun g hl hD hX G R => by subst hl; subst hD; subst hX; exact b_X4_fitsSet_e G R h)
set_option maxRecDepth 100000 in
set_option maxHeartbeats 4000000 in
theorem b_X4_setsThatFit_5 {g : GT} (G : GOOD g RX4 cX4_setsThatFit 5 rm_X4_setsThatFit) {q_t q_t_cells q_t_sums q_t_groups q_a1 q_a1_km q_a1_father q_a1_mother q_a1_from q_a1_spoons q_a1_owed q_a1_tape q_a1_tx0 q_a1_tx1 q_a1_waiting q_a2 q_a2_numbers : Nat} {a1_people : Int32} {a1_year : Int32} {a1_z : Int32} {a1_bytes : Int32} {a1_waits : Int32} {a1_spoons : Nat → Int32} {a2_bits : Int32} {a2_length : Int32} {a2_numbers : Nat → Int32} {Q : Int32 → Prop} (R : RETi g cX4_setsThatFit 5 (fun (r : Int32) w => (Q r) ∧ w = [(q_t, .inr (4, [.ref q_t_cells, .ref q_t_sums, .ref q_t_groups])), (q_a1, .inr (5, [.int a1_people, .ref q_a1_km, .ref q_a1_father, .ref q_a1_mother, .ref q_a1_from, .ref q_a1_spoons, .ref q_a1_owed, .int a1_year, .int a1_z, .ref q_a1_tape, .int a1_bytes, .ref q_a1_tx0, .ref q_a1_tx1, .ref q_a1_waiting, .int a1_waits])), (q_a1_spoons, .inl (g.X.cI, 40, .inl a1_spoons)), (q_a2, .inr (1, [.ref q_a2_numbers, .int a2_bits, .int a2_length])), (q_a2_numbers, .inl (g.X.cI, 24, .inl a2_numbers))])) : ∀ (n : Nat) (x3 : Int32) (x4 : Int32), wp_X4_setsThatFit_b5 Q a1_people a1_spoons a2_length a2_numbers n x3 x4 → ST g 0 0 5 [(0, .ref q_t), (1, .ref q_a1), (2, .ref q_a2), (3, .int x3), (4, .int x4)] [] [(q_t, .inr (4, [.ref q_t_cells, .ref q_t_sums, .ref q_t_groups])), (q_a1, .inr (5, [.int a1_people, .ref q_a1_km, .ref q_a1_father, .ref q_a1_mother, .ref q_a1_from, .ref q_a1_spoons, .ref q_a1_owed, .int a1_year, .int a1_z, .ref q_a1_tape, .int a1_bytes, .ref q_a1_tx0, .ref q_a1_tx1, .ref q_a1_waiting, .int a1_waits])), (q_a1_spoons, .inl (g.X.cI, 40, .inl a1_spoons)), (q_a2, .inr (1, [.ref q_a2_numbers, .int a2_bits, .int a2_length])), (q_a2_numbers, .inl (g.X.cI, 24, .inl a2_numbers))] := by
  intro n
  induction n with
  | zero => intro x3 x4 h; exact False.elim h
  | succ n hK5 =>
    intro x3 x4 h
    unfold wp_X4_setsThatFit_b5 at h
    refine st_iload G 7 rfl 4 rfl dX4_setsThatFit_5 ?_
    refine st_iconst G 8 rfl (1 : Int32) (by decide) dX4_setsThatFit_7 ?_
    refine st_aload_n G 9 rfl 1 rfl dX4_setsThatFit_8 rfl ?_
    refine st_get G inX5 rfl 0 (by decide) wd_660 12 rfl 1 rfl rfl dX4_setsThatFit_9 ?_
    refine st_ishl G 13 rfl dX4_setsThatFit_12 ?_
    refine st_icmp_ge G 36 16 rfl dX4_setsThatFit_13 rfl (fun c => ?_) (fun c => ?_)
    · have h := h.1 c
      refine st_iload_n G 37 rfl 3 rfl dX4_setsThatFit_36 rfl ?_
      exact R _ _ _ _ dX4_setsThatFit_37 (Nat.le_of_ble_eq_true rfl) ⟨h, rfl⟩
    have h := h.2 c
    refine st_iload_n G 17 rfl 3 rfl dX4_setsThatFit_16 rfl ?_
    refine st_aload_n G 18 rfl 0 rfl dX4_setsThatFit_17 rfl ?_
    refine st_aload_n G 19 rfl 1 rfl dX4_setsThatFit_18 rfl ?_
    refine st_aload_n G 20 rfl 2 rfl dX4_setsThatFit_19 rfl ?_
    refine st_iload G 22 rfl 4 rfl dX4_setsThatFit_20 ?_
    refine st_cVio G lk_X4_93 (c_X4_fitsSet g.l g.D g.X q_t q_t_cells q_t_sums q_t_groups q_a1 q_a1_km q_a1_father q_a1_mother q_a1_from q_a1_spoons q_a1_owed q_a1_tape q_a1_tx0 q_a1_tx1 q_a1_waiting q_a2 q_a2_numbers a1_people a1_year a1_z a1_bytes a1_waits a1_spoons a2_bits a2_length a2_numbers x4 _ h) ⟨rfl, rfl, ⟨Nat.le_of_ble_eq_true rfl, Nat.le_of_ble_eq_true rfl⟩, Nat.zero_le _, Nat.zero_le _⟩ 25 rfl [0, 1, 2, 3, 4] rfl (by decide) 0 4 rfl rfl rfl (Nat.le_of_ble_eq_true rfl) rfl dX4_setsThatFit_22 (fun r_22 h => ?_)
    refine st_cNio G lk_X4_66 (c_X6_truth g.l g.D g.X r_22 _ h) ⟨rfl, rfl, ⟨Nat.le_of_ble_eq_true rfl, Nat.le_of_ble_eq_true rfl⟩, Nat.zero_le _, Nat.zero_le _⟩ 28 rfl [] rfl (by decide) rfl (Nat.le_of_ble_eq_true rfl) rfl dX4_setsThatFit_25 (fun r_25 h => ?_)
    refine st_iadd G 29 rfl dX4_setsThatFit_28 ?_
    refine st_topi (fun x3_29 ex3_29 => ?_)
    have h := h x3_29 ex3_29
    refine st_istore_n G 30 rfl [(3, .int x3_29), (0, .ref q_t), (1, .ref q_a1), (2, .ref q_a2), (4, .int x4)] dX4_setsThatFit_29 rfl (by decide) rfl ?_
    obtain ⟨x4_30, ex4_30⟩ : ∃ y : Int32, y = (x4 + (1 : Int32)) := ⟨_, rfl⟩
    have h := h x4_30 ex4_30
    refine st_iinc G 33 rfl [(4, .int x4_30), (3, .int x3_29), (0, .ref q_t), (1, .ref q_a1), (2, .ref q_a2)] x4_30 4 rfl (by rw [ex4_30]; rfl) dX4_setsThatFit_30 (by decide) rfl ?_
    refine st_goto G 5 dX4_setsThatFit_33 rfl ?_
    refine st_L (L' := [(0, .ref q_t), (1, .ref q_a1), (2, .ref q_a2), (3, .int x3_29), (4, .int x4_30)]) [2, 3, 4, 1, 0] rfl ?_
    exact hK5 _ _ h
set_option maxRecDepth 100000 in
set_option maxHeartbeats 4000000 in
theorem b_X4_setsThatFit_e {g : GT} (G : GOOD g RX4 cX4_setsThatFit 5 rm_X4_setsThatFit) {q_t q_t_cells q_t_sums q_t_groups q_a1 q_a1_km q_a1_father q_a1_mother q_a1_from q_a1_spoons q_a1_owed q_a1_tape q_a1_tx0 q_a1_tx1 q_a1_waiting q_a2 q_a2_numbers : Nat} {a1_people : Int32} {a1_year : Int32} {a1_z : Int32} {a1_bytes : Int32} {a1_waits : Int32} {a1_spoons : Nat → Int32} {a2_bits : Int32} {a2_length : Int32} {a2_numbers : Nat → Int32} {Q : Int32 → Prop} (R : RETi g cX4_setsThatFit 5 (fun (r : Int32) w => (Q r) ∧ w = [(q_t, .inr (4, [.ref q_t_cells, .ref q_t_sums, .ref q_t_groups])), (q_a1, .inr (5, [.int a1_people, .ref q_a1_km, .ref q_a1_father, .ref q_a1_mother, .ref q_a1_from, .ref q_a1_spoons, .ref q_a1_owed, .int a1_year, .int a1_z, .ref q_a1_tape, .int a1_bytes, .ref q_a1_tx0, .ref q_a1_tx1, .ref q_a1_waiting, .int a1_waits])), (q_a1_spoons, .inl (g.X.cI, 40, .inl a1_spoons)), (q_a2, .inr (1, [.ref q_a2_numbers, .int a2_bits, .int a2_length])), (q_a2_numbers, .inl (g.X.cI, 24, .inl a2_numbers))])) (h : wp_X4_setsThatFit a1_people a1_spoons a2_length a2_numbers Q) : ST g 0 0 0 [(0, .ref q_t), (1, .ref q_a1), (2, .ref q_a2)] [] [(q_t, .inr (4, [.ref q_t_cells, .ref q_t_sums, .ref q_t_groups])), (q_a1, .inr (5, [.int a1_people, .ref q_a1_km, .ref q_a1_father, .ref q_a1_mother, .ref q_a1_from, .ref q_a1_spoons, .ref q_a1_owed, .int a1_year, .int a1_z, .ref q_a1_tape, .int a1_bytes, .ref q_a1_tx0, .ref q_a1_tx1, .ref q_a1_waiting, .int a1_waits])), (q_a1_spoons, .inl (g.X.cI, 40, .inl a1_spoons)), (q_a2, .inr (1, [.ref q_a2_numbers, .int a2_bits, .int a2_length])), (q_a2_numbers, .inl (g.X.cI, 24, .inl a2_numbers))] := by
  unfold wp_X4_setsThatFit at h
  refine st_iconst G 1 rfl (0 : Int32) (by decide) dX4_setsThatFit_0 ?_
  refine st_istore_n G 2 rfl [(3, .int (0 : Int32)), (0, .ref q_t), (1, .ref q_a1), (2, .ref q_a2)] dX4_setsThatFit_1 rfl (by decide) rfl ?_
  refine st_iconst G 3 rfl (1 : Int32) (by decide) dX4_setsThatFit_2 ?_
  refine st_istore G 5 rfl [(4, .int (1 : Int32)), (3, .int (0 : Int32)), (0, .ref q_t), (1, .ref q_a1), (2, .ref q_a2)] dX4_setsThatFit_3 (by decide) rfl ?_
  refine st_L (L' := [(0, .ref q_t), (1, .ref q_a1), (2, .ref q_a2), (3, .int (0 : Int32)), (4, .int (1 : Int32))]) [2, 3, 4, 1, 0] rfl ?_
  obtain ⟨n, h⟩ := h
  exact b_X4_setsThatFit_5 G R n _ _ h
set_option maxRecDepth 100000 in
set_option maxHeartbeats 4000000 in
theorem c_X4_setsThatFit (l : Launch) (D : va_G) (X : XT) (q_t q_t_cells q_t_sums q_t_groups q_a1 q_a1_km q_a1_father q_a1_mother q_a1_from q_a1_spoons q_a1_owed q_a1_tape q_a1_tx0 q_a1_tx1 q_a1_waiting q_a2 q_a2_numbers : Nat) (a1_people : Int32) (a1_year : Int32) (a1_z : Int32) (a1_bytes : Int32) (a1_waits : Int32) (a1_spoons : Nat → Int32) (a2_bits : Int32) (a2_length : Int32) (a2_numbers : Nat → Int32) (Q : Int32 → Prop) (h : wp_X4_setsThatFit a1_people a1_spoons a2_length a2_numbers Q) : CTi l D X yX4_setsThatFit cX4_setsThatFit 5 .int rm_X4_setsThatFit [.ref q_t, .ref q_a1, .ref q_a2] [(q_t, .inr (4, [.ref q_t_cells, .ref q_t_sums, .ref q_t_groups])), (q_a1, .inr (5, [.int a1_people, .ref q_a1_km, .ref q_a1_father, .ref q_a1_mother, .ref q_a1_from, .ref q_a1_spoons, .ref q_a1_owed, .int a1_year, .int a1_z, .ref q_a1_tape, .int a1_bytes, .ref q_a1_tx0, .ref q_a1_tx1, .ref q_a1_waiting, .int a1_waits])), (q_a1_spoons, .inl (X.cI, 40, .inl a1_spoons)), (q_a2, .inr (1, [.ref q_a2_numbers, .int a2_bits, .int a2_length])), (q_a2_numbers, .inl (X.cI, 24, .inl a2_numbers))] (fun (r : Int32) w => (Q r) ∧ w = [(q_t, .inr (4, [.ref q_t_cells, .ref q_t_sums, .ref q_t_groups])), (q_a1, .inr (5, [.int a1_people, .ref q_a1_km, .ref q_a1_father, .ref q_a1_mother, .ref q_a1_from, .ref q_a1_spoons, .ref q_a1_owed, .int a1_year, .int a1_z, .ref q_a1_tape, .int a1_bytes, .ref q_a1_tx0, .ref q_a1_tx1, .ref q_a1_waiting, .int a1_waits])), (q_a1_spoons, .inl (X.cI, 40, .inl a1_spoons)), (q_a2, .inr (1, [.ref q_a2_numbers, .int a2_bits, .int a2_length])), (q_a2_numbers, .inl (X.cI, 24, .inl a2_numbers))]) :=
  ct_i (by decide) (Nat.le_of_ble_eq_true rfl) (fun g hl hD hX G R => by subst hl; subst hD; subst hX; exact b_X4_setsThatFit_e G R h)
set_option maxRecDepth 100000 in
set_option maxHeartbeats 4000000 in
theorem b_X4_leastThatFits_2 {g : GT} (G : GOOD g RX4 cX4_leastThatFits 4 rm_X4_leastThatFits) {q_t q_t_cells q_t_sums q_t_groups q_a1 q_a1_km q_a1_father q_a1_mother q_a1_from q_a1_spoons q_a1_owed q_a1_tape q_a1_tx0 q_a1_tx1 q_a1_waiting q_a2 q_a2_numbers : Nat} {a1_people : Int32} {a1_year : Int32} {a1_z : Int32} {a1_bytes : Int32} {a1_waits : Int32} {a1_spoons : Nat → Int32} {a2_bits : Int32} {a2_length : Int32} {a2_numbers : Nat → Int32} {Q : Int32 → Prop} (R : RETi g cX4_leastThatFits 5 (fun (r : Int32) w => (Q r) ∧ w = [(q_t, .inr (4, [.ref q_t_cells, .ref q_t_sums, .ref q_t_groups])), (q_a1, .inr (5, [.int a1_people, .ref q_a1_km, .ref q_a1_father, .ref q_a1_mother, .ref q_a1_from, .ref q_a1_spoons, .ref q_a1_owed, .int a1_year, .int a1_z, .ref q_a1_tape, .int a1_bytes, .ref q_a1_tx0, .ref q_a1_tx1, .ref q_a1_waiting, .int a1_waits])), (q_a1_spoons, .inl (g.X.cI, 40, .inl a1_spoons)), (q_a2, .inr (1, [.ref q_a2_numbers, .int a2_bits, .int a2_length])), (q_a2_numbers, .inl (g.X.cI, 24, .inl a2_numbers))])) : ∀ (n : Nat) (x3 : Int32), wp_X4_leastThatFits_b2 Q a1_people a1_spoons a2_length a2_numbers n x3 → ST g 0 0 2 [(0, .ref q_t), (1, .ref q_a1), (2, .ref q_a2), (3, .int x3)] [] [(q_t, .inr (4, [.ref q_t_cells, .ref q_t_sums, .ref q_t_groups])), (q_a1, .inr (5, [.int a1_people, .ref q_a1_km, .ref q_a1_father, .ref q_a1_mother, .ref q_a1_from, .ref q_a1_spoons, .ref q_a1_owed, .int a1_year, .int a1_z, .ref q_a1_tape, .int a1_bytes, .ref q_a1_tx0, .ref q_a1_tx1, .ref q_a1_waiting, .int a1_waits])), (q_a1_spoons, .inl (g.X.cI, 40, .inl a1_spoons)), (q_a2, .inr (1, [.ref q_a2_numbers, .int a2_bits, .int a2_length])), (q_a2_numbers, .inl (g.X.cI, 24, .inl a2_numbers))] := by
  intro n
  induction n with
  | zero => intro x3 h; exact False.elim h
  | succ n hK2 =>
    intro x3 h
    unfold wp_X4_leastThatFits_b2 at h
    refine st_iload_n G 3 rfl 3 rfl dX4_leastThatFits_2 rfl ?_
    refine st_iconst G 4 rfl (1 : Int32) (by decide) dX4_leastThatFits_3 ?_
    refine st_aload_n G 5 rfl 1 rfl dX4_leastThatFits_4 rfl ?_
    refine st_get G inX5 rfl 0 (by decide) wd_660 8 rfl 1 rfl rfl dX4_leastThatFits_5 ?_
    refine st_ishl G 9 rfl dX4_leastThatFits_8 ?_
    refine st_icmp_ge G 30 12 rfl dX4_leastThatFits_9 rfl (fun c => ?_) (fun c => ?_)
    · have h := h.1 c
      refine st_iconst G 31 rfl (0 : Int32) (by decide) dX4_leastThatFits_30 ?_
      exact R _ _ _ _ dX4_leastThatFits_31 (Nat.le_of_ble_eq_true rfl) ⟨h, rfl⟩
    have h := h.2 c
    refine st_aload_n G 13 rfl 0 rfl dX4_leastThatFits_12 rfl ?_
    refine st_aload_n G 14 rfl 1 rfl dX4_leastThatFits_13 rfl ?_
    refine st_aload_n G 15 rfl 2 rfl dX4_leastThatFits_14 rfl ?_
    refine st_iload_n G 16 rfl 3 rfl dX4_leastThatFits_15 rfl ?_
    refine st_cVio G lk_X4_93 (c_X4_fitsSet g.l g.D g.X q_t q_t_cells q_t_sums q_t_groups q_a1 q_a1_km q_a1_father q_a1_mother q_a1_from q_a1_spoons q_a1_owed q_a1_tape q_a1_tx0 q_a1_tx1 q_a1_waiting q_a2 q_a2_numbers a1_people a1_year a1_z a1_bytes a1_waits a1_spoons a2_bits a2_length a2_numbers x3 _ h) ⟨rfl, rfl, ⟨Nat.le_of_ble_eq_true rfl, Nat.le_of_ble_eq_true rfl⟩, Nat.zero_le _, Nat.zero_le _⟩ 19 rfl [0, 1, 2, 3, 4] rfl (by decide) 0 4 rfl rfl rfl (Nat.le_of_ble_eq_true rfl) rfl dX4_leastThatFits_16 (fun r_16 h => ?_)
    refine st_if_eq G 24 22 rfl dX4_leastThatFits_19 rfl (fun c => ?_) (fun c => ?_)
    · have h := h.1 c
      obtain ⟨x3_24, ex3_24⟩ : ∃ y : Int32, y = (x3 + (1 : Int32)) := ⟨_, rfl⟩
      have h := h x3_24 ex3_24
      refine st_iinc G 27 rfl [(3, .int x3_24), (0, .ref q_t), (1, .ref q_a1), (2, .ref q_a2)] x3_24 3 rfl (by rw [ex3_24]; rfl) dX4_leastThatFits_24 (by decide) rfl ?_
      refine st_goto G 2 dX4_leastThatFits_27 rfl ?_
      refine st_L (L' := [(0, .ref q_t), (1, .ref q_a1), (2, .ref q_a2), (3, .int x3_24)]) [1, 2, 3, 0] rfl ?_
      exact hK2 _ h
    have h := h.2 c
    refine st_iload_n G 23 rfl 3 rfl dX4_leastThatFits_22 rfl ?_
    exact R _ _ _ _ dX4_leastThatFits_23 (Nat.le_of_ble_eq_true rfl) ⟨h, rfl⟩
set_option maxRecDepth 100000 in
set_option maxHeartbeats 4000000 in
theorem b_X4_leastThatFits_e {g : GT} (G : GOOD g RX4 cX4_leastThatFits 4 rm_X4_leastThatFits) {q_t q_t_cells q_t_sums q_t_groups q_a1 q_a1_km q_a1_father q_a1_mother q_a1_from q_a1_spoons q_a1_owed q_a1_tape q_a1_tx0 q_a1_tx1 q_a1_waiting q_a2 q_a2_numbers : Nat} {a1_people : Int32} {a1_year : Int32} {a1_z : Int32} {a1_bytes : Int32} {a1_waits : Int32} {a1_spoons : Nat → Int32} {a2_bits : Int32} {a2_length : Int32} {a2_numbers : Nat → Int32} {Q : Int32 → Prop} (R : RETi g cX4_leastThatFits 5 (fun (r : Int32) w => (Q r) ∧ w = [(q_t, .inr (4, [.ref q_t_cells, .ref q_t_sums, .ref q_t_groups])), (q_a1, .inr (5, [.int a1_people, .ref q_a1_km, .ref q_a1_father, .ref q_a1_mother, .ref q_a1_from, .ref q_a1_spoons, .ref q_a1_owed, .int a1_year, .int a1_z, .ref q_a1_tape, .int a1_bytes, .ref q_a1_tx0, .ref q_a1_tx1, .ref q_a1_waiting, .int a1_waits])), (q_a1_spoons, .inl (g.X.cI, 40, .inl a1_spoons)), (q_a2, .inr (1, [.ref q_a2_numbers, .int a2_bits, .int a2_length])), (q_a2_numbers, .inl (g.X.cI, 24, .inl a2_numbers))])) (h : wp_X4_leastThatFits a1_people a1_spoons a2_length a2_numbers Q) : ST g 0 0 0 [(0, .ref q_t), (1, .ref q_a1), (2, .ref q_a2)] [] [(q_t, .inr (4, [.ref q_t_cells, .ref q_t_sums, .ref q_t_groups])), (q_a1, .inr (5, [.int a1_people, .ref q_a1_km, .ref q_a1_father, .ref q_a1_mother, .ref q_a1_from, .ref q_a1_spoons, .ref q_a1_owed, .int a1_year, .int a1_z, .ref q_a1_tape, .int a1_bytes, .ref q_a1_tx0, .ref q_a1_tx1, .ref q_a1_waiting, .int a1_waits])), (q_a1_spoons, .inl (g.X.cI, 40, .inl a1_spoons)), (q_a2, .inr (1, [.ref q_a2_numbers, .int a2_bits, .int a2_length])), (q_a2_numbers, .inl (g.X.cI, 24, .inl a2_numbers))] := by
  unfold wp_X4_leastThatFits at h
  refine st_iconst G 1 rfl (1 : Int32) (by decide) dX4_leastThatFits_0 ?_
  refine st_istore_n G 2 rfl [(3, .int (1 : Int32)), (0, .ref q_t), (1, .ref q_a1), (2, .ref q_a2)] dX4_leastThatFits_1 rfl (by decide) rfl ?_
  refine st_L (L' := [(0, .ref q_t), (1, .ref q_a1), (2, .ref q_a2), (3, .int (1 : Int32))]) [1, 2, 3, 0] rfl ?_
  obtain ⟨n, h⟩ := h
  exact b_X4_leastThatFits_2 G R n _ h
set_option maxRecDepth 100000 in
set_option maxHeartbeats 4000000 in
theorem c_X4_leastThatFits (l : Launch) (D : va_G) (X : XT) (q_t q_t_cells q_t_sums q_t_groups q_a1 q_a1_km q_a1_father q_a1_mother q_a1_from q_a1_spoons q_a1_owed q_a1_tape q_a1_tx0 q_a1_tx1 q_a1_waiting q_a2 q_a2_numbers : Nat) (a1_people : Int32) (a1_year : Int32) (a1_z : Int32) (a1_bytes : Int32) (a1_waits : Int32) (a1_spoons : Nat → Int32) (a2_bits : Int32) (a2_length : Int32) (a2_numbers : Nat → Int32) (Q : Int32 → Prop) (h : wp_X4_leastThatFits a1_people a1_spoons a2_length a2_numbers Q) : CTi l D X yX4_leastThatFits cX4_leastThatFits 4 .int rm_X4_leastThatFits [.ref q_t, .ref q_a1, .ref q_a2] [(q_t, .inr (4, [.ref q_t_cells, .ref q_t_sums, .ref q_t_groups])), (q_a1, .inr (5, [.int a1_people, .ref q_a1_km, .ref q_a1_father, .ref q_a1_mother, .ref q_a1_from, .ref q_a1_spoons, .ref q_a1_owed, .int a1_year, .int a1_z, .ref q_a1_tape, .int a1_bytes, .ref q_a1_tx0, .ref q_a1_tx1, .ref q_a1_waiting, .int a1_waits])), (q_a1_spoons, .inl (X.cI, 40, .inl a1_spoons)), (q_a2, .inr (1, [.ref q_a2_numbers, .int a2_bits, .int a2_length])), (q_a2_numbers, .inl (X.cI, 24, .inl a2_numbers))] (fun (r : Int32) w => (Q r) ∧ w = [(q_t, .inr (4, [.ref q_t_cells, .ref q_t_sums, .ref q_t_groups])), (q_a1, .inr (5, [.int a1_people, .ref q_a1_km, .ref q_a1_father, .ref q_a1_mother, .ref q_a1_from, .ref q_a1_spoons, .ref q_a1_owed, .int a1_year, .int a1_z, .ref q_a1_tape, .int a1_bytes, .ref q_a1_tx0, .ref q_a1_tx1, .ref q_a1_waiting, .int a1_waits])), (q_a1_spoons, .inl (X.cI, 40, .inl a1_spoons)), (q_a2, .inr (1, [.ref q_a2_numbers, .int a2_bits, .int a2_length])), (q_a2_numbers, .inl (X.cI, 24, .inl a2_numbers))]) :=
  ct_i (by decide) (Nat.le_of_ble_eq_true rfl) (fun g hl hD hX G R => by subst hl; subst hD; subst hX; exact b_X4_leastThatFits_e G R h)
set_option maxRecDepth 100000 in
set_option maxHeartbeats 4000000 in
theorem b_X6_fits_e {g : GT} (G : GOOD g RX6 cX6_fits 5 rm_X6_fits) {q_t q_t_w q_t_w_km q_t_w_father q_t_w_mother q_t_w_from q_t_w_spoons q_t_w_owed q_t_w_tape q_t_w_tx0 q_t_w_tx1 q_t_w_waiting q_t_k q_t_errors q_t_sheets q_t_sh0 q_t_sh0_numbers q_t_sh1 q_t_sh1_numbers q_t_sh2 q_t_sh2_numbers q_t_sh3 q_t_sh3_numbers q_t_r q_t_th q_t_th_cells q_t_th_sums q_t_th_groups q_t_sp : Nat} {c_images : Int32} {w_people : Int32} {w_year : Int32} {w_z : Int32} {w_bytes : Int32} {w_waits : Int32} {w_spoons : Nat → Int32} {c_errors : Nat → Int32} {c_sh_bits : Nat → Int32} {c_sh_length : Nat → Int32} {c_sh_numbers : Nat → Nat → Int32} {x1 : Int32} {x2 : Int32} {Q : Int32 → (Nat → Int32) → Prop} (R : RETi g cX6_fits 14 (fun (r : Int32) w => ∃ (c_errors' : Nat → Int32), Q r c_errors' ∧ w = [(q_t, .inr (6, [.ref q_t_w, .ref q_t_k, .int c_images, .ref q_t_errors, .ref q_t_sheets, .ref q_t_r, .ref q_t_th, .ref q_t_sp])), (q_t_w, .inr (5, [.int w_people, .ref q_t_w_km, .ref q_t_w_father, .ref q_t_w_mother, .ref q_t_w_from, .ref q_t_w_spoons, .ref q_t_w_owed, .int w_year, .int w_z, .ref q_t_w_tape, .int w_bytes, .ref q_t_w_tx0, .ref q_t_w_tx1, .ref q_t_w_waiting, .int w_waits])), (q_t_w_spoons, .inl (g.X.cI, 40, .inl w_spoons)), (q_t_errors, .inl (g.X.cI, 7, .inl c_errors')), (q_t_sheets, .inl (g.X.cS, 4, .inr (.inr (.inr (.inr (shf q_t_sh0 q_t_sh1 q_t_sh2 q_t_sh3)))))), (q_t_sh0, .inr (1, [.ref q_t_sh0_numbers, .int (c_sh_bits 0), .int (c_sh_length 0)])), (q_t_sh0_numbers, .inl (g.X.cI, 24, .inl (c_sh_numbers 0))), (q_t_sh1, .inr (1, [.ref q_t_sh1_numbers, .int (c_sh_bits 1), .int (c_sh_length 1)])), (q_t_sh1_numbers, .inl (g.X.cI, 24, .inl (c_sh_numbers 1))), (q_t_sh2, .inr (1, [.ref q_t_sh2_numbers, .int (c_sh_bits 2), .int (c_sh_length 2)])), (q_t_sh2_numbers, .inl (g.X.cI, 24, .inl (c_sh_numbers 2))), (q_t_sh3, .inr (1, [.ref q_t_sh3_numbers, .int (c_sh_bits 3), .int (c_sh_length 3)])), (q_t_sh3_numbers, .inl (g.X.cI, 24, .inl (c_sh_numbers 3))), (q_t_th, .inr (4, [.ref q_t_th_cells, .ref q_t_th_sums, .ref q_t_th_groups]))])) (h : wp_X6_fits x1 x2 w_people w_spoons c_errors c_sh_bits c_sh_length c_sh_numbers Q) : ST g 0 0 0 [(0, .ref q_t), (1, .int x1), (2, .int x2)] [] [(q_t, .inr (6, [.ref q_t_w, .ref q_t_k, .int c_images, .ref q_t_errors, .ref q_t_sheets, .ref q_t_r, .ref q_t_th, .ref q_t_sp])), (q_t_w, .inr (5, [.int w_people, .ref q_t_w_km, .ref q_t_w_father, .ref q_t_w_mother, .ref q_t_w_from, .ref q_t_w_spoons, .ref q_t_w_owed, .int w_year, .int w_z, .ref q_t_w_tape, .int w_bytes, .ref q_t_w_tx0, .ref q_t_w_tx1, .ref q_t_w_waiting, .int w_waits])), (q_t_w_spoons, .inl (g.X.cI, 40, .inl w_spoons)), (q_t_errors, .inl (g.X.cI, 7, .inl c_errors)), (q_t_sheets, .inl (g.X.cS, 4, .inr (.inr (.inr (.inr (shf q_t_sh0 q_t_sh1 q_t_sh2 q_t_sh3)))))), (q_t_sh0, .inr (1, [.ref q_t_sh0_numbers, .int (c_sh_bits 0), .int (c_sh_length 0)])), (q_t_sh0_numbers, .inl (g.X.cI, 24, .inl (c_sh_numbers 0))), (q_t_sh1, .inr (1, [.ref q_t_sh1_numbers, .int (c_sh_bits 1), .int (c_sh_length 1)])), (q_t_sh1_numbers, .inl (g.X.cI, 24, .inl (c_sh_numbers 1))), (q_t_sh2, .inr (1, [.ref q_t_sh2_numbers, .int (c_sh_bits 2), .int (c_sh_length 2)])), (q_t_sh2_numbers, .inl (g.X.cI, 24, .inl (c_sh_numbers 2))), (q_t_sh3, .inr (1, [.ref q_t_sh3_numbers, .int (c_sh_bits 3), .int (c_sh_length 3)])), (q_t_sh3_numbers, .inl (g.X.cI, 24, .inl (c_sh_numbers 3))), (q_t_th, .inr (4, [.ref q_t_th_cells, .ref q_t_th_sums, .ref q_t_th_groups]))] := by
  unfold wp_X6_fits at h
  refine st_iload_n G 1 rfl 1 rfl dX6_fits_0 rfl ?_
  refine st_cSio G lk_X6_225 (c_X6_notSheet g.l g.D g.X x1 _ h) ⟨rfl, rfl, ⟨Nat.le_of_ble_eq_true rfl, Nat.le_of_ble_eq_true rfl⟩, Nat.zero_le _, Nat.zero_le _⟩ 4 rfl [] rfl (by decide) rfl (Nat.le_of_ble_eq_true rfl) rfl dX6_fits_1 (fun r_1 h => ?_)
  refine st_if_ne G 16 7 rfl dX6_fits_4 rfl (fun c => ?_) (fun c => ?_)
  · have h := h.1 c
    refine st_aload_n G 17 rfl 0 rfl dX6_fits_16 rfl ?_
    refine st_iconst G 18 rfl (1 : Int32) (by decide) dX6_fits_17 ?_
    refine st_cVi G lk_X6_55 (c_X6_error g.l g.D g.X q_t q_t_w q_t_k q_t_errors q_t_sheets q_t_r q_t_th q_t_sp c_images c_errors (1 : Int32) _ h) ⟨rfl, rfl, ⟨Nat.le_of_ble_eq_true rfl, Nat.le_of_ble_eq_true rfl⟩, Nat.zero_le _, Nat.zero_le _⟩ 21 rfl [0, 3] rfl (by decide) 0 6 rfl rfl rfl (Nat.le_of_ble_eq_true rfl) rfl dX6_fits_18 (fun r_18 w hq => ?_)
    obtain ⟨c_errors_18, h, rfl⟩ := hq
    refine st_wp (ws' := [(q_t, .inr (6, [.ref q_t_w, .ref q_t_k, .int c_images, .ref q_t_errors, .ref q_t_sheets, .ref q_t_r, .ref q_t_th, .ref q_t_sp])), (q_t_w, .inr (5, [.int w_people, .ref q_t_w_km, .ref q_t_w_father, .ref q_t_w_mother, .ref q_t_w_from, .ref q_t_w_spoons, .ref q_t_w_owed, .int w_year, .int w_z, .ref q_t_w_tape, .int w_bytes, .ref q_t_w_tx0, .ref q_t_w_tx1, .ref q_t_w_waiting, .int w_waits])), (q_t_w_spoons, .inl (g.X.cI, 40, .inl w_spoons)), (q_t_errors, .inl (g.X.cI, 7, .inl c_errors_18)), (q_t_sheets, .inl (g.X.cS, 4, .inr (.inr (.inr (.inr (shf q_t_sh0 q_t_sh1 q_t_sh2 q_t_sh3)))))), (q_t_sh0, .inr (1, [.ref q_t_sh0_numbers, .int (c_sh_bits 0), .int (c_sh_length 0)])), (q_t_sh0_numbers, .inl (g.X.cI, 24, .inl (c_sh_numbers 0))), (q_t_sh1, .inr (1, [.ref q_t_sh1_numbers, .int (c_sh_bits 1), .int (c_sh_length 1)])), (q_t_sh1_numbers, .inl (g.X.cI, 24, .inl (c_sh_numbers 1))), (q_t_sh2, .inr (1, [.ref q_t_sh2_numbers, .int (c_sh_bits 2), .int (c_sh_length 2)])), (q_t_sh2_numbers, .inl (g.X.cI, 24, .inl (c_sh_numbers 2))), (q_t_sh3, .inr (1, [.ref q_t_sh3_numbers, .int (c_sh_bits 3), .int (c_sh_length 3)])), (q_t_sh3_numbers, .inl (g.X.cI, 24, .inl (c_sh_numbers 3))), (q_t_th, .inr (4, [.ref q_t_th_cells, .ref q_t_th_sums, .ref q_t_th_groups]))]) 14 [1, 2, 4, 5, 6, 7, 8, 9, 10, 11, 12, 13] (by decide) rfl rfl (by rfl) [(q_t_w, .inr (5, [.int w_people, .ref q_t_w_km, .ref q_t_w_father, .ref q_t_w_mother, .ref q_t_w_from, .ref q_t_w_spoons, .ref q_t_w_owed, .int w_year, .int w_z, .ref q_t_w_tape, .int w_bytes, .ref q_t_w_tx0, .ref q_t_w_tx1, .ref q_t_w_waiting, .int w_waits])), (q_t_w_spoons, .inl (g.X.cI, 40, .inl w_spoons)), (q_t_sheets, .inl (g.X.cS, 4, .inr (.inr (.inr (.inr (shf q_t_sh0 q_t_sh1 q_t_sh2 q_t_sh3)))))), (q_t_sh0, .inr (1, [.ref q_t_sh0_numbers, .int (c_sh_bits 0), .int (c_sh_length 0)])), (q_t_sh0_numbers, .inl (g.X.cI, 24, .inl (c_sh_numbers 0))), (q_t_sh1, .inr (1, [.ref q_t_sh1_numbers, .int (c_sh_bits 1), .int (c_sh_length 1)])), (q_t_sh1_numbers, .inl (g.X.cI, 24, .inl (c_sh_numbers 1))), (q_t_sh2, .inr (1, [.ref q_t_sh2_numbers, .int (c_sh_bits 2), .int (c_sh_length 2)])), (q_t_sh2_numbers, .inl (g.X.cI, 24, .inl (c_sh_numbers 2))), (q_t_sh3, .inr (1, [.ref q_t_sh3_numbers, .int (c_sh_bits 3), .int (c_sh_length 3)])), (q_t_sh3_numbers, .inl (g.X.cI, 24, .inl (c_sh_numbers 3))), (q_t_th, .inr (4, [.ref q_t_th_cells, .ref q_t_th_sums, .ref q_t_th_groups]))] (by rfl) rfl ?_
    exact R _ _ _ _ dX6_fits_21 (Nat.le_of_ble_eq_true rfl) ⟨_, h, rfl⟩
  have h := h.2 c
  refine st_iload_n G 8 rfl 2 rfl dX6_fits_7 rfl ?_
  refine st_iconst G 9 rfl (0 : Int32) (by decide) dX6_fits_8 ?_
  refine st_iconst G 10 rfl (1 : Int32) (by decide) dX6_fits_9 ?_
  refine st_cSio G lk_X6_115 (c_X6_notWithin g.l g.D g.X x2 (0 : Int32) (1 : Int32) _ h) ⟨rfl, rfl, ⟨Nat.le_of_ble_eq_true rfl, Nat.le_of_ble_eq_true rfl⟩, Nat.zero_le _, Nat.zero_le _⟩ 13 rfl [] rfl (by decide) rfl (Nat.le_of_ble_eq_true rfl) rfl dX6_fits_10 (fun r_10 h => ?_)
  refine st_if_eq G 22 16 rfl dX6_fits_13 rfl (fun c => ?_) (fun c => ?_)
  · have h := h.1 c
    refine st_aload_n G 23 rfl 0 rfl dX6_fits_22 rfl ?_
    refine st_get G inX6 rfl 4 (by decide) wd_21 26 rfl 0 rfl rfl dX6_fits_23 ?_
    refine st_iload_n G 27 rfl 1 rfl dX6_fits_26 rfl ?_
    obtain ⟨hin, h⟩ := h
    obtain ⟨K_27, hk, ek⟩ := vp_in_of hin (by decide)
    have h := h K_27 hk ek
    rcases (show K_27 = 0 ∨ K_27 = 1 ∨ K_27 = 2 ∨ K_27 = 3 by omega) with rfl | rfl | rfl | rfl
    · refine st_aald G 28 rfl 4 rfl hin (v := .ref q_t_sh0) (by rw [ek]; rfl) dX6_fits_27 ?_
      refine st_astore_n G 29 rfl [(3, .ref q_t_sh0), (0, .ref q_t), (1, .int x1), (2, .int x2)] dX6_fits_28 rfl (by decide) rfl ?_
      refine st_aload_n G 30 rfl 0 rfl dX6_fits_29 rfl ?_
      refine st_cVio G lk_X6_228 (c_X1_missing g.l g.D g.X q_t_sh0 q_t_sh0_numbers (c_sh_bits 0) (c_sh_length 0) _ h) ⟨rfl, rfl, ⟨Nat.le_of_ble_eq_true rfl, Nat.le_of_ble_eq_true rfl⟩, Nat.zero_le _, Nat.zero_le _⟩ 33 rfl [5] rfl (by decide) 0 1 rfl rfl rfl (Nat.le_of_ble_eq_true rfl) rfl dX6_fits_30 (fun r_30 h => ?_)
      refine st_if_ne G 44 36 rfl dX6_fits_33 rfl (fun c => ?_) (fun c => ?_)
      · have h := h.1 c
        refine st_aload_n G 45 rfl 1 rfl dX6_fits_44 rfl ?_
        refine st_iconst G 46 rfl (2 : Int32) (by decide) dX6_fits_45 ?_
        refine st_cVi G lk_X6_55 (c_X6_error g.l g.D g.X q_t q_t_w q_t_k q_t_errors q_t_sheets q_t_r q_t_th q_t_sp c_images c_errors (2 : Int32) _ h) ⟨rfl, rfl, ⟨Nat.le_of_ble_eq_true rfl, Nat.le_of_ble_eq_true rfl⟩, Nat.zero_le _, Nat.zero_le _⟩ 49 rfl [0, 3] rfl (by decide) 0 6 rfl rfl rfl (Nat.le_of_ble_eq_true rfl) rfl dX6_fits_46 (fun r_46 w hq => ?_)
        obtain ⟨c_errors_46, h, rfl⟩ := hq
        refine st_wp (ws' := [(q_t, .inr (6, [.ref q_t_w, .ref q_t_k, .int c_images, .ref q_t_errors, .ref q_t_sheets, .ref q_t_r, .ref q_t_th, .ref q_t_sp])), (q_t_w, .inr (5, [.int w_people, .ref q_t_w_km, .ref q_t_w_father, .ref q_t_w_mother, .ref q_t_w_from, .ref q_t_w_spoons, .ref q_t_w_owed, .int w_year, .int w_z, .ref q_t_w_tape, .int w_bytes, .ref q_t_w_tx0, .ref q_t_w_tx1, .ref q_t_w_waiting, .int w_waits])), (q_t_w_spoons, .inl (g.X.cI, 40, .inl w_spoons)), (q_t_errors, .inl (g.X.cI, 7, .inl c_errors_46)), (q_t_sheets, .inl (g.X.cS, 4, .inr (.inr (.inr (.inr (shf q_t_sh0 q_t_sh1 q_t_sh2 q_t_sh3)))))), (q_t_sh0, .inr (1, [.ref q_t_sh0_numbers, .int (c_sh_bits 0), .int (c_sh_length 0)])), (q_t_sh0_numbers, .inl (g.X.cI, 24, .inl (c_sh_numbers 0))), (q_t_sh1, .inr (1, [.ref q_t_sh1_numbers, .int (c_sh_bits 1), .int (c_sh_length 1)])), (q_t_sh1_numbers, .inl (g.X.cI, 24, .inl (c_sh_numbers 1))), (q_t_sh2, .inr (1, [.ref q_t_sh2_numbers, .int (c_sh_bits 2), .int (c_sh_length 2)])), (q_t_sh2_numbers, .inl (g.X.cI, 24, .inl (c_sh_numbers 2))), (q_t_sh3, .inr (1, [.ref q_t_sh3_numbers, .int (c_sh_bits 3), .int (c_sh_length 3)])), (q_t_sh3_numbers, .inl (g.X.cI, 24, .inl (c_sh_numbers 3))), (q_t_th, .inr (4, [.ref q_t_th_cells, .ref q_t_th_sums, .ref q_t_th_groups]))]) 14 [1, 2, 4, 5, 6, 7, 8, 9, 10, 11, 12, 13] (by decide) rfl rfl (by rfl) [(q_t_w, .inr (5, [.int w_people, .ref q_t_w_km, .ref q_t_w_father, .ref q_t_w_mother, .ref q_t_w_from, .ref q_t_w_spoons, .ref q_t_w_owed, .int w_year, .int w_z, .ref q_t_w_tape, .int w_bytes, .ref q_t_w_tx0, .ref q_t_w_tx1, .ref q_t_w_waiting, .int w_waits])), (q_t_w_spoons, .inl (g.X.cI, 40, .inl w_spoons)), (q_t_sheets, .inl (g.X.cS, 4, .inr (.inr (.inr (.inr (shf q_t_sh0 q_t_sh1 q_t_sh2 q_t_sh3)))))), (q_t_sh0, .inr (1, [.ref q_t_sh0_numbers, .int (c_sh_bits 0), .int (c_sh_length 0)])), (q_t_sh0_numbers, .inl (g.X.cI, 24, .inl (c_sh_numbers 0))), (q_t_sh1, .inr (1, [.ref q_t_sh1_numbers, .int (c_sh_bits 1), .int (c_sh_length 1)])), (q_t_sh1_numbers, .inl (g.X.cI, 24, .inl (c_sh_numbers 1))), (q_t_sh2, .inr (1, [.ref q_t_sh2_numbers, .int (c_sh_bits 2), .int (c_sh_length 2)])), (q_t_sh2_numbers, .inl (g.X.cI, 24, .inl (c_sh_numbers 2))), (q_t_sh3, .inr (1, [.ref q_t_sh3_numbers, .int (c_sh_bits 3), .int (c_sh_length 3)])), (q_t_sh3_numbers, .inl (g.X.cI, 24, .inl (c_sh_numbers 3))), (q_t_th, .inr (4, [.ref q_t_th_cells, .ref q_t_th_sums, .ref q_t_th_groups]))] (by rfl) rfl ?_
        exact R _ _ _ _ dX6_fits_49 (Nat.le_of_ble_eq_true rfl) ⟨_, h, rfl⟩
      have h := h.2 c
      refine st_aload_n G 37 rfl 0 rfl dX6_fits_36 rfl ?_
      refine st_get G inX1 rfl 2 (by decide) wd_768 40 rfl 5 rfl rfl dX6_fits_37 ?_
      refine st_iconst G 41 rfl (5 : Int32) (by decide) dX6_fits_40 ?_
      refine st_icmp_le G 50 44 rfl dX6_fits_41 rfl (fun c => ?_) (fun c => ?_)
      · have h := h.1 c
        refine st_iload_n G 51 rfl 3 rfl dX6_fits_50 rfl ?_
        refine st_if_ne G 67 54 rfl dX6_fits_51 rfl (fun c => ?_) (fun c => ?_)
        · have h := h.1 c
          refine st_aload_n G 68 rfl 1 rfl dX6_fits_67 rfl ?_
          refine st_get G inX6 rfl 6 (by decide) wd_31 71 rfl 0 rfl rfl dX6_fits_68 ?_
          refine st_aload_n G 72 rfl 1 rfl dX6_fits_71 rfl ?_
          refine st_get G inX6 rfl 0 (by decide) wd_16 75 rfl 0 rfl rfl dX6_fits_72 ?_
          refine st_aload_n G 76 rfl 0 rfl dX6_fits_75 rfl ?_
          refine st_cVio G lk_X6_238 (c_X4_leastThatFits g.l g.D g.X q_t_th q_t_th_cells q_t_th_sums q_t_th_groups q_t_w q_t_w_km q_t_w_father q_t_w_mother q_t_w_from q_t_w_spoons q_t_w_owed q_t_w_tape q_t_w_tx0 q_t_w_tx1 q_t_w_waiting q_t_sh0 q_t_sh0_numbers w_people w_year w_z w_bytes w_waits w_spoons (c_sh_bits 0) (c_sh_length 0) (c_sh_numbers 0) _ h) ⟨rfl, rfl, ⟨Nat.le_of_ble_eq_true rfl, Nat.le_of_ble_eq_true rfl⟩, Nat.zero_le _, Nat.zero_le _⟩ 79 rfl [13, 1, 2, 5, 6] rfl (by decide) 0 4 rfl rfl rfl (Nat.le_of_ble_eq_true rfl) rfl dX6_fits_76 (fun r_76 h => ?_)
          refine st_istore G 81 rfl [(4, .int r_76), (3, .ref q_t_sh0), (0, .ref q_t), (1, .int x1), (2, .int x2)] dX6_fits_79 (by decide) rfl ?_
          refine st_iload G 83 rfl 0 rfl dX6_fits_81 ?_
          refine st_if_le G 91 86 rfl dX6_fits_83 rfl (fun c => ?_) (fun c => ?_)
          · have h := h.1 c
            refine st_aload_n G 92 rfl 2 rfl dX6_fits_91 rfl ?_
            refine st_iconst G 93 rfl (2 : Int32) (by decide) dX6_fits_92 ?_
            refine st_cVi G lk_X6_55 (c_X6_error g.l g.D g.X q_t q_t_w q_t_k q_t_errors q_t_sheets q_t_r q_t_th q_t_sp c_images c_errors (2 : Int32) _ h) ⟨rfl, rfl, ⟨Nat.le_of_ble_eq_true rfl, Nat.le_of_ble_eq_true rfl⟩, Nat.zero_le _, Nat.zero_le _⟩ 96 rfl [0, 3] rfl (by decide) 0 6 rfl rfl rfl (Nat.le_of_ble_eq_true rfl) rfl dX6_fits_93 (fun r_93 w hq => ?_)
            obtain ⟨c_errors_93, h, rfl⟩ := hq
            refine st_wp (ws' := [(q_t, .inr (6, [.ref q_t_w, .ref q_t_k, .int c_images, .ref q_t_errors, .ref q_t_sheets, .ref q_t_r, .ref q_t_th, .ref q_t_sp])), (q_t_w, .inr (5, [.int w_people, .ref q_t_w_km, .ref q_t_w_father, .ref q_t_w_mother, .ref q_t_w_from, .ref q_t_w_spoons, .ref q_t_w_owed, .int w_year, .int w_z, .ref q_t_w_tape, .int w_bytes, .ref q_t_w_tx0, .ref q_t_w_tx1, .ref q_t_w_waiting, .int w_waits])), (q_t_w_spoons, .inl (g.X.cI, 40, .inl w_spoons)), (q_t_errors, .inl (g.X.cI, 7, .inl c_errors_93)), (q_t_sheets, .inl (g.X.cS, 4, .inr (.inr (.inr (.inr (shf q_t_sh0 q_t_sh1 q_t_sh2 q_t_sh3)))))), (q_t_sh0, .inr (1, [.ref q_t_sh0_numbers, .int (c_sh_bits 0), .int (c_sh_length 0)])), (q_t_sh0_numbers, .inl (g.X.cI, 24, .inl (c_sh_numbers 0))), (q_t_sh1, .inr (1, [.ref q_t_sh1_numbers, .int (c_sh_bits 1), .int (c_sh_length 1)])), (q_t_sh1_numbers, .inl (g.X.cI, 24, .inl (c_sh_numbers 1))), (q_t_sh2, .inr (1, [.ref q_t_sh2_numbers, .int (c_sh_bits 2), .int (c_sh_length 2)])), (q_t_sh2_numbers, .inl (g.X.cI, 24, .inl (c_sh_numbers 2))), (q_t_sh3, .inr (1, [.ref q_t_sh3_numbers, .int (c_sh_bits 3), .int (c_sh_length 3)])), (q_t_sh3_numbers, .inl (g.X.cI, 24, .inl (c_sh_numbers 3))), (q_t_th, .inr (4, [.ref q_t_th_cells, .ref q_t_th_sums, .ref q_t_th_groups]))]) 14 [1, 2, 4, 5, 6, 7, 8, 9, 10, 11, 12, 13] (by decide) rfl rfl (by rfl) [(q_t_w, .inr (5, [.int w_people, .ref q_t_w_km, .ref q_t_w_father, .ref q_t_w_mother, .ref q_t_w_from, .ref q_t_w_spoons, .ref q_t_w_owed, .int w_year, .int w_z, .ref q_t_w_tape, .int w_bytes, .ref q_t_w_tx0, .ref q_t_w_tx1, .ref q_t_w_waiting, .int w_waits])), (q_t_w_spoons, .inl (g.X.cI, 40, .inl w_spoons)), (q_t_sheets, .inl (g.X.cS, 4, .inr (.inr (.inr (.inr (shf q_t_sh0 q_t_sh1 q_t_sh2 q_t_sh3)))))), (q_t_sh0, .inr (1, [.ref q_t_sh0_numbers, .int (c_sh_bits 0), .int (c_sh_length 0)])), (q_t_sh0_numbers, .inl (g.X.cI, 24, .inl (c_sh_numbers 0))), (q_t_sh1, .inr (1, [.ref q_t_sh1_numbers, .int (c_sh_bits 1), .int (c_sh_length 1)])), (q_t_sh1_numbers, .inl (g.X.cI, 24, .inl (c_sh_numbers 1))), (q_t_sh2, .inr (1, [.ref q_t_sh2_numbers, .int (c_sh_bits 2), .int (c_sh_length 2)])), (q_t_sh2_numbers, .inl (g.X.cI, 24, .inl (c_sh_numbers 2))), (q_t_sh3, .inr (1, [.ref q_t_sh3_numbers, .int (c_sh_bits 3), .int (c_sh_length 3)])), (q_t_sh3_numbers, .inl (g.X.cI, 24, .inl (c_sh_numbers 3))), (q_t_th, .inr (4, [.ref q_t_th_cells, .ref q_t_th_sums, .ref q_t_th_groups]))] (by rfl) rfl ?_
            exact R _ _ _ _ dX6_fits_96 (Nat.le_of_ble_eq_true rfl) ⟨_, h, rfl⟩
          have h := h.2 c
          refine st_iload G 88 rfl 0 rfl dX6_fits_86 ?_
          refine st_goto G 96 dX6_fits_88 rfl ?_
          exact R _ _ _ _ dX6_fits_96 (Nat.le_of_ble_eq_true rfl) ⟨_, h, rfl⟩
        have h := h.2 c
        refine st_aload_n G 55 rfl 1 rfl dX6_fits_54 rfl ?_
        refine st_get G inX6 rfl 6 (by decide) wd_31 58 rfl 0 rfl rfl dX6_fits_55 ?_
        refine st_aload_n G 59 rfl 1 rfl dX6_fits_58 rfl ?_
        refine st_get G inX6 rfl 0 (by decide) wd_16 62 rfl 0 rfl rfl dX6_fits_59 ?_
        refine st_aload_n G 63 rfl 0 rfl dX6_fits_62 rfl ?_
        refine st_cVio G lk_X6_234 (c_X4_setsThatFit g.l g.D g.X q_t_th q_t_th_cells q_t_th_sums q_t_th_groups q_t_w q_t_w_km q_t_w_father q_t_w_mother q_t_w_from q_t_w_spoons q_t_w_owed q_t_w_tape q_t_w_tx0 q_t_w_tx1 q_t_w_waiting q_t_sh0 q_t_sh0_numbers w_people w_year w_z w_bytes w_waits w_spoons (c_sh_bits 0) (c_sh_length 0) (c_sh_numbers 0) _ h) ⟨rfl, rfl, ⟨Nat.le_of_ble_eq_true rfl, Nat.le_of_ble_eq_true rfl⟩, Nat.zero_le _, Nat.zero_le _⟩ 66 rfl [13, 1, 2, 5, 6] rfl (by decide) 0 4 rfl rfl rfl (Nat.le_of_ble_eq_true rfl) rfl dX6_fits_63 (fun r_63 h => ?_)
        exact R _ _ _ _ dX6_fits_66 (Nat.le_of_ble_eq_true rfl) ⟨_, h, rfl⟩
      have h := h.2 c
      refine st_aload_n G 45 rfl 1 rfl dX6_fits_44 rfl ?_
      refine st_iconst G 46 rfl (2 : Int32) (by decide) dX6_fits_45 ?_
      refine st_cVi G lk_X6_55 (c_X6_error g.l g.D g.X q_t q_t_w q_t_k q_t_errors q_t_sheets q_t_r q_t_th q_t_sp c_images c_errors (2 : Int32) _ h) ⟨rfl, rfl, ⟨Nat.le_of_ble_eq_true rfl, Nat.le_of_ble_eq_true rfl⟩, Nat.zero_le _, Nat.zero_le _⟩ 49 rfl [0, 3] rfl (by decide) 0 6 rfl rfl rfl (Nat.le_of_ble_eq_true rfl) rfl dX6_fits_46 (fun r_46 w hq => ?_)
      obtain ⟨c_errors_46, h, rfl⟩ := hq
      refine st_wp (ws' := [(q_t, .inr (6, [.ref q_t_w, .ref q_t_k, .int c_images, .ref q_t_errors, .ref q_t_sheets, .ref q_t_r, .ref q_t_th, .ref q_t_sp])), (q_t_w, .inr (5, [.int w_people, .ref q_t_w_km, .ref q_t_w_father, .ref q_t_w_mother, .ref q_t_w_from, .ref q_t_w_spoons, .ref q_t_w_owed, .int w_year, .int w_z, .ref q_t_w_tape, .int w_bytes, .ref q_t_w_tx0, .ref q_t_w_tx1, .ref q_t_w_waiting, .int w_waits])), (q_t_w_spoons, .inl (g.X.cI, 40, .inl w_spoons)), (q_t_errors, .inl (g.X.cI, 7, .inl c_errors_46)), (q_t_sheets, .inl (g.X.cS, 4, .inr (.inr (.inr (.inr (shf q_t_sh0 q_t_sh1 q_t_sh2 q_t_sh3)))))), (q_t_sh0, .inr (1, [.ref q_t_sh0_numbers, .int (c_sh_bits 0), .int (c_sh_length 0)])), (q_t_sh0_numbers, .inl (g.X.cI, 24, .inl (c_sh_numbers 0))), (q_t_sh1, .inr (1, [.ref q_t_sh1_numbers, .int (c_sh_bits 1), .int (c_sh_length 1)])), (q_t_sh1_numbers, .inl (g.X.cI, 24, .inl (c_sh_numbers 1))), (q_t_sh2, .inr (1, [.ref q_t_sh2_numbers, .int (c_sh_bits 2), .int (c_sh_length 2)])), (q_t_sh2_numbers, .inl (g.X.cI, 24, .inl (c_sh_numbers 2))), (q_t_sh3, .inr (1, [.ref q_t_sh3_numbers, .int (c_sh_bits 3), .int (c_sh_length 3)])), (q_t_sh3_numbers, .inl (g.X.cI, 24, .inl (c_sh_numbers 3))), (q_t_th, .inr (4, [.ref q_t_th_cells, .ref q_t_th_sums, .ref q_t_th_groups]))]) 14 [1, 2, 4, 5, 6, 7, 8, 9, 10, 11, 12, 13] (by decide) rfl rfl (by rfl) [(q_t_w, .inr (5, [.int w_people, .ref q_t_w_km, .ref q_t_w_father, .ref q_t_w_mother, .ref q_t_w_from, .ref q_t_w_spoons, .ref q_t_w_owed, .int w_year, .int w_z, .ref q_t_w_tape, .int w_bytes, .ref q_t_w_tx0, .ref q_t_w_tx1, .ref q_t_w_waiting, .int w_waits])), (q_t_w_spoons, .inl (g.X.cI, 40, .inl w_spoons)), (q_t_sheets, .inl (g.X.cS, 4, .inr (.inr (.inr (.inr (shf q_t_sh0 q_t_sh1 q_t_sh2 q_t_sh3)))))), (q_t_sh0, .inr (1, [.ref q_t_sh0_numbers, .int (c_sh_bits 0), .int (c_sh_length 0)])), (q_t_sh0_numbers, .inl (g.X.cI, 24, .inl (c_sh_numbers 0))), (q_t_sh1, .inr (1, [.ref q_t_sh1_numbers, .int (c_sh_bits 1), .int (c_sh_length 1)])), (q_t_sh1_numbers, .inl (g.X.cI, 24, .inl (c_sh_numbers 1))), (q_t_sh2, .inr (1, [.ref q_t_sh2_numbers, .int (c_sh_bits 2), .int (c_sh_length 2)])), (q_t_sh2_numbers, .inl (g.X.cI, 24, .inl (c_sh_numbers 2))), (q_t_sh3, .inr (1, [.ref q_t_sh3_numbers, .int (c_sh_bits 3), .int (c_sh_length 3)])), (q_t_sh3_numbers, .inl (g.X.cI, 24, .inl (c_sh_numbers 3))), (q_t_th, .inr (4, [.ref q_t_th_cells, .ref q_t_th_sums, .ref q_t_th_groups]))] (by rfl) rfl ?_
      exact R _ _ _ _ dX6_fits_49 (Nat.le_of_ble_eq_true rfl) ⟨_, h, rfl⟩
    · refine st_aald G 28 rfl 4 rfl hin (v := .ref q_t_sh1) (by rw [ek]; rfl) dX6_fits_27 ?_
      refine st_astore_n G 29 rfl [(3, .ref q_t_sh1), (0, .ref q_t), (1, .int x1), (2, .int x2)] dX6_fits_28 rfl (by decide) rfl ?_
      refine st_aload_n G 30 rfl 0 rfl dX6_fits_29 rfl ?_
      refine st_cVio G lk_X6_228 (c_X1_missing g.l g.D g.X q_t_sh1 q_t_sh1_numbers (c_sh_bits 1) (c_sh_length 1) _ h) ⟨rfl, rfl, ⟨Nat.le_of_ble_eq_true rfl, Nat.le_of_ble_eq_true rfl⟩, Nat.zero_le _, Nat.zero_le _⟩ 33 rfl [7] rfl (by decide) 0 1 rfl rfl rfl (Nat.le_of_ble_eq_true rfl) rfl dX6_fits_30 (fun r_30 h => ?_)
      refine st_if_ne G 44 36 rfl dX6_fits_33 rfl (fun c => ?_) (fun c => ?_)
      · have h := h.1 c
        refine st_aload_n G 45 rfl 1 rfl dX6_fits_44 rfl ?_
        refine st_iconst G 46 rfl (2 : Int32) (by decide) dX6_fits_45 ?_
        refine st_cVi G lk_X6_55 (c_X6_error g.l g.D g.X q_t q_t_w q_t_k q_t_errors q_t_sheets q_t_r q_t_th q_t_sp c_images c_errors (2 : Int32) _ h) ⟨rfl, rfl, ⟨Nat.le_of_ble_eq_true rfl, Nat.le_of_ble_eq_true rfl⟩, Nat.zero_le _, Nat.zero_le _⟩ 49 rfl [0, 3] rfl (by decide) 0 6 rfl rfl rfl (Nat.le_of_ble_eq_true rfl) rfl dX6_fits_46 (fun r_46 w hq => ?_)
        obtain ⟨c_errors_46, h, rfl⟩ := hq
        refine st_wp (ws' := [(q_t, .inr (6, [.ref q_t_w, .ref q_t_k, .int c_images, .ref q_t_errors, .ref q_t_sheets, .ref q_t_r, .ref q_t_th, .ref q_t_sp])), (q_t_w, .inr (5, [.int w_people, .ref q_t_w_km, .ref q_t_w_father, .ref q_t_w_mother, .ref q_t_w_from, .ref q_t_w_spoons, .ref q_t_w_owed, .int w_year, .int w_z, .ref q_t_w_tape, .int w_bytes, .ref q_t_w_tx0, .ref q_t_w_tx1, .ref q_t_w_waiting, .int w_waits])), (q_t_w_spoons, .inl (g.X.cI, 40, .inl w_spoons)), (q_t_errors, .inl (g.X.cI, 7, .inl c_errors_46)), (q_t_sheets, .inl (g.X.cS, 4, .inr (.inr (.inr (.inr (shf q_t_sh0 q_t_sh1 q_t_sh2 q_t_sh3)))))), (q_t_sh0, .inr (1, [.ref q_t_sh0_numbers, .int (c_sh_bits 0), .int (c_sh_length 0)])), (q_t_sh0_numbers, .inl (g.X.cI, 24, .inl (c_sh_numbers 0))), (q_t_sh1, .inr (1, [.ref q_t_sh1_numbers, .int (c_sh_bits 1), .int (c_sh_length 1)])), (q_t_sh1_numbers, .inl (g.X.cI, 24, .inl (c_sh_numbers 1))), (q_t_sh2, .inr (1, [.ref q_t_sh2_numbers, .int (c_sh_bits 2), .int (c_sh_length 2)])), (q_t_sh2_numbers, .inl (g.X.cI, 24, .inl (c_sh_numbers 2))), (q_t_sh3, .inr (1, [.ref q_t_sh3_numbers, .int (c_sh_bits 3), .int (c_sh_length 3)])), (q_t_sh3_numbers, .inl (g.X.cI, 24, .inl (c_sh_numbers 3))), (q_t_th, .inr (4, [.ref q_t_th_cells, .ref q_t_th_sums, .ref q_t_th_groups]))]) 14 [1, 2, 4, 5, 6, 7, 8, 9, 10, 11, 12, 13] (by decide) rfl rfl (by rfl) [(q_t_w, .inr (5, [.int w_people, .ref q_t_w_km, .ref q_t_w_father, .ref q_t_w_mother, .ref q_t_w_from, .ref q_t_w_spoons, .ref q_t_w_owed, .int w_year, .int w_z, .ref q_t_w_tape, .int w_bytes, .ref q_t_w_tx0, .ref q_t_w_tx1, .ref q_t_w_waiting, .int w_waits])), (q_t_w_spoons, .inl (g.X.cI, 40, .inl w_spoons)), (q_t_sheets, .inl (g.X.cS, 4, .inr (.inr (.inr (.inr (shf q_t_sh0 q_t_sh1 q_t_sh2 q_t_sh3)))))), (q_t_sh0, .inr (1, [.ref q_t_sh0_numbers, .int (c_sh_bits 0), .int (c_sh_length 0)])), (q_t_sh0_numbers, .inl (g.X.cI, 24, .inl (c_sh_numbers 0))), (q_t_sh1, .inr (1, [.ref q_t_sh1_numbers, .int (c_sh_bits 1), .int (c_sh_length 1)])), (q_t_sh1_numbers, .inl (g.X.cI, 24, .inl (c_sh_numbers 1))), (q_t_sh2, .inr (1, [.ref q_t_sh2_numbers, .int (c_sh_bits 2), .int (c_sh_length 2)])), (q_t_sh2_numbers, .inl (g.X.cI, 24, .inl (c_sh_numbers 2))), (q_t_sh3, .inr (1, [.ref q_t_sh3_numbers, .int (c_sh_bits 3), .int (c_sh_length 3)])), (q_t_sh3_numbers, .inl (g.X.cI, 24, .inl (c_sh_numbers 3))), (q_t_th, .inr (4, [.ref q_t_th_cells, .ref q_t_th_sums, .ref q_t_th_groups]))] (by rfl) rfl ?_
        exact R _ _ _ _ dX6_fits_49 (Nat.le_of_ble_eq_true rfl) ⟨_, h, rfl⟩
      have h := h.2 c
      refine st_aload_n G 37 rfl 0 rfl dX6_fits_36 rfl ?_
      refine st_get G inX1 rfl 2 (by decide) wd_768 40 rfl 7 rfl rfl dX6_fits_37 ?_
      refine st_iconst G 41 rfl (5 : Int32) (by decide) dX6_fits_40 ?_
      refine st_icmp_le G 50 44 rfl dX6_fits_41 rfl (fun c => ?_) (fun c => ?_)
      · have h := h.1 c
        refine st_iload_n G 51 rfl 3 rfl dX6_fits_50 rfl ?_
        refine st_if_ne G 67 54 rfl dX6_fits_51 rfl (fun c => ?_) (fun c => ?_)
        · have h := h.1 c
          refine st_aload_n G 68 rfl 1 rfl dX6_fits_67 rfl ?_
          refine st_get G inX6 rfl 6 (by decide) wd_31 71 rfl 0 rfl rfl dX6_fits_68 ?_
          refine st_aload_n G 72 rfl 1 rfl dX6_fits_71 rfl ?_
          refine st_get G inX6 rfl 0 (by decide) wd_16 75 rfl 0 rfl rfl dX6_fits_72 ?_
          refine st_aload_n G 76 rfl 0 rfl dX6_fits_75 rfl ?_
          refine st_cVio G lk_X6_238 (c_X4_leastThatFits g.l g.D g.X q_t_th q_t_th_cells q_t_th_sums q_t_th_groups q_t_w q_t_w_km q_t_w_father q_t_w_mother q_t_w_from q_t_w_spoons q_t_w_owed q_t_w_tape q_t_w_tx0 q_t_w_tx1 q_t_w_waiting q_t_sh1 q_t_sh1_numbers w_people w_year w_z w_bytes w_waits w_spoons (c_sh_bits 1) (c_sh_length 1) (c_sh_numbers 1) _ h) ⟨rfl, rfl, ⟨Nat.le_of_ble_eq_true rfl, Nat.le_of_ble_eq_true rfl⟩, Nat.zero_le _, Nat.zero_le _⟩ 79 rfl [13, 1, 2, 7, 8] rfl (by decide) 0 4 rfl rfl rfl (Nat.le_of_ble_eq_true rfl) rfl dX6_fits_76 (fun r_76 h => ?_)
          refine st_istore G 81 rfl [(4, .int r_76), (3, .ref q_t_sh1), (0, .ref q_t), (1, .int x1), (2, .int x2)] dX6_fits_79 (by decide) rfl ?_
          refine st_iload G 83 rfl 0 rfl dX6_fits_81 ?_
          refine st_if_le G 91 86 rfl dX6_fits_83 rfl (fun c => ?_) (fun c => ?_)
          · have h := h.1 c
            refine st_aload_n G 92 rfl 2 rfl dX6_fits_91 rfl ?_
            refine st_iconst G 93 rfl (2 : Int32) (by decide) dX6_fits_92 ?_
            refine st_cVi G lk_X6_55 (c_X6_error g.l g.D g.X q_t q_t_w q_t_k q_t_errors q_t_sheets q_t_r q_t_th q_t_sp c_images c_errors (2 : Int32) _ h) ⟨rfl, rfl, ⟨Nat.le_of_ble_eq_true rfl, Nat.le_of_ble_eq_true rfl⟩, Nat.zero_le _, Nat.zero_le _⟩ 96 rfl [0, 3] rfl (by decide) 0 6 rfl rfl rfl (Nat.le_of_ble_eq_true rfl) rfl dX6_fits_93 (fun r_93 w hq => ?_)
            obtain ⟨c_errors_93, h, rfl⟩ := hq
            refine st_wp (ws' := [(q_t, .inr (6, [.ref q_t_w, .ref q_t_k, .int c_images, .ref q_t_errors, .ref q_t_sheets, .ref q_t_r, .ref q_t_th, .ref q_t_sp])), (q_t_w, .inr (5, [.int w_people, .ref q_t_w_km, .ref q_t_w_father, .ref q_t_w_mother, .ref q_t_w_from, .ref q_t_w_spoons, .ref q_t_w_owed, .int w_year, .int w_z, .ref q_t_w_tape, .int w_bytes, .ref q_t_w_tx0, .ref q_t_w_tx1, .ref q_t_w_waiting, .int w_waits])), (q_t_w_spoons, .inl (g.X.cI, 40, .inl w_spoons)), (q_t_errors, .inl (g.X.cI, 7, .inl c_errors_93)), (q_t_sheets, .inl (g.X.cS, 4, .inr (.inr (.inr (.inr (shf q_t_sh0 q_t_sh1 q_t_sh2 q_t_sh3)))))), (q_t_sh0, .inr (1, [.ref q_t_sh0_numbers, .int (c_sh_bits 0), .int (c_sh_length 0)])), (q_t_sh0_numbers, .inl (g.X.cI, 24, .inl (c_sh_numbers 0))), (q_t_sh1, .inr (1, [.ref q_t_sh1_numbers, .int (c_sh_bits 1), .int (c_sh_length 1)])), (q_t_sh1_numbers, .inl (g.X.cI, 24, .inl (c_sh_numbers 1))), (q_t_sh2, .inr (1, [.ref q_t_sh2_numbers, .int (c_sh_bits 2), .int (c_sh_length 2)])), (q_t_sh2_numbers, .inl (g.X.cI, 24, .inl (c_sh_numbers 2))), (q_t_sh3, .inr (1, [.ref q_t_sh3_numbers, .int (c_sh_bits 3), .int (c_sh_length 3)])), (q_t_sh3_numbers, .inl (g.X.cI, 24, .inl (c_sh_numbers 3))), (q_t_th, .inr (4, [.ref q_t_th_cells, .ref q_t_th_sums, .ref q_t_th_groups]))]) 14 [1, 2, 4, 5, 6, 7, 8, 9, 10, 11, 12, 13] (by decide) rfl rfl (by rfl) [(q_t_w, .inr (5, [.int w_people, .ref q_t_w_km, .ref q_t_w_father, .ref q_t_w_mother, .ref q_t_w_from, .ref q_t_w_spoons, .ref q_t_w_owed, .int w_year, .int w_z, .ref q_t_w_tape, .int w_bytes, .ref q_t_w_tx0, .ref q_t_w_tx1, .ref q_t_w_waiting, .int w_waits])), (q_t_w_spoons, .inl (g.X.cI, 40, .inl w_spoons)), (q_t_sheets, .inl (g.X.cS, 4, .inr (.inr (.inr (.inr (shf q_t_sh0 q_t_sh1 q_t_sh2 q_t_sh3)))))), (q_t_sh0, .inr (1, [.ref q_t_sh0_numbers, .int (c_sh_bits 0), .int (c_sh_length 0)])), (q_t_sh0_numbers, .inl (g.X.cI, 24, .inl (c_sh_numbers 0))), (q_t_sh1, .inr (1, [.ref q_t_sh1_numbers, .int (c_sh_bits 1), .int (c_sh_length 1)])), (q_t_sh1_numbers, .inl (g.X.cI, 24, .inl (c_sh_numbers 1))), (q_t_sh2, .inr (1, [.ref q_t_sh2_numbers, .int (c_sh_bits 2), .int (c_sh_length 2)])), (q_t_sh2_numbers, .inl (g.X.cI, 24, .inl (c_sh_numbers 2))), (q_t_sh3, .inr (1, [.ref q_t_sh3_numbers, .int (c_sh_bits 3), .int (c_sh_length 3)])), (q_t_sh3_numbers, .inl (g.X.cI, 24, .inl (c_sh_numbers 3))), (q_t_th, .inr (4, [.ref q_t_th_cells, .ref q_t_th_sums, .ref q_t_th_groups]))] (by rfl) rfl ?_
            exact R _ _ _ _ dX6_fits_96 (Nat.le_of_ble_eq_true rfl) ⟨_, h, rfl⟩
          have h := h.2 c
          refine st_iload G 88 rfl 0 rfl dX6_fits_86 ?_
          refine st_goto G 96 dX6_fits_88 rfl ?_
          exact R _ _ _ _ dX6_fits_96 (Nat.le_of_ble_eq_true rfl) ⟨_, h, rfl⟩
        have h := h.2 c
        refine st_aload_n G 55 rfl 1 rfl dX6_fits_54 rfl ?_
        refine st_get G inX6 rfl 6 (by decide) wd_31 58 rfl 0 rfl rfl dX6_fits_55 ?_
        refine st_aload_n G 59 rfl 1 rfl dX6_fits_58 rfl ?_
        refine st_get G inX6 rfl 0 (by decide) wd_16 62 rfl 0 rfl rfl dX6_fits_59 ?_
        refine st_aload_n G 63 rfl 0 rfl dX6_fits_62 rfl ?_
        refine st_cVio G lk_X6_234 (c_X4_setsThatFit g.l g.D g.X q_t_th q_t_th_cells q_t_th_sums q_t_th_groups q_t_w q_t_w_km q_t_w_father q_t_w_mother q_t_w_from q_t_w_spoons q_t_w_owed q_t_w_tape q_t_w_tx0 q_t_w_tx1 q_t_w_waiting q_t_sh1 q_t_sh1_numbers w_people w_year w_z w_bytes w_waits w_spoons (c_sh_bits 1) (c_sh_length 1) (c_sh_numbers 1) _ h) ⟨rfl, rfl, ⟨Nat.le_of_ble_eq_true rfl, Nat.le_of_ble_eq_true rfl⟩, Nat.zero_le _, Nat.zero_le _⟩ 66 rfl [13, 1, 2, 7, 8] rfl (by decide) 0 4 rfl rfl rfl (Nat.le_of_ble_eq_true rfl) rfl dX6_fits_63 (fun r_63 h => ?_)
        exact R _ _ _ _ dX6_fits_66 (Nat.le_of_ble_eq_true rfl) ⟨_, h, rfl⟩
      have h := h.2 c
      refine st_aload_n G 45 rfl 1 rfl dX6_fits_44 rfl ?_
      refine st_iconst G 46 rfl (2 : Int32) (by decide) dX6_fits_45 ?_
      refine st_cVi G lk_X6_55 (c_X6_error g.l g.D g.X q_t q_t_w q_t_k q_t_errors q_t_sheets q_t_r q_t_th q_t_sp c_images c_errors (2 : Int32) _ h) ⟨rfl, rfl, ⟨Nat.le_of_ble_eq_true rfl, Nat.le_of_ble_eq_true rfl⟩, Nat.zero_le _, Nat.zero_le _⟩ 49 rfl [0, 3] rfl (by decide) 0 6 rfl rfl rfl (Nat.le_of_ble_eq_true rfl) rfl dX6_fits_46 (fun r_46 w hq => ?_)
      obtain ⟨c_errors_46, h, rfl⟩ := hq
      refine st_wp (ws' := [(q_t, .inr (6, [.ref q_t_w, .ref q_t_k, .int c_images, .ref q_t_errors, .ref q_t_sheets, .ref q_t_r, .ref q_t_th, .ref q_t_sp])), (q_t_w, .inr (5, [.int w_people, .ref q_t_w_km, .ref q_t_w_father, .ref q_t_w_mother, .ref q_t_w_from, .ref q_t_w_spoons, .ref q_t_w_owed, .int w_year, .int w_z, .ref q_t_w_tape, .int w_bytes, .ref q_t_w_tx0, .ref q_t_w_tx1, .ref q_t_w_waiting, .int w_waits])), (q_t_w_spoons, .inl (g.X.cI, 40, .inl w_spoons)), (q_t_errors, .inl (g.X.cI, 7, .inl c_errors_46)), (q_t_sheets, .inl (g.X.cS, 4, .inr (.inr (.inr (.inr (shf q_t_sh0 q_t_sh1 q_t_sh2 q_t_sh3)))))), (q_t_sh0, .inr (1, [.ref q_t_sh0_numbers, .int (c_sh_bits 0), .int (c_sh_length 0)])), (q_t_sh0_numbers, .inl (g.X.cI, 24, .inl (c_sh_numbers 0))), (q_t_sh1, .inr (1, [.ref q_t_sh1_numbers, .int (c_sh_bits 1), .int (c_sh_length 1)])), (q_t_sh1_numbers, .inl (g.X.cI, 24, .inl (c_sh_numbers 1))), (q_t_sh2, .inr (1, [.ref q_t_sh2_numbers, .int (c_sh_bits 2), .int (c_sh_length 2)])), (q_t_sh2_numbers, .inl (g.X.cI, 24, .inl (c_sh_numbers 2))), (q_t_sh3, .inr (1, [.ref q_t_sh3_numbers, .int (c_sh_bits 3), .int (c_sh_length 3)])), (q_t_sh3_numbers, .inl (g.X.cI, 24, .inl (c_sh_numbers 3))), (q_t_th, .inr (4, [.ref q_t_th_cells, .ref q_t_th_sums, .ref q_t_th_groups]))]) 14 [1, 2, 4, 5, 6, 7, 8, 9, 10, 11, 12, 13] (by decide) rfl rfl (by rfl) [(q_t_w, .inr (5, [.int w_people, .ref q_t_w_km, .ref q_t_w_father, .ref q_t_w_mother, .ref q_t_w_from, .ref q_t_w_spoons, .ref q_t_w_owed, .int w_year, .int w_z, .ref q_t_w_tape, .int w_bytes, .ref q_t_w_tx0, .ref q_t_w_tx1, .ref q_t_w_waiting, .int w_waits])), (q_t_w_spoons, .inl (g.X.cI, 40, .inl w_spoons)), (q_t_sheets, .inl (g.X.cS, 4, .inr (.inr (.inr (.inr (shf q_t_sh0 q_t_sh1 q_t_sh2 q_t_sh3)))))), (q_t_sh0, .inr (1, [.ref q_t_sh0_numbers, .int (c_sh_bits 0), .int (c_sh_length 0)])), (q_t_sh0_numbers, .inl (g.X.cI, 24, .inl (c_sh_numbers 0))), (q_t_sh1, .inr (1, [.ref q_t_sh1_numbers, .int (c_sh_bits 1), .int (c_sh_length 1)])), (q_t_sh1_numbers, .inl (g.X.cI, 24, .inl (c_sh_numbers 1))), (q_t_sh2, .inr (1, [.ref q_t_sh2_numbers, .int (c_sh_bits 2), .int (c_sh_length 2)])), (q_t_sh2_numbers, .inl (g.X.cI, 24, .inl (c_sh_numbers 2))), (q_t_sh3, .inr (1, [.ref q_t_sh3_numbers, .int (c_sh_bits 3), .int (c_sh_length 3)])), (q_t_sh3_numbers, .inl (g.X.cI, 24, .inl (c_sh_numbers 3))), (q_t_th, .inr (4, [.ref q_t_th_cells, .ref q_t_th_sums, .ref q_t_th_groups]))] (by rfl) rfl ?_
      exact R _ _ _ _ dX6_fits_49 (Nat.le_of_ble_eq_true rfl) ⟨_, h, rfl⟩
    · refine st_aald G 28 rfl 4 rfl hin (v := .ref q_t_sh2) (by rw [ek]; rfl) dX6_fits_27 ?_
      refine st_astore_n G 29 rfl [(3, .ref q_t_sh2), (0, .ref q_t), (1, .int x1), (2, .int x2)] dX6_fits_28 rfl (by decide) rfl ?_
      refine st_aload_n G 30 rfl 0 rfl dX6_fits_29 rfl ?_
      refine st_cVio G lk_X6_228 (c_X1_missing g.l g.D g.X q_t_sh2 q_t_sh2_numbers (c_sh_bits 2) (c_sh_length 2) _ h) ⟨rfl, rfl, ⟨Nat.le_of_ble_eq_true rfl, Nat.le_of_ble_eq_true rfl⟩, Nat.zero_le _, Nat.zero_le _⟩ 33 rfl [9] rfl (by decide) 0 1 rfl rfl rfl (Nat.le_of_ble_eq_true rfl) rfl dX6_fits_30 (fun r_30 h => ?_)
      refine st_if_ne G 44 36 rfl dX6_fits_33 rfl (fun c => ?_) (fun c => ?_)
      · have h := h.1 c
        refine st_aload_n G 45 rfl 1 rfl dX6_fits_44 rfl ?_
        refine st_iconst G 46 rfl (2 : Int32) (by decide) dX6_fits_45 ?_
        refine st_cVi G lk_X6_55 (c_X6_error g.l g.D g.X q_t q_t_w q_t_k q_t_errors q_t_sheets q_t_r q_t_th q_t_sp c_images c_errors (2 : Int32) _ h) ⟨rfl, rfl, ⟨Nat.le_of_ble_eq_true rfl, Nat.le_of_ble_eq_true rfl⟩, Nat.zero_le _, Nat.zero_le _⟩ 49 rfl [0, 3] rfl (by decide) 0 6 rfl rfl rfl (Nat.le_of_ble_eq_true rfl) rfl dX6_fits_46 (fun r_46 w hq => ?_)
        obtain ⟨c_errors_46, h, rfl⟩ := hq
        refine st_wp (ws' := [(q_t, .inr (6, [.ref q_t_w, .ref q_t_k, .int c_images, .ref q_t_errors, .ref q_t_sheets, .ref q_t_r, .ref q_t_th, .ref q_t_sp])), (q_t_w, .inr (5, [.int w_people, .ref q_t_w_km, .ref q_t_w_father, .ref q_t_w_mother, .ref q_t_w_from, .ref q_t_w_spoons, .ref q_t_w_owed, .int w_year, .int w_z, .ref q_t_w_tape, .int w_bytes, .ref q_t_w_tx0, .ref q_t_w_tx1, .ref q_t_w_waiting, .int w_waits])), (q_t_w_spoons, .inl (g.X.cI, 40, .inl w_spoons)), (q_t_errors, .inl (g.X.cI, 7, .inl c_errors_46)), (q_t_sheets, .inl (g.X.cS, 4, .inr (.inr (.inr (.inr (shf q_t_sh0 q_t_sh1 q_t_sh2 q_t_sh3)))))), (q_t_sh0, .inr (1, [.ref q_t_sh0_numbers, .int (c_sh_bits 0), .int (c_sh_length 0)])), (q_t_sh0_numbers, .inl (g.X.cI, 24, .inl (c_sh_numbers 0))), (q_t_sh1, .inr (1, [.ref q_t_sh1_numbers, .int (c_sh_bits 1), .int (c_sh_length 1)])), (q_t_sh1_numbers, .inl (g.X.cI, 24, .inl (c_sh_numbers 1))), (q_t_sh2, .inr (1, [.ref q_t_sh2_numbers, .int (c_sh_bits 2), .int (c_sh_length 2)])), (q_t_sh2_numbers, .inl (g.X.cI, 24, .inl (c_sh_numbers 2))), (q_t_sh3, .inr (1, [.ref q_t_sh3_numbers, .int (c_sh_bits 3), .int (c_sh_length 3)])), (q_t_sh3_numbers, .inl (g.X.cI, 24, .inl (c_sh_numbers 3))), (q_t_th, .inr (4, [.ref q_t_th_cells, .ref q_t_th_sums, .ref q_t_th_groups]))]) 14 [1, 2, 4, 5, 6, 7, 8, 9, 10, 11, 12, 13] (by decide) rfl rfl (by rfl) [(q_t_w, .inr (5, [.int w_people, .ref q_t_w_km, .ref q_t_w_father, .ref q_t_w_mother, .ref q_t_w_from, .ref q_t_w_spoons, .ref q_t_w_owed, .int w_year, .int w_z, .ref q_t_w_tape, .int w_bytes, .ref q_t_w_tx0, .ref q_t_w_tx1, .ref q_t_w_waiting, .int w_waits])), (q_t_w_spoons, .inl (g.X.cI, 40, .inl w_spoons)), (q_t_sheets, .inl (g.X.cS, 4, .inr (.inr (.inr (.inr (shf q_t_sh0 q_t_sh1 q_t_sh2 q_t_sh3)))))), (q_t_sh0, .inr (1, [.ref q_t_sh0_numbers, .int (c_sh_bits 0), .int (c_sh_length 0)])), (q_t_sh0_numbers, .inl (g.X.cI, 24, .inl (c_sh_numbers 0))), (q_t_sh1, .inr (1, [.ref q_t_sh1_numbers, .int (c_sh_bits 1), .int (c_sh_length 1)])), (q_t_sh1_numbers, .inl (g.X.cI, 24, .inl (c_sh_numbers 1))), (q_t_sh2, .inr (1, [.ref q_t_sh2_numbers, .int (c_sh_bits 2), .int (c_sh_length 2)])), (q_t_sh2_numbers, .inl (g.X.cI, 24, .inl (c_sh_numbers 2))), (q_t_sh3, .inr (1, [.ref q_t_sh3_numbers, .int (c_sh_bits 3), .int (c_sh_length 3)])), (q_t_sh3_numbers, .inl (g.X.cI, 24, .inl (c_sh_numbers 3))), (q_t_th, .inr (4, [.ref q_t_th_cells, .ref q_t_th_sums, .ref q_t_th_groups]))] (by rfl) rfl ?_
        exact R _ _ _ _ dX6_fits_49 (Nat.le_of_ble_eq_true rfl) ⟨_, h, rfl⟩
      have h := h.2 c
      refine st_aload_n G 37 rfl 0 rfl dX6_fits_36 rfl ?_
      refine st_get G inX1 rfl 2 (by decide) wd_768 40 rfl 9 rfl rfl dX6_fits_37 ?_
      refine st_iconst G 41 rfl (5 : Int32) (by decide) dX6_fits_40 ?_
      refine st_icmp_le G 50 44 rfl dX6_fits_41 rfl (fun c => ?_) (fun c => ?_)
      · have h := h.1 c
        refine st_iload_n G 51 rfl 3 rfl dX6_fits_50 rfl ?_
        refine st_if_ne G 67 54 rfl dX6_fits_51 rfl (fun c => ?_) (fun c => ?_)
        · have h := h.1 c
          refine st_aload_n G 68 rfl 1 rfl dX6_fits_67 rfl ?_
          refine st_get G inX6 rfl 6 (by decide) wd_31 71 rfl 0 rfl rfl dX6_fits_68 ?_
          refine st_aload_n G 72 rfl 1 rfl dX6_fits_71 rfl ?_
          refine st_get G inX6 rfl 0 (by decide) wd_16 75 rfl 0 rfl rfl dX6_fits_72 ?_
          refine st_aload_n G 76 rfl 0 rfl dX6_fits_75 rfl ?_
          refine st_cVio G lk_X6_238 (c_X4_leastThatFits g.l g.D g.X q_t_th q_t_th_cells q_t_th_sums q_t_th_groups q_t_w q_t_w_km q_t_w_father q_t_w_mother q_t_w_from q_t_w_spoons q_t_w_owed q_t_w_tape q_t_w_tx0 q_t_w_tx1 q_t_w_waiting q_t_sh2 q_t_sh2_numbers w_people w_year w_z w_bytes w_waits w_spoons (c_sh_bits 2) (c_sh_length 2) (c_sh_numbers 2) _ h) ⟨rfl, rfl, ⟨Nat.le_of_ble_eq_true rfl, Nat.le_of_ble_eq_true rfl⟩, Nat.zero_le _, Nat.zero_le _⟩ 79 rfl [13, 1, 2, 9, 10] rfl (by decide) 0 4 rfl rfl rfl (Nat.le_of_ble_eq_true rfl) rfl dX6_fits_76 (fun r_76 h => ?_)
          refine st_istore G 81 rfl [(4, .int r_76), (3, .ref q_t_sh2), (0, .ref q_t), (1, .int x1), (2, .int x2)] dX6_fits_79 (by decide) rfl ?_
          refine st_iload G 83 rfl 0 rfl dX6_fits_81 ?_
          refine st_if_le G 91 86 rfl dX6_fits_83 rfl (fun c => ?_) (fun c => ?_)
          · have h := h.1 c
            refine st_aload_n G 92 rfl 2 rfl dX6_fits_91 rfl ?_
            refine st_iconst G 93 rfl (2 : Int32) (by decide) dX6_fits_92 ?_
            refine st_cVi G lk_X6_55 (c_X6_error g.l g.D g.X q_t q_t_w q_t_k q_t_errors q_t_sheets q_t_r q_t_th q_t_sp c_images c_errors (2 : Int32) _ h) ⟨rfl, rfl, ⟨Nat.le_of_ble_eq_true rfl, Nat.le_of_ble_eq_true rfl⟩, Nat.zero_le _, Nat.zero_le _⟩ 96 rfl [0, 3] rfl (by decide) 0 6 rfl rfl rfl (Nat.le_of_ble_eq_true rfl) rfl dX6_fits_93 (fun r_93 w hq => ?_)
            obtain ⟨c_errors_93, h, rfl⟩ := hq
            refine st_wp (ws' := [(q_t, .inr (6, [.ref q_t_w, .ref q_t_k, .int c_images, .ref q_t_errors, .ref q_t_sheets, .ref q_t_r, .ref q_t_th, .ref q_t_sp])), (q_t_w, .inr (5, [.int w_people, .ref q_t_w_km, .ref q_t_w_father, .ref q_t_w_mother, .ref q_t_w_from, .ref q_t_w_spoons, .ref q_t_w_owed, .int w_year, .int w_z, .ref q_t_w_tape, .int w_bytes, .ref q_t_w_tx0, .ref q_t_w_tx1, .ref q_t_w_waiting, .int w_waits])), (q_t_w_spoons, .inl (g.X.cI, 40, .inl w_spoons)), (q_t_errors, .inl (g.X.cI, 7, .inl c_errors_93)), (q_t_sheets, .inl (g.X.cS, 4, .inr (.inr (.inr (.inr (shf q_t_sh0 q_t_sh1 q_t_sh2 q_t_sh3)))))), (q_t_sh0, .inr (1, [.ref q_t_sh0_numbers, .int (c_sh_bits 0), .int (c_sh_length 0)])), (q_t_sh0_numbers, .inl (g.X.cI, 24, .inl (c_sh_numbers 0))), (q_t_sh1, .inr (1, [.ref q_t_sh1_numbers, .int (c_sh_bits 1), .int (c_sh_length 1)])), (q_t_sh1_numbers, .inl (g.X.cI, 24, .inl (c_sh_numbers 1))), (q_t_sh2, .inr (1, [.ref q_t_sh2_numbers, .int (c_sh_bits 2), .int (c_sh_length 2)])), (q_t_sh2_numbers, .inl (g.X.cI, 24, .inl (c_sh_numbers 2))), (q_t_sh3, .inr (1, [.ref q_t_sh3_numbers, .int (c_sh_bits 3), .int (c_sh_length 3)])), (q_t_sh3_numbers, .inl (g.X.cI, 24, .inl (c_sh_numbers 3))), (q_t_th, .inr (4, [.ref q_t_th_cells, .ref q_t_th_sums, .ref q_t_th_groups]))]) 14 [1, 2, 4, 5, 6, 7, 8, 9, 10, 11, 12, 13] (by decide) rfl rfl (by rfl) [(q_t_w, .inr (5, [.int w_people, .ref q_t_w_km, .ref q_t_w_father, .ref q_t_w_mother, .ref q_t_w_from, .ref q_t_w_spoons, .ref q_t_w_owed, .int w_year, .int w_z, .ref q_t_w_tape, .int w_bytes, .ref q_t_w_tx0, .ref q_t_w_tx1, .ref q_t_w_waiting, .int w_waits])), (q_t_w_spoons, .inl (g.X.cI, 40, .inl w_spoons)), (q_t_sheets, .inl (g.X.cS, 4, .inr (.inr (.inr (.inr (shf q_t_sh0 q_t_sh1 q_t_sh2 q_t_sh3)))))), (q_t_sh0, .inr (1, [.ref q_t_sh0_numbers, .int (c_sh_bits 0), .int (c_sh_length 0)])), (q_t_sh0_numbers, .inl (g.X.cI, 24, .inl (c_sh_numbers 0))), (q_t_sh1, .inr (1, [.ref q_t_sh1_numbers, .int (c_sh_bits 1), .int (c_sh_length 1)])), (q_t_sh1_numbers, .inl (g.X.cI, 24, .inl (c_sh_numbers 1))), (q_t_sh2, .inr (1, [.ref q_t_sh2_numbers, .int (c_sh_bits 2), .int (c_sh_length 2)])), (q_t_sh2_numbers, .inl (g.X.cI, 24, .inl (c_sh_numbers 2))), (q_t_sh3, .inr (1, [.ref q_t_sh3_numbers, .int (c_sh_bits 3), .int (c_sh_length 3)])), (q_t_sh3_numbers, .inl (g.X.cI, 24, .inl (c_sh_numbers 3))), (q_t_th, .inr (4, [.ref q_t_th_cells, .ref q_t_th_sums, .ref q_t_th_groups]))] (by rfl) rfl ?_
            exact R _ _ _ _ dX6_fits_96 (Nat.le_of_ble_eq_true rfl) ⟨_, h, rfl⟩
          have h := h.2 c
          refine st_iload G 88 rfl 0 rfl dX6_fits_86 ?_
          refine st_goto G 96 dX6_fits_88 rfl ?_
          exact R _ _ _ _ dX6_fits_96 (Nat.le_of_ble_eq_true rfl) ⟨_, h, rfl⟩
        have h := h.2 c
        refine st_aload_n G 55 rfl 1 rfl dX6_fits_54 rfl ?_
        refine st_get G inX6 rfl 6 (by decide) wd_31 58 rfl 0 rfl rfl dX6_fits_55 ?_
        refine st_aload_n G 59 rfl 1 rfl dX6_fits_58 rfl ?_
        refine st_get G inX6 rfl 0 (by decide) wd_16 62 rfl 0 rfl rfl dX6_fits_59 ?_
        refine st_aload_n G 63 rfl 0 rfl dX6_fits_62 rfl ?_
        refine st_cVio G lk_X6_234 (c_X4_setsThatFit g.l g.D g.X q_t_th q_t_th_cells q_t_th_sums q_t_th_groups q_t_w q_t_w_km q_t_w_father q_t_w_mother q_t_w_from q_t_w_spoons q_t_w_owed q_t_w_tape q_t_w_tx0 q_t_w_tx1 q_t_w_waiting q_t_sh2 q_t_sh2_numbers w_people w_year w_z w_bytes w_waits w_spoons (c_sh_bits 2) (c_sh_length 2) (c_sh_numbers 2) _ h) ⟨rfl, rfl, ⟨Nat.le_of_ble_eq_true rfl, Nat.le_of_ble_eq_true rfl⟩, Nat.zero_le _, Nat.zero_le _⟩ 66 rfl [13, 1, 2, 9, 10] rfl (by decide) 0 4 rfl rfl rfl (Nat.le_of_ble_eq_true rfl) rfl dX6_fits_63 (fun r_63 h => ?_)
        exact R _ _ _ _ dX6_fits_66 (Nat.le_of_ble_eq_true rfl) ⟨_, h, rfl⟩
      have h := h.2 c
      refine st_aload_n G 45 rfl 1 rfl dX6_fits_44 rfl ?_
      refine st_iconst G 46 rfl (2 : Int32) (by decide) dX6_fits_45 ?_
      refine st_cVi G lk_X6_55 (c_X6_error g.l g.D g.X q_t q_t_w q_t_k q_t_errors q_t_sheets q_t_r q_t_th q_t_sp c_images c_errors (2 : Int32) _ h) ⟨rfl, rfl, ⟨Nat.le_of_ble_eq_true rfl, Nat.le_of_ble_eq_true rfl⟩, Nat.zero_le _, Nat.zero_le _⟩ 49 rfl [0, 3] rfl (by decide) 0 6 rfl rfl rfl (Nat.le_of_ble_eq_true rfl) rfl dX6_fits_46 (fun r_46 w hq => ?_)
      obtain ⟨c_errors_46, h, rfl⟩ := hq
      refine st_wp (ws' := [(q_t, .inr (6, [.ref q_t_w, .ref q_t_k, .int c_images, .ref q_t_errors, .ref q_t_sheets, .ref q_t_r, .ref q_t_th, .ref q_t_sp])), (q_t_w, .inr (5, [.int w_people, .ref q_t_w_km, .ref q_t_w_father, .ref q_t_w_mother, .ref q_t_w_from, .ref q_t_w_spoons, .ref q_t_w_owed, .int w_year, .int w_z, .ref q_t_w_tape, .int w_bytes, .ref q_t_w_tx0, .ref q_t_w_tx1, .ref q_t_w_waiting, .int w_waits])), (q_t_w_spoons, .inl (g.X.cI, 40, .inl w_spoons)), (q_t_errors, .inl (g.X.cI, 7, .inl c_errors_46)), (q_t_sheets, .inl (g.X.cS, 4, .inr (.inr (.inr (.inr (shf q_t_sh0 q_t_sh1 q_t_sh2 q_t_sh3)))))), (q_t_sh0, .inr (1, [.ref q_t_sh0_numbers, .int (c_sh_bits 0), .int (c_sh_length 0)])), (q_t_sh0_numbers, .inl (g.X.cI, 24, .inl (c_sh_numbers 0))), (q_t_sh1, .inr (1, [.ref q_t_sh1_numbers, .int (c_sh_bits 1), .int (c_sh_length 1)])), (q_t_sh1_numbers, .inl (g.X.cI, 24, .inl (c_sh_numbers 1))), (q_t_sh2, .inr (1, [.ref q_t_sh2_numbers, .int (c_sh_bits 2), .int (c_sh_length 2)])), (q_t_sh2_numbers, .inl (g.X.cI, 24, .inl (c_sh_numbers 2))), (q_t_sh3, .inr (1, [.ref q_t_sh3_numbers, .int (c_sh_bits 3), .int (c_sh_length 3)])), (q_t_sh3_numbers, .inl (g.X.cI, 24, .inl (c_sh_numbers 3))), (q_t_th, .inr (4, [.ref q_t_th_cells, .ref q_t_th_sums, .ref q_t_th_groups]))]) 14 [1, 2, 4, 5, 6, 7, 8, 9, 10, 11, 12, 13] (by decide) rfl rfl (by rfl) [(q_t_w, .inr (5, [.int w_people, .ref q_t_w_km, .ref q_t_w_father, .ref q_t_w_mother, .ref q_t_w_from, .ref q_t_w_spoons, .ref q_t_w_owed, .int w_year, .int w_z, .ref q_t_w_tape, .int w_bytes, .ref q_t_w_tx0, .ref q_t_w_tx1, .ref q_t_w_waiting, .int w_waits])), (q_t_w_spoons, .inl (g.X.cI, 40, .inl w_spoons)), (q_t_sheets, .inl (g.X.cS, 4, .inr (.inr (.inr (.inr (shf q_t_sh0 q_t_sh1 q_t_sh2 q_t_sh3)))))), (q_t_sh0, .inr (1, [.ref q_t_sh0_numbers, .int (c_sh_bits 0), .int (c_sh_length 0)])), (q_t_sh0_numbers, .inl (g.X.cI, 24, .inl (c_sh_numbers 0))), (q_t_sh1, .inr (1, [.ref q_t_sh1_numbers, .int (c_sh_bits 1), .int (c_sh_length 1)])), (q_t_sh1_numbers, .inl (g.X.cI, 24, .inl (c_sh_numbers 1))), (q_t_sh2, .inr (1, [.ref q_t_sh2_numbers, .int (c_sh_bits 2), .int (c_sh_length 2)])), (q_t_sh2_numbers, .inl (g.X.cI, 24, .inl (c_sh_numbers 2))), (q_t_sh3, .inr (1, [.ref q_t_sh3_numbers, .int (c_sh_bits 3), .int (c_sh_length 3)])), (q_t_sh3_numbers, .inl (g.X.cI, 24, .inl (c_sh_numbers 3))), (q_t_th, .inr (4, [.ref q_t_th_cells, .ref q_t_th_sums, .ref q_t_th_groups]))] (by rfl) rfl ?_
      exact R _ _ _ _ dX6_fits_49 (Nat.le_of_ble_eq_true rfl) ⟨_, h, rfl⟩
    · refine st_aald G 28 rfl 4 rfl hin (v := .ref q_t_sh3) (by rw [ek]; rfl) dX6_fits_27 ?_
      refine st_astore_n G 29 rfl [(3, .ref q_t_sh3), (0, .ref q_t), (1, .int x1), (2, .int x2)] dX6_fits_28 rfl (by decide) rfl ?_
      refine st_aload_n G 30 rfl 0 rfl dX6_fits_29 rfl ?_
      refine st_cVio G lk_X6_228 (c_X1_missing g.l g.D g.X q_t_sh3 q_t_sh3_numbers (c_sh_bits 3) (c_sh_length 3) _ h) ⟨rfl, rfl, ⟨Nat.le_of_ble_eq_true rfl, Nat.le_of_ble_eq_true rfl⟩, Nat.zero_le _, Nat.zero_le _⟩ 33 rfl [11] rfl (by decide) 0 1 rfl rfl rfl (Nat.le_of_ble_eq_true rfl) rfl dX6_fits_30 (fun r_30 h => ?_)
      refine st_if_ne G 44 36 rfl dX6_fits_33 rfl (fun c => ?_) (fun c => ?_)
      · have h := h.1 c
        refine st_aload_n G 45 rfl 1 rfl dX6_fits_44 rfl ?_
        refine st_iconst G 46 rfl (2 : Int32) (by decide) dX6_fits_45 ?_
        refine st_cVi G lk_X6_55 (c_X6_error g.l g.D g.X q_t q_t_w q_t_k q_t_errors q_t_sheets q_t_r q_t_th q_t_sp c_images c_errors (2 : Int32) _ h) ⟨rfl, rfl, ⟨Nat.le_of_ble_eq_true rfl, Nat.le_of_ble_eq_true rfl⟩, Nat.zero_le _, Nat.zero_le _⟩ 49 rfl [0, 3] rfl (by decide) 0 6 rfl rfl rfl (Nat.le_of_ble_eq_true rfl) rfl dX6_fits_46 (fun r_46 w hq => ?_)
        obtain ⟨c_errors_46, h, rfl⟩ := hq
        refine st_wp (ws' := [(q_t, .inr (6, [.ref q_t_w, .ref q_t_k, .int c_images, .ref q_t_errors, .ref q_t_sheets, .ref q_t_r, .ref q_t_th, .ref q_t_sp])), (q_t_w, .inr (5, [.int w_people, .ref q_t_w_km, .ref q_t_w_father, .ref q_t_w_mother, .ref q_t_w_from, .ref q_t_w_spoons, .ref q_t_w_owed, .int w_year, .int w_z, .ref q_t_w_tape, .int w_bytes, .ref q_t_w_tx0, .ref q_t_w_tx1, .ref q_t_w_waiting, .int w_waits])), (q_t_w_spoons, .inl (g.X.cI, 40, .inl w_spoons)), (q_t_errors, .inl (g.X.cI, 7, .inl c_errors_46)), (q_t_sheets, .inl (g.X.cS, 4, .inr (.inr (.inr (.inr (shf q_t_sh0 q_t_sh1 q_t_sh2 q_t_sh3)))))), (q_t_sh0, .inr (1, [.ref q_t_sh0_numbers, .int (c_sh_bits 0), .int (c_sh_length 0)])), (q_t_sh0_numbers, .inl (g.X.cI, 24, .inl (c_sh_numbers 0))), (q_t_sh1, .inr (1, [.ref q_t_sh1_numbers, .int (c_sh_bits 1), .int (c_sh_length 1)])), (q_t_sh1_numbers, .inl (g.X.cI, 24, .inl (c_sh_numbers 1))), (q_t_sh2, .inr (1, [.ref q_t_sh2_numbers, .int (c_sh_bits 2), .int (c_sh_length 2)])), (q_t_sh2_numbers, .inl (g.X.cI, 24, .inl (c_sh_numbers 2))), (q_t_sh3, .inr (1, [.ref q_t_sh3_numbers, .int (c_sh_bits 3), .int (c_sh_length 3)])), (q_t_sh3_numbers, .inl (g.X.cI, 24, .inl (c_sh_numbers 3))), (q_t_th, .inr (4, [.ref q_t_th_cells, .ref q_t_th_sums, .ref q_t_th_groups]))]) 14 [1, 2, 4, 5, 6, 7, 8, 9, 10, 11, 12, 13] (by decide) rfl rfl (by rfl) [(q_t_w, .inr (5, [.int w_people, .ref q_t_w_km, .ref q_t_w_father, .ref q_t_w_mother, .ref q_t_w_from, .ref q_t_w_spoons, .ref q_t_w_owed, .int w_year, .int w_z, .ref q_t_w_tape, .int w_bytes, .ref q_t_w_tx0, .ref q_t_w_tx1, .ref q_t_w_waiting, .int w_waits])), (q_t_w_spoons, .inl (g.X.cI, 40, .inl w_spoons)), (q_t_sheets, .inl (g.X.cS, 4, .inr (.inr (.inr (.inr (shf q_t_sh0 q_t_sh1 q_t_sh2 q_t_sh3)))))), (q_t_sh0, .inr (1, [.ref q_t_sh0_numbers, .int (c_sh_bits 0), .int (c_sh_length 0)])), (q_t_sh0_numbers, .inl (g.X.cI, 24, .inl (c_sh_numbers 0))), (q_t_sh1, .inr (1, [.ref q_t_sh1_numbers, .int (c_sh_bits 1), .int (c_sh_length 1)])), (q_t_sh1_numbers, .inl (g.X.cI, 24, .inl (c_sh_numbers 1))), (q_t_sh2, .inr (1, [.ref q_t_sh2_numbers, .int (c_sh_bits 2), .int (c_sh_length 2)])), (q_t_sh2_numbers, .inl (g.X.cI, 24, .inl (c_sh_numbers 2))), (q_t_sh3, .inr (1, [.ref q_t_sh3_numbers, .int (c_sh_bits 3), .int (c_sh_length 3)])), (q_t_sh3_numbers, .inl (g.X.cI, 24, .inl (c_sh_numbers 3))), (q_t_th, .inr (4, [.ref q_t_th_cells, .ref q_t_th_sums, .ref q_t_th_groups]))] (by rfl) rfl ?_
        exact R _ _ _ _ dX6_fits_49 (Nat.le_of_ble_eq_true rfl) ⟨_, h, rfl⟩
      have h := h.2 c
      refine st_aload_n G 37 rfl 0 rfl dX6_fits_36 rfl ?_
      refine st_get G inX1 rfl 2 (by decide) wd_768 40 rfl 11 rfl rfl dX6_fits_37 ?_
      refine st_iconst G 41 rfl (5 : Int32) (by decide) dX6_fits_40 ?_
      refine st_icmp_le G 50 44 rfl dX6_fits_41 rfl (fun c => ?_) (fun c => ?_)
      · have h := h.1 c
        refine st_iload_n G 51 rfl 3 rfl dX6_fits_50 rfl ?_
        refine st_if_ne G 67 54 rfl dX6_fits_51 rfl (fun c => ?_) (fun c => ?_)
        · have h := h.1 c
          refine st_aload_n G 68 rfl 1 rfl dX6_fits_67 rfl ?_
          refine st_get G inX6 rfl 6 (by decide) wd_31 71 rfl 0 rfl rfl dX6_fits_68 ?_
          refine st_aload_n G 72 rfl 1 rfl dX6_fits_71 rfl ?_
          refine st_get G inX6 rfl 0 (by decide) wd_16 75 rfl 0 rfl rfl dX6_fits_72 ?_
          refine st_aload_n G 76 rfl 0 rfl dX6_fits_75 rfl ?_
          refine st_cVio G lk_X6_238 (c_X4_leastThatFits g.l g.D g.X q_t_th q_t_th_cells q_t_th_sums q_t_th_groups q_t_w q_t_w_km q_t_w_father q_t_w_mother q_t_w_from q_t_w_spoons q_t_w_owed q_t_w_tape q_t_w_tx0 q_t_w_tx1 q_t_w_waiting q_t_sh3 q_t_sh3_numbers w_people w_year w_z w_bytes w_waits w_spoons (c_sh_bits 3) (c_sh_length 3) (c_sh_numbers 3) _ h) ⟨rfl, rfl, ⟨Nat.le_of_ble_eq_true rfl, Nat.le_of_ble_eq_true rfl⟩, Nat.zero_le _, Nat.zero_le _⟩ 79 rfl [13, 1, 2, 11, 12] rfl (by decide) 0 4 rfl rfl rfl (Nat.le_of_ble_eq_true rfl) rfl dX6_fits_76 (fun r_76 h => ?_)
          refine st_istore G 81 rfl [(4, .int r_76), (3, .ref q_t_sh3), (0, .ref q_t), (1, .int x1), (2, .int x2)] dX6_fits_79 (by decide) rfl ?_
          refine st_iload G 83 rfl 0 rfl dX6_fits_81 ?_
          refine st_if_le G 91 86 rfl dX6_fits_83 rfl (fun c => ?_) (fun c => ?_)
          · have h := h.1 c
            refine st_aload_n G 92 rfl 2 rfl dX6_fits_91 rfl ?_
            refine st_iconst G 93 rfl (2 : Int32) (by decide) dX6_fits_92 ?_
            refine st_cVi G lk_X6_55 (c_X6_error g.l g.D g.X q_t q_t_w q_t_k q_t_errors q_t_sheets q_t_r q_t_th q_t_sp c_images c_errors (2 : Int32) _ h) ⟨rfl, rfl, ⟨Nat.le_of_ble_eq_true rfl, Nat.le_of_ble_eq_true rfl⟩, Nat.zero_le _, Nat.zero_le _⟩ 96 rfl [0, 3] rfl (by decide) 0 6 rfl rfl rfl (Nat.le_of_ble_eq_true rfl) rfl dX6_fits_93 (fun r_93 w hq => ?_)
            obtain ⟨c_errors_93, h, rfl⟩ := hq
            refine st_wp (ws' := [(q_t, .inr (6, [.ref q_t_w, .ref q_t_k, .int c_images, .ref q_t_errors, .ref q_t_sheets, .ref q_t_r, .ref q_t_th, .ref q_t_sp])), (q_t_w, .inr (5, [.int w_people, .ref q_t_w_km, .ref q_t_w_father, .ref q_t_w_mother, .ref q_t_w_from, .ref q_t_w_spoons, .ref q_t_w_owed, .int w_year, .int w_z, .ref q_t_w_tape, .int w_bytes, .ref q_t_w_tx0, .ref q_t_w_tx1, .ref q_t_w_waiting, .int w_waits])), (q_t_w_spoons, .inl (g.X.cI, 40, .inl w_spoons)), (q_t_errors, .inl (g.X.cI, 7, .inl c_errors_93)), (q_t_sheets, .inl (g.X.cS, 4, .inr (.inr (.inr (.inr (shf q_t_sh0 q_t_sh1 q_t_sh2 q_t_sh3)))))), (q_t_sh0, .inr (1, [.ref q_t_sh0_numbers, .int (c_sh_bits 0), .int (c_sh_length 0)])), (q_t_sh0_numbers, .inl (g.X.cI, 24, .inl (c_sh_numbers 0))), (q_t_sh1, .inr (1, [.ref q_t_sh1_numbers, .int (c_sh_bits 1), .int (c_sh_length 1)])), (q_t_sh1_numbers, .inl (g.X.cI, 24, .inl (c_sh_numbers 1))), (q_t_sh2, .inr (1, [.ref q_t_sh2_numbers, .int (c_sh_bits 2), .int (c_sh_length 2)])), (q_t_sh2_numbers, .inl (g.X.cI, 24, .inl (c_sh_numbers 2))), (q_t_sh3, .inr (1, [.ref q_t_sh3_numbers, .int (c_sh_bits 3), .int (c_sh_length 3)])), (q_t_sh3_numbers, .inl (g.X.cI, 24, .inl (c_sh_numbers 3))), (q_t_th, .inr (4, [.ref q_t_th_cells, .ref q_t_th_sums, .ref q_t_th_groups]))]) 14 [1, 2, 4, 5, 6, 7, 8, 9, 10, 11, 12, 13] (by decide) rfl rfl (by rfl) [(q_t_w, .inr (5, [.int w_people, .ref q_t_w_km, .ref q_t_w_father, .ref q_t_w_mother, .ref q_t_w_from, .ref q_t_w_spoons, .ref q_t_w_owed, .int w_year, .int w_z, .ref q_t_w_tape, .int w_bytes, .ref q_t_w_tx0, .ref q_t_w_tx1, .ref q_t_w_waiting, .int w_waits])), (q_t_w_spoons, .inl (g.X.cI, 40, .inl w_spoons)), (q_t_sheets, .inl (g.X.cS, 4, .inr (.inr (.inr (.inr (shf q_t_sh0 q_t_sh1 q_t_sh2 q_t_sh3)))))), (q_t_sh0, .inr (1, [.ref q_t_sh0_numbers, .int (c_sh_bits 0), .int (c_sh_length 0)])), (q_t_sh0_numbers, .inl (g.X.cI, 24, .inl (c_sh_numbers 0))), (q_t_sh1, .inr (1, [.ref q_t_sh1_numbers, .int (c_sh_bits 1), .int (c_sh_length 1)])), (q_t_sh1_numbers, .inl (g.X.cI, 24, .inl (c_sh_numbers 1))), (q_t_sh2, .inr (1, [.ref q_t_sh2_numbers, .int (c_sh_bits 2), .int (c_sh_length 2)])), (q_t_sh2_numbers, .inl (g.X.cI, 24, .inl (c_sh_numbers 2))), (q_t_sh3, .inr (1, [.ref q_t_sh3_numbers, .int (c_sh_bits 3), .int (c_sh_length 3)])), (q_t_sh3_numbers, .inl (g.X.cI, 24, .inl (c_sh_numbers 3))), (q_t_th, .inr (4, [.ref q_t_th_cells, .ref q_t_th_sums, .ref q_t_th_groups]))] (by rfl) rfl ?_
            exact R _ _ _ _ dX6_fits_96 (Nat.le_of_ble_eq_true rfl) ⟨_, h, rfl⟩
          have h := h.2 c
          refine st_iload G 88 rfl 0 rfl dX6_fits_86 ?_
          refine st_goto G 96 dX6_fits_88 rfl ?_
          exact R _ _ _ _ dX6_fits_96 (Nat.le_of_ble_eq_true rfl) ⟨_, h, rfl⟩
        have h := h.2 c
        refine st_aload_n G 55 rfl 1 rfl dX6_fits_54 rfl ?_
        refine st_get G inX6 rfl 6 (by decide) wd_31 58 rfl 0 rfl rfl dX6_fits_55 ?_
        refine st_aload_n G 59 rfl 1 rfl dX6_fits_58 rfl ?_
        refine st_get G inX6 rfl 0 (by decide) wd_16 62 rfl 0 rfl rfl dX6_fits_59 ?_
        refine st_aload_n G 63 rfl 0 rfl dX6_fits_62 rfl ?_
        refine st_cVio G lk_X6_234 (c_X4_setsThatFit g.l g.D g.X q_t_th q_t_th_cells q_t_th_sums q_t_th_groups q_t_w q_t_w_km q_t_w_father q_t_w_mother q_t_w_from q_t_w_spoons q_t_w_owed q_t_w_tape q_t_w_tx0 q_t_w_tx1 q_t_w_waiting q_t_sh3 q_t_sh3_numbers w_people w_year w_z w_bytes w_waits w_spoons (c_sh_bits 3) (c_sh_length 3) (c_sh_numbers 3) _ h) ⟨rfl, rfl, ⟨Nat.le_of_ble_eq_true rfl, Nat.le_of_ble_eq_true rfl⟩, Nat.zero_le _, Nat.zero_le _⟩ 66 rfl [13, 1, 2, 11, 12] rfl (by decide) 0 4 rfl rfl rfl (Nat.le_of_ble_eq_true rfl) rfl dX6_fits_63 (fun r_63 h => ?_)
        exact R _ _ _ _ dX6_fits_66 (Nat.le_of_ble_eq_true rfl) ⟨_, h, rfl⟩
      have h := h.2 c
      refine st_aload_n G 45 rfl 1 rfl dX6_fits_44 rfl ?_
      refine st_iconst G 46 rfl (2 : Int32) (by decide) dX6_fits_45 ?_
      refine st_cVi G lk_X6_55 (c_X6_error g.l g.D g.X q_t q_t_w q_t_k q_t_errors q_t_sheets q_t_r q_t_th q_t_sp c_images c_errors (2 : Int32) _ h) ⟨rfl, rfl, ⟨Nat.le_of_ble_eq_true rfl, Nat.le_of_ble_eq_true rfl⟩, Nat.zero_le _, Nat.zero_le _⟩ 49 rfl [0, 3] rfl (by decide) 0 6 rfl rfl rfl (Nat.le_of_ble_eq_true rfl) rfl dX6_fits_46 (fun r_46 w hq => ?_)
      obtain ⟨c_errors_46, h, rfl⟩ := hq
      refine st_wp (ws' := [(q_t, .inr (6, [.ref q_t_w, .ref q_t_k, .int c_images, .ref q_t_errors, .ref q_t_sheets, .ref q_t_r, .ref q_t_th, .ref q_t_sp])), (q_t_w, .inr (5, [.int w_people, .ref q_t_w_km, .ref q_t_w_father, .ref q_t_w_mother, .ref q_t_w_from, .ref q_t_w_spoons, .ref q_t_w_owed, .int w_year, .int w_z, .ref q_t_w_tape, .int w_bytes, .ref q_t_w_tx0, .ref q_t_w_tx1, .ref q_t_w_waiting, .int w_waits])), (q_t_w_spoons, .inl (g.X.cI, 40, .inl w_spoons)), (q_t_errors, .inl (g.X.cI, 7, .inl c_errors_46)), (q_t_sheets, .inl (g.X.cS, 4, .inr (.inr (.inr (.inr (shf q_t_sh0 q_t_sh1 q_t_sh2 q_t_sh3)))))), (q_t_sh0, .inr (1, [.ref q_t_sh0_numbers, .int (c_sh_bits 0), .int (c_sh_length 0)])), (q_t_sh0_numbers, .inl (g.X.cI, 24, .inl (c_sh_numbers 0))), (q_t_sh1, .inr (1, [.ref q_t_sh1_numbers, .int (c_sh_bits 1), .int (c_sh_length 1)])), (q_t_sh1_numbers, .inl (g.X.cI, 24, .inl (c_sh_numbers 1))), (q_t_sh2, .inr (1, [.ref q_t_sh2_numbers, .int (c_sh_bits 2), .int (c_sh_length 2)])), (q_t_sh2_numbers, .inl (g.X.cI, 24, .inl (c_sh_numbers 2))), (q_t_sh3, .inr (1, [.ref q_t_sh3_numbers, .int (c_sh_bits 3), .int (c_sh_length 3)])), (q_t_sh3_numbers, .inl (g.X.cI, 24, .inl (c_sh_numbers 3))), (q_t_th, .inr (4, [.ref q_t_th_cells, .ref q_t_th_sums, .ref q_t_th_groups]))]) 14 [1, 2, 4, 5, 6, 7, 8, 9, 10, 11, 12, 13] (by decide) rfl rfl (by rfl) [(q_t_w, .inr (5, [.int w_people, .ref q_t_w_km, .ref q_t_w_father, .ref q_t_w_mother, .ref q_t_w_from, .ref q_t_w_spoons, .ref q_t_w_owed, .int w_year, .int w_z, .ref q_t_w_tape, .int w_bytes, .ref q_t_w_tx0, .ref q_t_w_tx1, .ref q_t_w_waiting, .int w_waits])), (q_t_w_spoons, .inl (g.X.cI, 40, .inl w_spoons)), (q_t_sheets, .inl (g.X.cS, 4, .inr (.inr (.inr (.inr (shf q_t_sh0 q_t_sh1 q_t_sh2 q_t_sh3)))))), (q_t_sh0, .inr (1, [.ref q_t_sh0_numbers, .int (c_sh_bits 0), .int (c_sh_length 0)])), (q_t_sh0_numbers, .inl (g.X.cI, 24, .inl (c_sh_numbers 0))), (q_t_sh1, .inr (1, [.ref q_t_sh1_numbers, .int (c_sh_bits 1), .int (c_sh_length 1)])), (q_t_sh1_numbers, .inl (g.X.cI, 24, .inl (c_sh_numbers 1))), (q_t_sh2, .inr (1, [.ref q_t_sh2_numbers, .int (c_sh_bits 2), .int (c_sh_length 2)])), (q_t_sh2_numbers, .inl (g.X.cI, 24, .inl (c_sh_numbers 2))), (q_t_sh3, .inr (1, [.ref q_t_sh3_numbers, .int (c_sh_bits 3), .int (c_sh_length 3)])), (q_t_sh3_numbers, .inl (g.X.cI, 24, .inl (c_sh_numbers 3))), (q_t_th, .inr (4, [.ref q_t_th_cells, .ref q_t_th_sums, .ref q_t_th_groups]))] (by rfl) rfl ?_
      exact R _ _ _ _ dX6_fits_49 (Nat.le_of_ble_eq_true rfl) ⟨_, h, rfl⟩
  have h := h.2 c
  refine st_aload_n G 17 rfl 0 rfl dX6_fits_16 rfl ?_
  refine st_iconst G 18 rfl (1 : Int32) (by decide) dX6_fits_17 ?_
  refine st_cVi G lk_X6_55 (c_X6_error g.l g.D g.X q_t q_t_w q_t_k q_t_errors q_t_sheets q_t_r q_t_th q_t_sp c_images c_errors (1 : Int32) _ h) ⟨rfl, rfl, ⟨Nat.le_of_ble_eq_true rfl, Nat.le_of_ble_eq_true rfl⟩, Nat.zero_le _, Nat.zero_le _⟩ 21 rfl [0, 3] rfl (by decide) 0 6 rfl rfl rfl (Nat.le_of_ble_eq_true rfl) rfl dX6_fits_18 (fun r_18 w hq => ?_)
  obtain ⟨c_errors_18, h, rfl⟩ := hq
  refine st_wp (ws' := [(q_t, .inr (6, [.ref q_t_w, .ref q_t_k, .int c_images, .ref q_t_errors, .ref q_t_sheets, .ref q_t_r, .ref q_t_th, .ref q_t_sp])), (q_t_w, .inr (5, [.int w_people, .ref q_t_w_km, .ref q_t_w_father, .ref q_t_w_mother, .ref q_t_w_from, .ref q_t_w_spoons, .ref q_t_w_owed, .int w_year, .int w_z, .ref q_t_w_tape, .int w_bytes, .ref q_t_w_tx0, .ref q_t_w_tx1, .ref q_t_w_waiting, .int w_waits])), (q_t_w_spoons, .inl (g.X.cI, 40, .inl w_spoons)), (q_t_errors, .inl (g.X.cI, 7, .inl c_errors_18)), (q_t_sheets, .inl (g.X.cS, 4, .inr (.inr (.inr (.inr (shf q_t_sh0 q_t_sh1 q_t_sh2 q_t_sh3)))))), (q_t_sh0, .inr (1, [.ref q_t_sh0_numbers, .int (c_sh_bits 0), .int (c_sh_length 0)])), (q_t_sh0_numbers, .inl (g.X.cI, 24, .inl (c_sh_numbers 0))), (q_t_sh1, .inr (1, [.ref q_t_sh1_numbers, .int (c_sh_bits 1), .int (c_sh_length 1)])), (q_t_sh1_numbers, .inl (g.X.cI, 24, .inl (c_sh_numbers 1))), (q_t_sh2, .inr (1, [.ref q_t_sh2_numbers, .int (c_sh_bits 2), .int (c_sh_length 2)])), (q_t_sh2_numbers, .inl (g.X.cI, 24, .inl (c_sh_numbers 2))), (q_t_sh3, .inr (1, [.ref q_t_sh3_numbers, .int (c_sh_bits 3), .int (c_sh_length 3)])), (q_t_sh3_numbers, .inl (g.X.cI, 24, .inl (c_sh_numbers 3))), (q_t_th, .inr (4, [.ref q_t_th_cells, .ref q_t_th_sums, .ref q_t_th_groups]))]) 14 [1, 2, 4, 5, 6, 7, 8, 9, 10, 11, 12, 13] (by decide) rfl rfl (by rfl) [(q_t_w, .inr (5, [.int w_people, .ref q_t_w_km, .ref q_t_w_father, .ref q_t_w_mother, .ref q_t_w_from, .ref q_t_w_spoons, .ref q_t_w_owed, .int w_year, .int w_z, .ref q_t_w_tape, .int w_bytes, .ref q_t_w_tx0, .ref q_t_w_tx1, .ref q_t_w_waiting, .int w_waits])), (q_t_w_spoons, .inl (g.X.cI, 40, .inl w_spoons)), (q_t_sheets, .inl (g.X.cS, 4, .inr (.inr (.inr (.inr (shf q_t_sh0 q_t_sh1 q_t_sh2 q_t_sh3)))))), (q_t_sh0, .inr (1, [.ref q_t_sh0_numbers, .int (c_sh_bits 0), .int (c_sh_length 0)])), (q_t_sh0_numbers, .inl (g.X.cI, 24, .inl (c_sh_numbers 0))), (q_t_sh1, .inr (1, [.ref q_t_sh1_numbers, .int (c_sh_bits 1), .int (c_sh_length 1)])), (q_t_sh1_numbers, .inl (g.X.cI, 24, .inl (c_sh_numbers 1))), (q_t_sh2, .inr (1, [.ref q_t_sh2_numbers, .int (c_sh_bits 2), .int (c_sh_length 2)])), (q_t_sh2_numbers, .inl (g.X.cI, 24, .inl (c_sh_numbers 2))), (q_t_sh3, .inr (1, [.ref q_t_sh3_numbers, .int (c_sh_bits 3), .int (c_sh_length 3)])), (q_t_sh3_numbers, .inl (g.X.cI, 24, .inl (c_sh_numbers 3))), (q_t_th, .inr (4, [.ref q_t_th_cells, .ref q_t_th_sums, .ref q_t_th_groups]))] (by rfl) rfl ?_
  exact R _ _ _ _ dX6_fits_21 (Nat.le_of_ble_eq_true rfl) ⟨_, h, rfl⟩
set_option maxRecDepth 100000 in
set_option maxHeartbeats 4000000 in
theorem c_X6_fits (l : Launch) (D : va_G) (X : XT) (q_t q_t_w q_t_w_km q_t_w_father q_t_w_mother q_t_w_from q_t_w_spoons q_t_w_owed q_t_w_tape q_t_w_tx0 q_t_w_tx1 q_t_w_waiting q_t_k q_t_errors q_t_sheets q_t_sh0 q_t_sh0_numbers q_t_sh1 q_t_sh1_numbers q_t_sh2 q_t_sh2_numbers q_t_sh3 q_t_sh3_numbers q_t_r q_t_th q_t_th_cells q_t_th_sums q_t_th_groups q_t_sp : Nat) (c_images : Int32) (w_people : Int32) (w_year : Int32) (w_z : Int32) (w_bytes : Int32) (w_waits : Int32) (w_spoons : Nat → Int32) (c_errors : Nat → Int32) (c_sh_bits : Nat → Int32) (c_sh_length : Nat → Int32) (c_sh_numbers : Nat → Nat → Int32) (x1 : Int32) (x2 : Int32) (Q : Int32 → (Nat → Int32) → Prop) (h : wp_X6_fits x1 x2 w_people w_spoons c_errors c_sh_bits c_sh_length c_sh_numbers Q) : CTi l D X yX6_fits cX6_fits 5 .int rm_X6_fits [.ref q_t, .int x1, .int x2] [(q_t, .inr (6, [.ref q_t_w, .ref q_t_k, .int c_images, .ref q_t_errors, .ref q_t_sheets, .ref q_t_r, .ref q_t_th, .ref q_t_sp])), (q_t_w, .inr (5, [.int w_people, .ref q_t_w_km, .ref q_t_w_father, .ref q_t_w_mother, .ref q_t_w_from, .ref q_t_w_spoons, .ref q_t_w_owed, .int w_year, .int w_z, .ref q_t_w_tape, .int w_bytes, .ref q_t_w_tx0, .ref q_t_w_tx1, .ref q_t_w_waiting, .int w_waits])), (q_t_w_spoons, .inl (X.cI, 40, .inl w_spoons)), (q_t_errors, .inl (X.cI, 7, .inl c_errors)), (q_t_sheets, .inl (X.cS, 4, .inr (.inr (.inr (.inr (shf q_t_sh0 q_t_sh1 q_t_sh2 q_t_sh3)))))), (q_t_sh0, .inr (1, [.ref q_t_sh0_numbers, .int (c_sh_bits 0), .int (c_sh_length 0)])), (q_t_sh0_numbers, .inl (X.cI, 24, .inl (c_sh_numbers 0))), (q_t_sh1, .inr (1, [.ref q_t_sh1_numbers, .int (c_sh_bits 1), .int (c_sh_length 1)])), (q_t_sh1_numbers, .inl (X.cI, 24, .inl (c_sh_numbers 1))), (q_t_sh2, .inr (1, [.ref q_t_sh2_numbers, .int (c_sh_bits 2), .int (c_sh_length 2)])), (q_t_sh2_numbers, .inl (X.cI, 24, .inl (c_sh_numbers 2))), (q_t_sh3, .inr (1, [.ref q_t_sh3_numbers, .int (c_sh_bits 3), .int (c_sh_length 3)])), (q_t_sh3_numbers, .inl (X.cI, 24, .inl (c_sh_numbers 3))), (q_t_th, .inr (4, [.ref q_t_th_cells, .ref q_t_th_sums, .ref q_t_th_groups]))] (fun (r : Int32) w => ∃ (c_errors' : Nat → Int32), Q r c_errors' ∧ w = [(q_t, .inr (6, [.ref q_t_w, .ref q_t_k, .int c_images, .ref q_t_errors, .ref q_t_sheets, .ref q_t_r, .ref q_t_th, .ref q_t_sp])), (q_t_w, .inr (5, [.int w_people, .ref q_t_w_km, .ref q_t_w_father, .ref q_t_w_mother, .ref q_t_w_from, .ref q_t_w_spoons, .ref q_t_w_owed, .int w_year, .int w_z, .ref q_t_w_tape, .int w_bytes, .ref q_t_w_tx0, .ref q_t_w_tx1, .ref q_t_w_waiting, .int w_waits])), (q_t_w_spoons, .inl (X.cI, 40, .inl w_spoons)), (q_t_errors, .inl (X.cI, 7, .inl c_errors')), (q_t_sheets, .inl (X.cS, 4, .inr (.inr (.inr (.inr (shf q_t_sh0 q_t_sh1 q_t_sh2 q_t_sh3)))))), (q_t_sh0, .inr (1, [.ref q_t_sh0_numbers, .int (c_sh_bits 0), .int (c_sh_length 0)])), (q_t_sh0_numbers, .inl (X.cI, 24, .inl (c_sh_numbers 0))), (q_t_sh1, .inr (1, [.ref q_t_sh1_numbers, .int (c_sh_bits 1), .int (c_sh_length 1)])), (q_t_sh1_numbers, .inl (X.cI, 24, .inl (c_sh_numbers 1))), (q_t_sh2, .inr (1, [.ref q_t_sh2_numbers, .int (c_sh_bits 2), .int (c_sh_length 2)])), (q_t_sh2_numbers, .inl (X.cI, 24, .inl (c_sh_numbers 2))), (q_t_sh3, .inr (1, [.ref q_t_sh3_numbers, .int (c_sh_bits 3), .int (c_sh_length 3)])), (q_t_sh3_numbers, .inl (X.cI, 24, .inl (c_sh_numbers 3))), (q_t_th, .inr (4, [.ref q_t_th_cells, .ref q_t_th_sums, .ref q_t_th_groups]))]) :=
  ct_i (by decide) (Nat.le_of_ble_eq_true rfl) (fun g hl hD hX G R => by subst hl; subst hD; subst hX; exact b_X6_fits_e G R h)
set_option maxRecDepth 100000 in
set_option maxHeartbeats 4000000 in
theorem b_X2_begin_e {g : GT} (G : GOOD g RX2 cX2_begin 2 rm_X2_begin) {q_t q_t_bodies : Nat} {c_begun : Int32} {c_parted : Int32} {c_k : Int32} {c_m : Int32} {c_own : Int32} {c_bodies : Nat → Int32} {x1 : Int32} {Q : (Int32) → (Nat → Int32) → Prop} (R : RETv g cX2_begin 0 0 2 (fun w => ∃ (c_begun' : Int32) (c_bodies' : Nat → Int32), Q c_begun' c_bodies' ∧ w = [(q_t, .inr (2, [.ref q_t_bodies, .int c_begun', .int c_parted, .int c_k, .int c_m, .int c_own])), (q_t_bodies, .inl (g.X.cI, 30, .inl c_bodies'))])) (h : wp_X2_begin x1 c_begun c_bodies Q) : ST g 0 0 0 [(0, .ref q_t), (1, .int x1)] [] [(q_t, .inr (2, [.ref q_t_bodies, .int c_begun, .int c_parted, .int c_k, .int c_m, .int c_own])), (q_t_bodies, .inl (g.X.cI, 30, .inl c_bodies))] := by
  unfold wp_X2_begin at h
  refine st_aload_n G 1 rfl 0 rfl dX2_begin_0 rfl ?_
  refine st_get G inX2 rfl 1 (by decide) wd_818 4 rfl 0 rfl rfl dX2_begin_1 ?_
  refine st_bipush G 6 rfl (30 : Int32) (by decide) dX2_begin_4 ?_
  refine st_icmp_ge G 29 9 rfl dX2_begin_6 rfl (fun c => ?_) (fun c => ?_)
  · have h := h.1 c
    exact R _ _ _ dX2_begin_29 (Nat.le_of_ble_eq_true rfl) ⟨_, _, h, rfl⟩
  have h := h.2 c
  refine st_aload_n G 10 rfl 0 rfl dX2_begin_9 rfl ?_
  refine st_get G inX2 rfl 0 (by decide) wd_77 13 rfl 0 rfl rfl dX2_begin_10 ?_
  refine st_aload_n G 14 rfl 0 rfl dX2_begin_13 rfl ?_
  refine st_get G inX2 rfl 1 (by decide) wd_818 17 rfl 0 rfl rfl dX2_begin_14 ?_
  refine st_iload_n G 18 rfl 1 rfl dX2_begin_17 rfl ?_
  obtain ⟨hin, h⟩ := h
  obtain ⟨c_bodies_18, ec_bodies_18⟩ : ∃ y : Nat → Int32, y = upd c_bodies c_begun.toNatClampNeg x1 := ⟨_, rfl⟩
  have h := h c_bodies_18 ec_bodies_18
  refine st_iast G [(q_t, .inr (2, [.ref q_t_bodies, .int c_begun, .int c_parted, .int c_k, .int c_m, .int c_own])), (q_t_bodies, .inl (g.X.cI, 30, .inl c_bodies_18))] 19 rfl 1 rfl hin (by subst ec_bodies_18; rfl) dX2_begin_18 ?_
  refine st_aload_n G 20 rfl 0 rfl dX2_begin_19 rfl ?_
  refine st_dup G 21 rfl dX2_begin_20 rfl ?_
  refine st_get G inX2 rfl 1 (by decide) wd_818 24 rfl 0 rfl rfl dX2_begin_21 ?_
  refine st_iconst G 25 rfl (1 : Int32) (by decide) dX2_begin_24 ?_
  refine st_iadd G 26 rfl dX2_begin_25 ?_
  refine st_topi (fun c_begun_26 ec_begun_26 => ?_)
  have h := h c_begun_26 ec_begun_26
  refine st_put G inX2 tyX2 tyX2_ok nmX2 rfl 1 (by decide) wd_818 rfl [(q_t, .inr (2, [.ref q_t_bodies, .int c_begun_26, .int c_parted, .int c_k, .int c_m, .int c_own])), (q_t_bodies, .inl (g.X.cI, 30, .inl c_bodies_18))] 29 rfl 0 rfl rfl rfl (Nat.le_of_ble_eq_true rfl) rfl dX2_begin_26 ?_
  exact R _ _ _ dX2_begin_29 (Nat.le_of_ble_eq_true rfl) ⟨_, _, h, rfl⟩
set_option maxRecDepth 100000 in
set_option maxHeartbeats 4000000 in
theorem c_X2_begin (l : Launch) (D : va_G) (X : XT) (q_t q_t_bodies : Nat) (c_begun : Int32) (c_parted : Int32) (c_k : Int32) (c_m : Int32) (c_own : Int32) (c_bodies : Nat → Int32) (x1 : Int32) (Q : (Int32) → (Nat → Int32) → Prop) (h : wp_X2_begin x1 c_begun c_bodies Q) : CTv l D X yX2_begin cX2_begin 2 rm_X2_begin 0 0 [.ref q_t, .int x1] [(q_t, .inr (2, [.ref q_t_bodies, .int c_begun, .int c_parted, .int c_k, .int c_m, .int c_own])), (q_t_bodies, .inl (X.cI, 30, .inl c_bodies))] (fun w => ∃ (c_begun' : Int32) (c_bodies' : Nat → Int32), Q c_begun' c_bodies' ∧ w = [(q_t, .inr (2, [.ref q_t_bodies, .int c_begun', .int c_parted, .int c_k, .int c_m, .int c_own])), (q_t_bodies, .inl (X.cI, 30, .inl c_bodies'))]) :=
  ct_v (by decide) (Nat.le_of_ble_eq_true rfl) (fun g hl hD hX G _ R => by subst hl; subst hD; subst hX; exact b_X2_begin_e G R h)
set_option maxRecDepth 100000 in
set_option maxHeartbeats 4000000 in
theorem b_X2_divided_e {g : GT} (G : GOOD g RX2 cX2_divided 3 rm_X2_divided) {q_t q_t_bodies : Nat} {c_begun : Int32} {c_parted : Int32} {c_k : Int32} {c_m : Int32} {c_own : Int32} {x1 : Int32} {x2 : Int32} {Q : Int32 → (Int32) → Prop} (R : RETi g cX2_divided 1 (fun (r : Int32) w => ∃ (c_parted' : Int32), Q r c_parted' ∧ w = [(q_t, .inr (2, [.ref q_t_bodies, .int c_begun, .int c_parted', .int c_k, .int c_m, .int c_own]))])) (h : wp_X2_divided x1 x2 c_parted Q) : ST g 0 0 0 [(0, .ref q_t), (1, .int x1), (2, .int x2)] [] [(q_t, .inr (2, [.ref q_t_bodies, .int c_begun, .int c_parted, .int c_k, .int c_m, .int c_own]))] := by
  unfold wp_X2_divided at h
  refine st_iload_n G 1 rfl 2 rfl dX2_divided_0 rfl ?_
  refine st_if_ne G 11 4 rfl dX2_divided_1 rfl (fun c => ?_) (fun c => ?_)
  · have h := h.1 c
    refine st_iload_n G 12 rfl 1 rfl dX2_divided_11 rfl ?_
    refine st_iload_n G 13 rfl 2 rfl dX2_divided_12 rfl ?_
    obtain ⟨hne, h⟩ := h
    refine st_idiv G 14 rfl hne dX2_divided_13 ?_
    exact R _ _ _ _ dX2_divided_14 (Nat.le_of_ble_eq_true rfl) ⟨_, h, rfl⟩
  have h := h.2 c
  refine st_aload_n G 5 rfl 0 rfl dX2_divided_4 rfl ?_
  refine st_iconst G 6 rfl (1 : Int32) (by decide) dX2_divided_5 ?_
  refine st_put G inX2 tyX2 tyX2_ok nmX2 rfl 2 (by decide) wd_819 rfl [(q_t, .inr (2, [.ref q_t_bodies, .int c_begun, .int (1 : Int32), .int c_k, .int c_m, .int c_own]))] 9 rfl 0 rfl rfl rfl (Nat.le_of_ble_eq_true rfl) rfl dX2_divided_6 ?_
  refine st_iconst G 10 rfl (0 : Int32) (by decide) dX2_divided_9 ?_
  exact R _ _ _ _ dX2_divided_10 (Nat.le_of_ble_eq_true rfl) ⟨_, h, rfl⟩
set_option maxRecDepth 100000 in
set_option maxHeartbeats 4000000 in
theorem c_X2_divided (l : Launch) (D : va_G) (X : XT) (q_t q_t_bodies : Nat) (c_begun : Int32) (c_parted : Int32) (c_k : Int32) (c_m : Int32) (c_own : Int32) (x1 : Int32) (x2 : Int32) (Q : Int32 → (Int32) → Prop) (h : wp_X2_divided x1 x2 c_parted Q) : CTi l D X yX2_divided cX2_divided 3 .int rm_X2_divided [.ref q_t, .int x1, .int x2] [(q_t, .inr (2, [.ref q_t_bodies, .int c_begun, .int c_parted, .int c_k, .int c_m, .int c_own]))] (fun (r : Int32) w => ∃ (c_parted' : Int32), Q r c_parted' ∧ w = [(q_t, .inr (2, [.ref q_t_bodies, .int c_begun, .int c_parted', .int c_k, .int c_m, .int c_own]))]) :=
  ct_i (by decide) (Nat.le_of_ble_eq_true rfl) (fun g hl hD hX G R => by subst hl; subst hD; subst hX; exact b_X2_divided_e G R h)
