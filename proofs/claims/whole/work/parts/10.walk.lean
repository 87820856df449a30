set_option maxRecDepth 100000 in
set_option maxHeartbeats 4000000 in
theorem b_X6_error_e {g : GT} (G : GOOD g RX6 cX6_error 2 rm_X6_error) {q_t q_t_w q_t_k q_t_errors q_t_sheets q_t_r q_t_th q_t_sp : Nat} {c_images : Int32} {c_errors : Nat → Int32} {x1 : Int32} {Q : Int32 → (Nat → Int32) → Prop} (R : RETi g cX6_error 2 (fun (r : Int32) w => ∃ (c_errors' : Nat → Int32), Q r c_errors' ∧ w = [(q_t, .inr (6, [.ref q_t_w, .ref q_t_k, .int c_images, .ref q_t_errors, .ref q_t_sheets, .ref q_t_r, .ref q_t_th, .ref q_t_sp])), (q_t_errors, .inl (g.X.cI, 7, .inl c_errors'))])) (h : wp_X6_error x1 c_errors Q) : ST g 0 0 0 [(0, .ref q_t), (1, .int x1)] [] [(q_t, .inr (6, [.ref q_t_w, .ref q_t_k, .int c_images, .ref q_t_errors, .ref q_t_sheets, .ref q_t_r, .ref q_t_th, .ref q_t_sp])), (q_t_errors, .inl (g.X.cI, 7, .inl c_errors))] := by
  unfold wp_X6_error at h
  refine st_iload_n G 1 rfl 1 rfl dX6_error_0 rfl ?_
  refine st_if_lt G 23 4 rfl dX6_error_1 rfl (fun c => ?_) (fun c => ?_)
  · have h := h.1 c
    refine st_ldcw G 26 rfl wd_111 dX6_error_23 ?_
    refine st_iload_n G 27 rfl 1 rfl dX6_error_26 rfl ?_
    refine st_isub G 28 rfl dX6_error_27 ?_
    exact R _ _ _ _ dX6_error_28 (Nat.le_of_ble_eq_true rfl) ⟨_, h, rfl⟩
  have h := h.2 c
  refine st_iload_n G 5 rfl 1 rfl dX6_error_4 rfl ?_
  refine st_aload_n G 6 rfl 0 rfl dX6_error_5 rfl ?_
  refine st_get G inX6 rfl 3 (by decide) wd_19 9 rfl 0 rfl rfl dX6_error_6 ?_
  refine st_alen G 10 rfl 1 rfl (7 : Int32) rfl dX6_error_9 ?_
  refine st_icmp_ge G 23 13 rfl dX6_error_10 rfl (fun c => ?_) (fun c => ?_)
  · have h := h.1 c
    refine st_ldcw G 26 rfl wd_111 dX6_error_23 ?_
    refine st_iload_n G 27 rfl 1 rfl dX6_error_26 rfl ?_
    refine st_isub G 28 rfl dX6_error_27 ?_
    exact R _ _ _ _ dX6_error_28 (Nat.le_of_ble_eq_true rfl) ⟨_, h, rfl⟩
  have h := h.2 c
  refine st_aload_n G 14 rfl 0 rfl dX6_error_13 rfl ?_
  refine st_get G inX6 rfl 3 (by decide) wd_19 17 rfl 0 rfl rfl dX6_error_14 ?_
  refine st_iload_n G 18 rfl 1 rfl dX6_error_17 rfl ?_
  refine st_dup2 G 19 rfl dX6_error_18 rfl rfl ?_
  obtain ⟨hin, h⟩ := h
  refine st_iald G 20 rfl 1 rfl hin dX6_error_19 ?_
  refine st_iconst G 21 rfl (1 : Int32) (by decide) dX6_error_20 ?_
  refine st_iadd G 22 rfl dX6_error_21 ?_
  obtain ⟨hin, h⟩ := h
  obtain ⟨c_errors_22, ec_errors_22⟩ : ∃ y : Nat → Int32, y = upd c_errors x1.toNatClampNeg ((c_errors x1.toNatClampNeg) + (1 : Int32)) := ⟨_, rfl⟩
  have h := h c_errors_22 ec_errors_22
  refine st_iast G [(q_t, .inr (6, [.ref q_t_w, .ref q_t_k, .int c_images, .ref q_t_errors, .ref q_t_sheets, .ref q_t_r, .ref q_t_th, .ref q_t_sp])), (q_t_errors, .inl (g.X.cI, 7, .inl c_errors_22))] 23 rfl 1 rfl hin (by subst ec_errors_22; rfl) dX6_error_22 ?_
  refine st_ldcw G 26 rfl wd_111 dX6_error_23 ?_
  refine st_iload_n G 27 rfl 1 rfl dX6_error_26 rfl ?_
  refine st_isub G 28 rfl dX6_error_27 ?_
  exact R _ _ _ _ dX6_error_28 (Nat.le_of_ble_eq_true rfl) ⟨_, h, rfl⟩
set_option maxRecDepth 100000 in
set_option maxHeartbeats 4000000 in
theorem c_X6_error (l : Launch) (D : va_G) (X : XT) (q_t q_t_w q_t_k q_t_errors q_t_sheets q_t_r q_t_th q_t_sp : Nat) (c_images : Int32) (c_errors : Nat → Int32) (x1 : Int32) (Q : Int32 → (Nat → Int32) → Prop) (h : wp_X6_error x1 c_errors Q) : CTi l D X yX6_error cX6_error 2 .int rm_X6_error [.ref q_t, .int x1] [(q_t, .inr (6, [.ref q_t_w, .ref q_t_k, .int c_images, .ref q_t_errors, .ref q_t_sheets, .ref q_t_r, .ref q_t_th, .ref q_t_sp])), (q_t_errors, .inl (X.cI, 7, .inl c_errors))] (fun (r : Int32) w => ∃ (c_errors' : Nat → Int32), Q r c_errors' ∧ w = [(q_t, .inr (6, [.ref q_t_w, .ref q_t_k, .int c_images, .ref q_t_errors, .ref q_t_sheets, .ref q_t_r, .ref q_t_th, .ref q_t_sp])), (q_t_errors, .inl (X.cI, 7, .inl c_errors'))]) :=
  ct_i (by decide) (Nat.le_of_ble_eq_true rfl) (fun g hl hD hX G R => by subst hl; subst hD; subst hX; exact b_X6_error_e G R h)
set_option maxRecDepth 100000 in
set_option maxHeartbeats 4000000 in
theorem b_X6_notWithin_e {g : GT} (G : GOOD g RX6 cX6_notWithin 3 rm_X6_notWithin) {x0 : Int32} {x1 : Int32} {x2 : Int32} {Q : Int32 → Prop} (R : RETz g cX6_notWithin 0 (fun (r : Int32) w => (Q r) ∧ w = [])) (h : wp_X6_notWithin x0 x1 x2 Q) : ST g 0 0 0 [(0, .int x0), (1, .int x1), (2, .int x2)] [] [] := by
  unfold wp_X6_notWithin at h
  refine st_iload_n G 1 rfl 0 rfl dX6_notWithin_0 rfl ?_
  refine st_iload_n G 2 rfl 1 rfl dX6_notWithin_1 rfl ?_
  refine st_icmp_lt G 10 5 rfl dX6_notWithin_2 rfl (fun c => ?_) (fun c => ?_)
  · have h := h.1 c
    refine st_iconst G 11 rfl (1 : Int32) (by decide) dX6_notWithin_10 ?_
    refine st_goto G 15 dX6_notWithin_11 rfl ?_
    exact R _ _ _ _ dX6_notWithin_15 (Nat.le_of_ble_eq_true rfl) rfl ⟨h, rfl⟩
  have h := h.2 c
  refine st_iload_n G 6 rfl 0 rfl dX6_notWithin_5 rfl ?_
  refine st_iload_n G 7 rfl 2 rfl dX6_notWithin_6 rfl ?_
  refine st_icmp_le G 14 10 rfl dX6_notWithin_7 rfl (fun c => ?_) (fun c => ?_)
  · have h := h.1 c
    refine st_iconst G 15 rfl (0 : Int32) (by decide) dX6_notWithin_14 ?_
    exact R _ _ _ _ dX6_notWithin_15 (Nat.le_of_ble_eq_true rfl) rfl ⟨h, rfl⟩
  have h := h.2 c
  refine st_iconst G 11 rfl (1 : Int32) (by decide) dX6_notWithin_10 ?_
  refine st_goto G 15 dX6_notWithin_11 rfl ?_
  exact R _ _ _ _ dX6_notWithin_15 (Nat.le_of_ble_eq_true rfl) rfl ⟨h, rfl⟩
set_option maxRecDepth 100000 in
set_option maxHeartbeats 4000000 in
theorem c_X6_notWithin (l : Launch) (D : va_G) (X : XT) (x0 : Int32) (x1 : Int32) (x2 : Int32) (Q : Int32 → Prop) (h : wp_X6_notWithin x0 x1 x2 Q) : CTi l D X yX6_notWithin cX6_notWithin 3 .boolean rm_X6_notWithin [.int x0, .int x1, .int x2] [] (fun (r : Int32) w => (Q r) ∧ w = []) :=
  ct_z (by decide) (Nat.le_of_ble_eq_true rfl) (fun g hl hD hX G R => by subst hl; subst hD; subst hX; exact b_X6_notWithin_e G R h)
set_option maxRecDepth 100000 in
set_option maxHeartbeats 4000000 in
theorem b_X6_notKm_e {g : GT} (G : GOOD g RX6 cX6_notKm 1 rm_X6_notKm) {x0 : Int32} {Q : Int32 → Prop} (R : RETz g cX6_notKm 0 (fun (r : Int32) w => (Q r) ∧ w = [])) (h : wp_X6_notKm x0 Q) : ST g 0 0 0 [(0, .int x0)] [] [] := by
  unfold wp_X6_notKm at h
  refine st_iload_n G 1 rfl 0 rfl dX6_notKm_0 rfl ?_
  refine st_iconst G 2 rfl (0 : Int32) (by decide) dX6_notKm_1 ?_
  refine st_bipush G 4 rfl (69 : Int32) (by decide) dX6_notKm_2 ?_
  refine st_cSio G lk_X6_115 (c_X6_notWithin g.l g.D g.X x0 (0 : Int32) (69 : Int32) _ h) ⟨rfl, rfl, ⟨Nat.le_of_ble_eq_true rfl, Nat.le_of_ble_eq_true rfl⟩, Nat.zero_le _, Nat.zero_le _⟩ 7 rfl [] rfl (by decide) rfl (Nat.le_of_ble_eq_true rfl) rfl dX6_notKm_4 (fun r_4 h => ?_)
  obtain ⟨hbz, h⟩ := h
  exact R _ _ _ _ dX6_notKm_7 (Nat.le_of_ble_eq_true rfl) hbz ⟨h, rfl⟩
set_option maxRecDepth 100000 in
set_option maxHeartbeats 4000000 in
theorem c_X6_notKm (l : Launch) (D : va_G) (X : XT) (x0 : Int32) (Q : Int32 → Prop) (h : wp_X6_notKm x0 Q) : CTi l D X yX6_notKm cX6_notKm 1 .boolean rm_X6_notKm [.int x0] [] (fun (r : Int32) w => (Q r) ∧ w = []) :=
  ct_z (by decide) (Nat.le_of_ble_eq_true rfl) (fun g hl hD hX G R => by subst hl; subst hD; subst hX; exact b_X6_notKm_e G R h)
set_option maxRecDepth 100000 in
set_option maxHeartbeats 4000000 in
theorem b_X5_addOrphan_e {g : GT} (G : GOOD g RX5 cX5_addOrphan 3 rm_X5_addOrphan) {q_t q_t_km q_t_father q_t_mother q_t_from q_t_spoons q_t_owed q_t_tape q_t_tx0 q_t_tx1 q_t_waiting : Nat} {c_people : Int32} {c_year : Int32} {c_z : Int32} {c_bytes : Int32} {c_waits : Int32} {c_km : Nat → Int32} {c_father : Nat → Int32} {c_mother : Nat → Int32} {x1 : Int32} {Q : Int32 → (Int32) → (Nat → Int32) → (Nat → Int32) → (Nat → Int32) → Prop} (R : RETi g cX5_addOrphan 4 (fun (r : Int32) w => ∃ (c_people' : Int32) (c_km' : Nat → Int32) (c_father' : Nat → Int32) (c_mother' : Nat → Int32), Q r c_people' c_km' c_father' c_mother' ∧ w = [(q_t, .inr (5, [.int c_people', .ref q_t_km, .ref q_t_father, .ref q_t_mother, .ref q_t_from, .ref q_t_spoons, .ref q_t_owed, .int c_year, .int c_z, .ref q_t_tape, .int c_bytes, .ref q_t_tx0, .ref q_t_tx1, .ref q_t_waiting, .int c_waits])), (q_t_km, .inl (g.X.cI, 8, .inl c_km')), (q_t_father, .inl (g.X.cI, 8, .inl c_father')), (q_t_mother, .inl (g.X.cI, 8, .inl c_mother'))])) (h : wp_X5_addOrphan x1 c_people c_km c_father c_mother Q) : ST g 0 0 0 [(0, .ref q_t), (1, .int x1)] [] [(q_t, .inr (5, [.int c_people, .ref q_t_km, .ref q_t_father, .ref q_t_mother, .ref q_t_from, .ref q_t_spoons, .ref q_t_owed, .int c_year, .int c_z, .ref q_t_tape, .int c_bytes, .ref q_t_tx0, .ref q_t_tx1, .ref q_t_waiting, .int c_waits])), (q_t_km, .inl (g.X.cI, 8, .inl c_km)), (q_t_father, .inl (g.X.cI, 8, .inl c_father)), (q_t_mother, .inl (g.X.cI, 8, .inl c_mother))] := by
  unfold wp_X5_addOrphan at h
  refine st_aload_n G 1 rfl 0 rfl dX5_addOrphan_0 rfl ?_
  refine st_get G inX5 rfl 0 (by decide) wd_116 4 rfl 0 rfl rfl dX5_addOrphan_1 ?_
  refine st_istore_n G 5 rfl [(2, .int c_people), (0, .ref q_t), (1, .int x1)] dX5_addOrphan_4 rfl (by decide) rfl ?_
  refine st_aload_n G 6 rfl 1 rfl dX5_addOrphan_5 rfl ?_
  refine st_get G inX5 rfl 1 (by decide) wd_39 9 rfl 0 rfl rfl dX5_addOrphan_6 ?_
  refine st_iload_n G 10 rfl 0 rfl dX5_addOrphan_9 rfl ?_
  refine st_iload_n G 11 rfl 2 rfl dX5_addOrphan_10 rfl ?_
  obtain ⟨hin, h⟩ := h
  obtain ⟨c_km_11, ec_km_11⟩ : ∃ y : Nat → Int32, y = upd c_km c_people.toNatClampNeg x1 := ⟨_, rfl⟩
  have h := h c_km_11 ec_km_11
  refine st_iast G [(q_t, .inr (5, [.int c_people, .ref q_t_km, .ref q_t_father, .ref q_t_mother, .ref q_t_from, .ref q_t_spoons, .ref q_t_owed, .int c_year, .int c_z, .ref q_t_tape, .int c_bytes, .ref q_t_tx0, .ref q_t_tx1, .ref q_t_waiting, .int c_waits])), (q_t_km, .inl (g.X.cI, 8, .inl c_km_11)), (q_t_father, .inl (g.X.cI, 8, .inl c_father)), (q_t_mother, .inl (g.X.cI, 8, .inl c_mother))] 12 rfl 1 rfl hin (by subst ec_km_11; rfl) dX5_addOrphan_11 ?_
  refine st_aload_n G 13 rfl 1 rfl dX5_addOrphan_12 rfl ?_
  refine st_get G inX5 rfl 2 (by decide) wd_40 16 rfl 0 rfl rfl dX5_addOrphan_13 ?_
  refine st_iload_n G 17 rfl 0 rfl dX5_addOrphan_16 rfl ?_
  refine st_iconst G 18 rfl (-1 : Int32) (by decide) dX5_addOrphan_17 ?_
  obtain ⟨hin, h⟩ := h
  obtain ⟨c_father_18, ec_father_18⟩ : ∃ y : Nat → Int32, y = upd c_father c_people.toNatClampNeg (-1 : Int32) := ⟨_, rfl⟩
  have h := h c_father_18 ec_father_18
  refine st_iast G [(q_t, .inr (5, [.int c_people, .ref q_t_km, .ref q_t_father, .ref q_t_mother, .ref q_t_from, .ref q_t_spoons, .ref q_t_owed, .int c_year, .int c_z, .ref q_t_tape, .int c_bytes, .ref q_t_tx0, .ref q_t_tx1, .ref q_t_waiting, .int c_waits])), (q_t_km, .inl (g.X.cI, 8, .inl c_km_11)), (q_t_father, .inl (g.X.cI, 8, .inl c_father_18)), (q_t_mother, .inl (g.X.cI, 8, .inl c_mother))] 19 rfl 2 rfl hin (by subst ec_father_18; rfl) dX5_addOrphan_18 ?_
  refine st_aload_n G 20 rfl 1 rfl dX5_addOrphan_19 rfl ?_
  refine st_get G inX5 rfl 3 (by decide) wd_41 23 rfl 0 rfl rfl dX5_addOrphan_20 ?_
  refine st_iload_n G 24 rfl 0 rfl dX5_addOrphan_23 rfl ?_
  refine st_iconst G 25 rfl (-1 : Int32) (by decide) dX5_addOrphan_24 ?_
  obtain ⟨hin, h⟩ := h
  obtain ⟨c_mother_25, ec_mother_25⟩ : ∃ y : Nat → Int32, y = upd c_mother c_people.toNatClampNeg (-1 : Int32) := ⟨_, rfl⟩
  have h := h c_mother_25 ec_mother_25
  refine st_iast G [(q_t, .inr (5, [.int c_people, .ref q_t_km, .ref q_t_father, .ref q_t_mother, .ref q_t_from, .ref q_t_spoons, .ref q_t_owed, .int c_year, .int c_z, .ref q_t_tape, .int c_bytes, .ref q_t_tx0, .ref q_t_tx1, .ref q_t_waiting, .int c_waits])), (q_t_km, .inl (g.X.cI, 8, .inl c_km_11)), (q_t_father, .inl (g.X.cI, 8, .inl c_father_18)), (q_t_mother, .inl (g.X.cI, 8, .inl c_mother_25))] 26 rfl 3 rfl hin (by subst ec_mother_25; rfl) dX5_addOrphan_25 ?_
  refine st_aload_n G 27 rfl 1 rfl dX5_addOrphan_26 rfl ?_
  refine st_dup G 28 rfl dX5_addOrphan_27 rfl ?_
  refine st_get G inX5 rfl 0 (by decide) wd_116 31 rfl 0 rfl rfl dX5_addOrphan_28 ?_
  refine st_iconst G 32 rfl (1 : Int32) (by decide) dX5_addOrphan_31 ?_
  refine st_iadd G 33 rfl dX5_addOrphan_32 ?_
  refine st_topi (fun c_people_33 ec_people_33 => ?_)
  have h := h c_people_33 ec_people_33
  refine st_put G inX5 tyX5 tyX5_ok nmX5 rfl 0 (by decide) wd_116 rfl [(q_t, .inr (5, [.int c_people_33, .ref q_t_km, .ref q_t_father, .ref q_t_mother, .ref q_t_from, .ref q_t_spoons, .ref q_t_owed, .int c_year, .int c_z, .ref q_t_tape, .int c_bytes, .ref q_t_tx0, .ref q_t_tx1, .ref q_t_waiting, .int c_waits])), (q_t_km, .inl (g.X.cI, 8, .inl c_km_11)), (q_t_father, .inl (g.X.cI, 8, .inl c_father_18)), (q_t_mother, .inl (g.X.cI, 8, .inl c_mother_25))] 36 rfl 0 rfl rfl rfl (Nat.le_of_ble_eq_true rfl) rfl dX5_addOrphan_33 ?_
  refine st_iload_n G 37 rfl 0 rfl dX5_addOrphan_36 rfl ?_
  exact R _ _ _ _ dX5_addOrphan_37 (Nat.le_of_ble_eq_true rfl) ⟨_, _, _, _, h, rfl⟩
set_option maxRecDepth 100000 in
set_option maxHeartbeats 4000000 in
theorem c_X5_addOrphan (l : Launch) (D : va_G) (X : XT) (q_t q_t_km q_t_father q_t_mother q_t_from q_t_spoons q_t_owed q_t_tape q_t_tx0 q_t_tx1 q_t_waiting : Nat) (c_people : Int32) (c_year : Int32) (c_z : Int32) (c_bytes : Int32) (c_waits : Int32) (c_km : Nat → Int32) (c_father : Nat → Int32) (c_mother : Nat → Int32) (x1 : Int32) (Q : Int32 → (Int32) → (Nat → Int32) → (Nat → Int32) → (Nat → Int32) → Prop) (h : wp_X5_addOrphan x1 c_people c_km c_father c_mother Q) : CTi l D X yX5_addOrphan cX5_addOrphan 3 .int rm_X5_addOrphan [.ref q_t, .int x1] [(q_t, .inr (5, [.int c_people, .ref q_t_km, .ref q_t_father, .ref q_t_mother, .ref q_t_from, .ref q_t_spoons, .ref q_t_owed, .int c_year, .int c_z, .ref q_t_tape, .int c_bytes, .ref q_t_tx0, .ref q_t_tx1, .ref q_t_waiting, .int c_waits])), (q_t_km, .inl (X.cI, 8, .inl c_km)), (q_t_father, .inl (X.cI, 8, .inl c_father)), (q_t_mother, .inl (X.cI, 8, .inl c_mother))] (fun (r : Int32) w => ∃ (c_people' : Int32) (c_km' : Nat → Int32) (c_father' : Nat → Int32) (c_mother' : Nat → Int32), Q r c_people' c_km' c_father' c_mother' ∧ w = [(q_t, .inr (5, [.int c_people', .ref q_t_km, .ref q_t_father, .ref q_t_mother, .ref q_t_from, .ref q_t_spoons, .ref q_t_owed, .int c_year, .int c_z, .ref q_t_tape, .int c_bytes, .ref q_t_tx0, .ref q_t_tx1, .ref q_t_waiting, .int c_waits])), (q_t_km, .inl (X.cI, 8, .inl c_km')), (q_t_father, .inl (X.cI, 8, .inl c_father')), (q_t_mother, .inl (X.cI, 8, .inl c_mother'))]) :=
  ct_i (by decide) (Nat.le_of_ble_eq_true rfl) (fun g hl hD hX G R => by subst hl; subst hD; subst hX; exact b_X5_addOrphan_e G R h)
set_option maxRecDepth 100000 in
set_option maxHeartbeats 4000000 in
theorem b_X6_person_e {g : GT} (G : GOOD g RX6 cX6_person 2 rm_X6_person) {q_t q_t_w q_t_w_km q_t_w_father q_t_w_mother q_t_w_from q_t_w_spoons q_t_w_owed q_t_w_tape q_t_w_tx0 q_t_w_tx1 q_t_w_waiting q_t_k q_t_errors q_t_sheets q_t_r q_t_th q_t_sp : Nat} {c_images : Int32} {w_people : Int32} {w_year : Int32} {w_z : Int32} {w_bytes : Int32} {w_waits : Int32} {w_km : Nat → Int32} {w_father : Nat → Int32} {w_mother : Nat → Int32} {c_errors : Nat → Int32} {x1 : Int32} {Q : Int32 → (Int32) → (Nat → Int32) → (Nat → Int32) → (Nat → Int32) → (Nat → Int32) → Prop} (R : RETi g cX6_person 6 (fun (r : Int32) w => ∃ (w_people' : Int32) (w_km' : Nat → Int32) (w_father' : Nat → Int32) (w_mother' : Nat → Int32) (c_errors' : Nat → Int32), Q r w_people' w_km' w_father' w_mother' c_errors' ∧ w = [(q_t, .inr (6, [.ref q_t_w, .ref q_t_k, .int c_images, .ref q_t_errors, .ref q_t_sheets, .ref q_t_r, .ref q_t_th, .ref q_t_sp])), (q_t_w, .inr (5, [.int w_people', .ref q_t_w_km, .ref q_t_w_father, .ref q_t_w_mother, .ref q_t_w_from, .ref q_t_w_spoons, .ref q_t_w_owed, .int w_year, .int w_z, .ref q_t_w_tape, .int w_bytes, .ref q_t_w_tx0, .ref q_t_w_tx1, .ref q_t_w_waiting, .int w_waits])), (q_t_w_km, .inl (g.X.cI, 8, .inl w_km')), (q_t_w_father, .inl (g.X.cI, 8, .inl w_father')), (q_t_w_mother, .inl (g.X.cI, 8, .inl w_mother')), (q_t_errors, .inl (g.X.cI, 7, .inl c_errors'))])) (h : wp_X6_person x1 w_people w_km w_father w_mother c_errors Q) : ST g 0 0 0 [(0, .ref q_t), (1, .int x1)] [] [(q_t, .inr (6, [.ref q_t_w, .ref q_t_k, .int c_images, .ref q_t_errors, .ref q_t_sheets, .ref q_t_r, .ref q_t_th, .ref q_t_sp])), (q_t_w, .inr (5, [.int w_people, .ref q_t_w_km, .ref q_t_w_father, .ref q_t_w_mother, .ref q_t_w_from, .ref q_t_w_spoons, .ref q_t_w_owed, .int w_year, .int w_z, .ref q_t_w_tape, .int w_bytes, .ref q_t_w_tx0, .ref q_t_w_tx1, .ref q_t_w_waiting, .int w_waits])), (q_t_w_km, .inl (g.X.cI, 8, .inl w_km)), (q_t_w_father, .inl (g.X.cI, 8, .inl w_father)), (q_t_w_mother, .inl (g.X.cI, 8, .inl w_mother)), (q_t_errors, .inl (g.X.cI, 7, .inl c_errors))] := by
  unfold wp_X6_person at h
  refine st_iload_n G 1 rfl 1 rfl dX6_person_0 rfl ?_
  refine st_cSio G lk_X6_51 (c_X6_notKm g.l g.D g.X x1 _ h) ⟨rfl, rfl, ⟨Nat.le_of_ble_eq_true rfl, Nat.le_of_ble_eq_true rfl⟩, Nat.zero_le _, Nat.zero_le _⟩ 4 rfl [] rfl (by decide) rfl (Nat.le_of_ble_eq_true rfl) rfl dX6_person_1 (fun r_1 h => ?_)
  refine st_if_eq G 13 7 rfl dX6_person_4 rfl (fun c => ?_) (fun c => ?_)
  · have h := h.1 c
    refine st_aload_n G 14 rfl 0 rfl dX6_person_13 rfl ?_
    refine st_get G inX6 rfl 0 (by decide) wd_16 17 rfl 0 rfl rfl dX6_person_14 ?_
    refine st_get G inX5 rfl 0 (by decide) wd_100 20 rfl 1 rfl rfl dX6_person_17 ?_
    refine st_bipush G 22 rfl (8 : Int32) (by decide) dX6_person_20 ?_
    refine st_icmp_lt G 31 25 rfl dX6_person_22 rfl (fun c => ?_) (fun c => ?_)
    · have h := h.1 c
      refine st_aload_n G 32 rfl 0 rfl dX6_person_31 rfl ?_
      refine st_get G inX6 rfl 0 (by decide) wd_16 35 rfl 0 rfl rfl dX6_person_32 ?_
      refine st_iload_n G 36 rfl 1 rfl dX6_person_35 rfl ?_
      refine st_cVi G lk_X6_63 (c_X5_addOrphan g.l g.D g.X q_t_w q_t_w_km q_t_w_father q_t_w_mother q_t_w_from q_t_w_spoons q_t_w_owed q_t_w_tape q_t_w_tx0 q_t_w_tx1 q_t_w_waiting w_people w_year w_z w_bytes w_waits w_km w_father w_mother x1 _ h) ⟨rfl, rfl, ⟨Nat.le_of_ble_eq_true rfl, Nat.le_of_ble_eq_true rfl⟩, Nat.zero_le _, Nat.zero_le _⟩ 39 rfl [1, 2, 3, 4] rfl (by decide) 0 5 rfl rfl rfl (Nat.le_of_ble_eq_true rfl) rfl dX6_person_36 (fun r_36 w hq => ?_)
      obtain ⟨w_people_36, w_km_36, w_father_36, w_mother_36, h, rfl⟩ := hq
      refine st_wp (ws' := [(q_t, .inr (6, [.ref q_t_w, .ref q_t_k, .int c_images, .ref q_t_errors, .ref q_t_sheets, .ref q_t_r, .ref q_t_th, .ref q_t_sp])), (q_t_w, .inr (5, [.int w_people_36, .ref q_t_w_km, .ref q_t_w_father, .ref q_t_w_mother, .ref q_t_w_from, .ref q_t_w_spoons, .ref q_t_w_owed, .int w_year, .int w_z, .ref q_t_w_tape, .int w_bytes, .ref q_t_w_tx0, .ref q_t_w_tx1, .ref q_t_w_waiting, .int w_waits])), (q_t_w_km, .inl (g.X.cI, 8, .inl w_km_36)), (q_t_w_father, .inl (g.X.cI, 8, .inl w_father_36)), (q_t_w_mother, .inl (g.X.cI, 8, .inl w_mother_36)), (q_t_errors, .inl (g.X.cI, 7, .inl c_errors))]) 6 [0, 5] (by decide) rfl rfl (by rfl) [(q_t, .inr (6, [.ref q_t_w, .ref q_t_k, .int c_images, .ref q_t_errors, .ref q_t_sheets, .ref q_t_r, .ref q_t_th, .ref q_t_sp])), (q_t_errors, .inl (g.X.cI, 7, .inl c_errors))] (by rfl) rfl ?_
      exact R _ _ _ _ dX6_person_39 (Nat.le_of_ble_eq_true rfl) ⟨_, _, _, _, _, h, rfl⟩
    have h := h.2 c
    refine st_aload_n G 26 rfl 0 rfl dX6_person_25 rfl ?_
    refine st_iconst G 27 rfl (4 : Int32) (by decide) dX6_person_26 ?_
    refine st_cVi G lk_X6_55 (c_X6_error g.l g.D g.X q_t q_t_w q_t_k q_t_errors q_t_sheets q_t_r q_t_th q_t_sp c_images c_errors (4 : Int32) _ h) ⟨rfl, rfl, ⟨Nat.le_of_ble_eq_true rfl, Nat.le_of_ble_eq_true rfl⟩, Nat.zero_le _, Nat.zero_le _⟩ 30 rfl [0, 5] rfl (by decide) 0 6 rfl rfl rfl (Nat.le_of_ble_eq_true rfl) rfl dX6_person_27 (fun r_27 w hq => ?_)
    obtain ⟨c_errors_27, h, rfl⟩ := hq
    refine st_wp (ws' := [(q_t, .inr (6, [.ref q_t_w, .ref q_t_k, .int c_images, .ref q_t_errors, .ref q_t_sheets, .ref q_t_r, .ref q_t_th, .ref q_t_sp])), (q_t_w, .inr (5, [.int w_people, .ref q_t_w_km, .ref q_t_w_father, .ref q_t_w_mother, .ref q_t_w_from, .ref q_t_w_spoons, .ref q_t_w_owed, .int w_year, .int w_z, .ref q_t_w_tape, .int w_bytes, .ref q_t_w_tx0, .ref q_t_w_tx1, .ref q_t_w_waiting, .int w_waits])), (q_t_w_km, .inl (g.X.cI, 8, .inl w_km)), (q_t_w_father, .inl (g.X.cI, 8, .inl w_father)), (q_t_w_mother, .inl (g.X.cI, 8, .inl w_mother)), (q_t_errors, .inl (g.X.cI, 7, .inl c_errors_27))]) 6 [1, 2, 3, 4] (by decide) rfl rfl (by rfl) [(q_t_w, .inr (5, [.int w_people, .ref q_t_w_km, .ref q_t_w_father, .ref q_t_w_mother, .ref q_t_w_from, .ref q_t_w_spoons, .ref q_t_w_owed, .int w_year, .int w_z, .ref q_t_w_tape, .int w_bytes, .ref q_t_w_tx0, .ref q_t_w_tx1, .ref q_t_w_waiting, .int w_waits])), (q_t_w_km, .inl (g.X.cI, 8, .inl w_km)), (q_t_w_father, .inl (g.X.cI, 8, .inl w_father)), (q_t_w_mother, .inl (g.X.cI, 8, .inl w_mother))] (by rfl) rfl ?_
    exact R _ _ _ _ dX6_person_30 (Nat.le_of_ble_eq_true rfl) ⟨_, _, _, _, _, h, rfl⟩
  have h := h.2 c
  refine st_aload_n G 8 rfl 0 rfl dX6_person_7 rfl ?_
  refine st_iconst G 9 rfl (1 : Int32) (by decide) dX6_person_8 ?_
  refine st_cVi G lk_X6_55 (c_X6_error g.l g.D g.X q_t q_t_w q_t_k q_t_errors q_t_sheets q_t_r q_t_th q_t_sp c_images c_errors (1 : Int32) _ h) ⟨rfl, rfl, ⟨Nat.le_of_ble_eq_true rfl, Nat.le_of_ble_eq_true rfl⟩, Nat.zero_le _, Nat.zero_le _⟩ 12 rfl [0, 5] rfl (by decide) 0 6 rfl rfl rfl (Nat.le_of_ble_eq_true rfl) rfl dX6_person_9 (fun r_9 w hq => ?_)
  obtain ⟨c_errors_9, h, rfl⟩ := hq
  refine st_wp (ws' := [(q_t, .inr (6, [.ref q_t_w, .ref q_t_k, .int c_images, .ref q_t_errors, .ref q_t_sheets, .ref q_t_r, .ref q_t_th, .ref q_t_sp])), (q_t_w, .inr (5, [.int w_people, .ref q_t_w_km, .ref q_t_w_father, .ref q_t_w_mother, .ref q_t_w_from, .ref q_t_w_spoons, .ref q_t_w_owed, .int w_year, .int w_z, .ref q_t_w_tape, .int w_bytes, .ref q_t_w_tx0, .ref q_t_w_tx1, .ref q_t_w_waiting, .int w_waits])), (q_t_w_km, .inl (g.X.cI, 8, .inl w_km)), (q_t_w_father, .inl (g.X.cI, 8, .inl w_father)), (q_t_w_mother, .inl (g.X.cI, 8, .inl w_mother)), (q_t_errors, .inl (g.X.cI, 7, .inl c_errors_9))]) 6 [1, 2, 3, 4] (by decide) rfl rfl (by rfl) [(q_t_w, .inr (5, [.int w_people, .ref q_t_w_km, .ref q_t_w_father, .ref q_t_w_mother, .ref q_t_w_from, .ref q_t_w_spoons, .ref q_t_w_owed, .int w_year, .int w_z, .ref q_t_w_tape, .int w_bytes, .ref q_t_w_tx0, .ref q_t_w_tx1, .ref q_t_w_waiting, .int w_waits])), (q_t_w_km, .inl (g.X.cI, 8, .inl w_km)), (q_t_w_father, .inl (g.X.cI, 8, .inl w_father)), (q_t_w_mother, .inl (g.X.cI, 8, .inl w_mother))] (by rfl) rfl ?_
  exact R _ _ _ _ dX6_person_12 (Nat.le_of_ble_eq_true rfl) ⟨_, _, _, _, _, h, rfl⟩
set_option maxRecDepth 100000 in
set_option maxHeartbeats 4000000 in
theorem c_X6_person (l : Launch) (D : va_G) (X : XT) (q_t q_t_w q_t_w_km q_t_w_father q_t_w_mother q_t_w_from q_t_w_spoons q_t_w_owed q_t_w_tape q_t_w_tx0 q_t_w_tx1 q_t_w_waiting q_t_k q_t_errors q_t_sheets q_t_r q_t_th q_t_sp : Nat) (c_images : Int32) (w_people : Int32) (w_year : Int32) (w_z : Int32) (w_bytes : Int32) (w_waits : Int32) (w_km : Nat → Int32) (w_father : Nat → Int32) (w_mother : Nat → Int32) (c_errors : Nat → Int32) (x1 : Int32) (Q : Int32 → (Int32) → (Nat → Int32) → (Nat → Int32) → (Nat → Int32) → (Nat → Int32) → Prop) (h : wp_X6_person x1 w_people w_km w_father w_mother c_errors Q) : CTi l D X yX6_person cX6_person 2 .int rm_X6_person [.ref q_t, .int x1] [(q_t, .inr (6, [.ref q_t_w, .ref q_t_k, .int c_images, .ref q_t_errors, .ref q_t_sheets, .ref q_t_r, .ref q_t_th, .ref q_t_sp])), (q_t_w, .inr (5, [.int w_people, .ref q_t_w_km, .ref q_t_w_father, .ref q_t_w_mother, .ref q_t_w_from, .ref q_t_w_spoons, .ref q_t_w_owed, .int w_year, .int w_z, .ref q_t_w_tape, .int w_bytes, .ref q_t_w_tx0, .ref q_t_w_tx1, .ref q_t_w_waiting, .int w_waits])), (q_t_w_km, .inl (X.cI, 8, .inl w_km)), (q_t_w_father, .inl (X.cI, 8, .inl w_father)), (q_t_w_mother, .inl (X.cI, 8, .inl w_mother)), (q_t_errors, .inl (X.cI, 7, .inl c_errors))] (fun (r : Int32) w => ∃ (w_people' : Int32) (w_km' : Nat → Int32) (w_father' : Nat → Int32) (w_mother' : Nat → Int32) (c_errors' : Nat → Int32), Q r w_people' w_km' w_father' w_mother' c_errors' ∧ w = [(q_t, .inr (6, [.ref q_t_w, .ref q_t_k, .int c_images, .ref q_t_errors, .ref q_t_sheets, .ref q_t_r, .ref q_t_th, .ref q_t_sp])), (q_t_w, .inr (5, [.int w_people', .ref q_t_w_km, .ref q_t_w_father, .ref q_t_w_mother, .ref q_t_w_from, .ref q_t_w_spoons, .ref q_t_w_owed, .int w_year, .int w_z, .ref q_t_w_tape, .int w_bytes, .ref q_t_w_tx0, .ref q_t_w_tx1, .ref q_t_w_waiting, .int w_waits])), (q_t_w_km, .inl (X.cI, 8, .inl w_km')), (q_t_w_father, .inl (X.cI, 8, .inl w_father')), (q_t_w_mother, .inl (X.cI, 8, .inl w_mother')), (q_t_errors, .inl (X.cI, 7, .inl c_errors'))]) :=
  ct_i (by decide) (Nat.le_of_ble_eq_true rfl) (fun g hl hD hX G R => by subst hl; subst hD; subst hX; exact b_X6_person_e G R h)
set_option maxRecDepth 100000 in
set_option maxHeartbeats 4000000 in
theorem b_X6_notOne_e {g : GT} (G : GOOD g RX6 cX6_notOne 2 rm_X6_notOne) {q_t q_t_w q_t_w_km q_t_w_father q_t_w_mother q_t_w_from q_t_w_spoons q_t_w_owed q_t_w_tape q_t_w_tx0 q_t_w_tx1 q_t_w_waiting q_t_k q_t_errors q_t_sheets q_t_r q_t_th q_t_sp : Nat} {c_images : Int32} {w_people : Int32} {w_year : Int32} {w_z : Int32} {w_bytes : Int32} {w_waits : Int32} {x1 : Int32} {Q : Int32 → Prop} (R : RETz g cX6_notOne 2 (fun (r : Int32) w => (Q r) ∧ w = [(q_t, .inr (6, [.ref q_t_w, .ref q_t_k, .int c_images, .ref q_t_errors, .ref q_t_sheets, .ref q_t_r, .ref q_t_th, .ref q_t_sp])), (q_t_w, .inr (5, [.int w_people, .ref q_t_w_km, .ref q_t_w_father, .ref q_t_w_mother, .ref q_t_w_from, .ref q_t_w_spoons, .ref q_t_w_owed, .int w_year, .int w_z, .ref q_t_w_tape, .int w_bytes, .ref q_t_w_tx0, .ref q_t_w_tx1, .ref q_t_w_waiting, .int w_waits]))])) (h : wp_X6_notOne x1 w_people Q) : ST g 0 0 0 [(0, .ref q_t), (1, .int x1)] [] [(q_t, .inr (6, [.ref q_t_w, .ref q_t_k, .int c_images, .ref q_t_errors, .ref q_t_sheets, .ref q_t_r, .ref q_t_th, .ref q_t_sp])), (q_t_w, .inr (5, [.int w_people, .ref q_t_w_km, .ref q_t_w_father, .ref q_t_w_mother, .ref q_t_w_from, .ref q_t_w_spoons, .ref q_t_w_owed, .int w_year, .int w_z, .ref q_t_w_tape, .int w_bytes, .ref q_t_w_tx0, .ref q_t_w_tx1, .ref q_t_w_waiting, .int w_waits]))] := by
  unfold wp_X6_notOne at h
  refine st_iload_n G 1 rfl 1 rfl dX6_notOne_0 rfl ?_
  refine st_if_lt G 15 4 rfl dX6_notOne_1 rfl (fun c => ?_) (fun c => ?_)
  · have h := h.1 c
    refine st_iconst G 16 rfl (1 : Int32) (by decide) dX6_notOne_15 ?_
    refine st_goto G 20 dX6_notOne_16 rfl ?_
    exact R _ _ _ _ dX6_notOne_20 (Nat.le_of_ble_eq_true rfl) rfl ⟨h, rfl⟩
  have h := h.2 c
  refine st_iload_n G 5 rfl 1 rfl dX6_notOne_4 rfl ?_
  refine st_aload_n G 6 rfl 0 rfl dX6_notOne_5 rfl ?_
  refine st_get G inX6 rfl 0 (by decide) wd_16 9 rfl 0 rfl rfl dX6_notOne_6 ?_
  refine st_get G inX5 rfl 0 (by decide) wd_100 12 rfl 1 rfl rfl dX6_notOne_9 ?_
  refine st_icmp_lt G 19 15 rfl dX6_notOne_12 rfl (fun c => ?_) (fun c => ?_)
  · have h := h.1 c
    refine st_iconst G 20 rfl (0 : Int32) (by decide) dX6_notOne_19 ?_
    exact R _ _ _ _ dX6_notOne_20 (Nat.le_of_ble_eq_true rfl) rfl ⟨h, rfl⟩
  have h := h.2 c
  refine st_iconst G 16 rfl (1 : Int32) (by decide) dX6_notOne_15 ?_
  refine st_goto G 20 dX6_notOne_16 rfl ?_
  exact R _ _ _ _ dX6_notOne_20 (Nat.le_of_ble_eq_true rfl) rfl ⟨h, rfl⟩
set_option maxRecDepth 100000 in
set_option maxHeartbeats 4000000 in
theorem c_X6_notOne (l : Launch) (D : va_G) (X : XT) (q_t q_t_w q_t_w_km q_t_w_father q_t_w_mother q_t_w_from q_t_w_spoons q_t_w_owed q_t_w_tape q_t_w_tx0 q_t_w_tx1 q_t_w_waiting q_t_k q_t_errors q_t_sheets q_t_r q_t_th q_t_sp : Nat) (c_images : Int32) (w_people : Int32) (w_year : Int32) (w_z : Int32) (w_bytes : Int32) (w_waits : Int32) (x1 : Int32) (Q : Int32 → Prop) (h : wp_X6_notOne x1 w_people Q) : CTi l D X yX6_notOne cX6_notOne 2 .boolean rm_X6_notOne [.ref q_t, .int x1] [(q_t, .inr (6, [.ref q_t_w, .ref q_t_k, .int c_images, .ref q_t_errors, .ref q_t_sheets, .ref q_t_r, .ref q_t_th, .ref q_t_sp])), (q_t_w, .inr (5, [.int w_people, .ref q_t_w_km, .ref q_t_w_father, .ref q_t_w_mother, .ref q_t_w_from, .ref q_t_w_spoons, .ref q_t_w_owed, .int w_year, .int w_z, .ref q_t_w_tape, .int w_bytes, .ref q_t_w_tx0, .ref q_t_w_tx1, .ref q_t_w_waiting, .int w_waits]))] (fun (r : Int32) w => (Q r) ∧ w = [(q_t, .inr (6, [.ref q_t_w, .ref q_t_k, .int c_images, .ref q_t_errors, .ref q_t_sheets, .ref q_t_r, .ref q_t_th, .ref q_t_sp])), (q_t_w, .inr (5, [.int w_people, .ref q_t_w_km, .ref q_t_w_father, .ref q_t_w_mother, .ref q_t_w_from, .ref q_t_w_spoons, .ref q_t_w_owed, .int w_year, .int w_z, .ref q_t_w_tape, .int w_bytes, .ref q_t_w_tx0, .ref q_t_w_tx1, .ref q_t_w_waiting, .int w_waits]))]) :=
  ct_z (by decide) (Nat.le_of_ble_eq_true rfl) (fun g hl hD hX G R => by subst hl; subst hD; subst hX; exact b_X6_notOne_e G R h)
set_option maxRecDepth 100000 in
set_option maxHeartbeats 4000000 in
theorem b_X6_notTwo_e {g : GT} (G : GOOD g RX6 cX6_notTwo 3 rm_X6_notTwo) {q_t q_t_w q_t_w_km q_t_w_father q_t_w_mother q_t_w_from q_t_w_spoons q_t_w_owed q_t_w_tape q_t_w_tx0 q_t_w_tx1 q_t_w_waiting q_t_k q_t_errors q_t_sheets q_t_r q_t_th q_t_sp : Nat} {c_images : Int32} {w_people : Int32} {w_year : Int32} {w_z : Int32} {w_bytes : Int32} {w_waits : Int32} {x1 : Int32} {x2 : Int32} {Q : Int32 → Prop} (R : RETz g cX6_notTwo 2 (fun (r : Int32) w => (Q r) ∧ w = [(q_t, .inr (6, [.ref q_t_w, .ref q_t_k, .int c_images, .ref q_t_errors, .ref q_t_sheets, .ref q_t_r, .ref q_t_th, .ref q_t_sp])), (q_t_w, .inr (5, [.int w_people, .ref q_t_w_km, .ref q_t_w_father, .ref q_t_w_mother, .ref q_t_w_from, .ref q_t_w_spoons, .ref q_t_w_owed, .int w_year, .int w_z, .ref q_t_w_tape, .int w_bytes, .ref q_t_w_tx0, .ref q_t_w_tx1, .ref q_t_w_waiting, .int w_waits]))])) (h : wp_X6_notTwo x1 x2 w_people Q) : ST g 0 0 0 [(0, .ref q_t), (1, .int x1), (2, .int x2)] [] [(q_t, .inr (6, [.ref q_t_w, .ref q_t_k, .int c_images, .ref q_t_errors, .ref q_t_sheets, .ref q_t_r, .ref q_t_th, .ref q_t_sp])), (q_t_w, .inr (5, [.int w_people, .ref q_t_w_km, .ref q_t_w_father, .ref q_t_w_mother, .ref q_t_w_from, .ref q_t_w_spoons, .ref q_t_w_owed, .int w_year, .int w_z, .ref q_t_w_tape, .int w_bytes, .ref q_t_w_tx0, .ref q_t_w_tx1, .ref q_t_w_waiting, .int w_waits]))] := by
  unfold wp_X6_notTwo at h
  refine st_aload_n G 1 rfl 0 rfl dX6_notTwo_0 rfl ?_
  refine st_iload_n G 2 rfl 1 rfl dX6_notTwo_1 rfl ?_
  refine st_cVio G lk_X6_74 (c_X6_notOne g.l g.D g.X q_t q_t_w q_t_w_km q_t_w_father q_t_w_mother q_t_w_from q_t_w_spoons q_t_w_owed q_t_w_tape q_t_w_tx0 q_t_w_tx1 q_t_w_waiting q_t_k q_t_errors q_t_sheets q_t_r q_t_th q_t_sp c_images w_people w_year w_z w_bytes w_waits x1 _ h) ⟨rfl, rfl, ⟨Nat.le_of_ble_eq_true rfl, Nat.le_of_ble_eq_true rfl⟩, Nat.zero_le _, Nat.zero_le _⟩ 5 rfl [0, 1] rfl (by decide) 0 6 rfl rfl rfl (Nat.le_of_ble_eq_true rfl) rfl dX6_notTwo_2 (fun r_2 h => ?_)
  refine st_if_ne G 21 8 rfl dX6_notTwo_5 rfl (fun c => ?_) (fun c => ?_)
  · have h := h.1 c
    refine st_iconst G 22 rfl (1 : Int32) (by decide) dX6_notTwo_21 ?_
    refine st_goto G 26 dX6_notTwo_22 rfl ?_
    exact R _ _ _ _ dX6_notTwo_26 (Nat.le_of_ble_eq_true rfl) rfl ⟨h, rfl⟩
  have h := h.2 c
  refine st_aload_n G 9 rfl 0 rfl dX6_notTwo_8 rfl ?_
  refine st_iload_n G 10 rfl 2 rfl dX6_notTwo_9 rfl ?_
  refine st_cVio G lk_X6_74 (c_X6_notOne g.l g.D g.X q_t q_t_w q_t_w_km q_t_w_father q_t_w_mother q_t_w_from q_t_w_spoons q_t_w_owed q_t_w_tape q_t_w_tx0 q_t_w_tx1 q_t_w_waiting q_t_k q_t_errors q_t_sheets q_t_r q_t_th q_t_sp c_images w_people w_year w_z w_bytes w_waits x2 _ h) ⟨rfl, rfl, ⟨Nat.le_of_ble_eq_true rfl, Nat.le_of_ble_eq_true rfl⟩, Nat.zero_le _, Nat.zero_le _⟩ 13 rfl [0, 1] rfl (by decide) 0 6 rfl rfl rfl (Nat.le_of_ble_eq_true rfl) rfl dX6_notTwo_10 (fun r_10 h => ?_)
  refine st_if_ne G 21 16 rfl dX6_notTwo_13 rfl (fun c => ?_) (fun c => ?_)
  · have h := h.1 c
    refine st_iconst G 22 rfl (1 : Int32) (by decide) dX6_notTwo_21 ?_
    refine st_goto G 26 dX6_notTwo_22 rfl ?_
    exact R _ _ _ _ dX6_notTwo_26 (Nat.le_of_ble_eq_true rfl) rfl ⟨h, rfl⟩
  have h := h.2 c
  refine st_iload_n G 17 rfl 1 rfl dX6_notTwo_16 rfl ?_
  refine st_iload_n G 18 rfl 2 rfl dX6_notTwo_17 rfl ?_
  refine st_icmp_ne G 25 21 rfl dX6_notTwo_18 rfl (fun c => ?_) (fun c => ?_)
  · have h := h.1 c
    refine st_iconst G 26 rfl (0 : Int32) (by decide) dX6_notTwo_25 ?_
    exact R _ _ _ _ dX6_notTwo_26 (Nat.le_of_ble_eq_true rfl) rfl ⟨h, rfl⟩
  have h := h.2 c
  refine st_iconst G 22 rfl (1 : Int32) (by decide) dX6_notTwo_21 ?_
  refine st_goto G 26 dX6_notTwo_22 rfl ?_
  exact R _ _ _ _ dX6_notTwo_26 (Nat.le_of_ble_eq_true rfl) rfl ⟨h, rfl⟩
set_option maxRecDepth 100000 in
set_option maxHeartbeats 4000000 in
theorem c_X6_notTwo (l : Launch) (D : va_G) (X : XT) (q_t q_t_w q_t_w_km q_t_w_father q_t_w_mother q_t_w_from q_t_w_spoons q_t_w_owed q_t_w_tape q_t_w_tx0 q_t_w_tx1 q_t_w_waiting q_t_k q_t_errors q_t_sheets q_t_r q_t_th q_t_sp : Nat) (c_images : Int32) (w_people : Int32) (w_year : Int32) (w_z : Int32) (w_bytes : Int32) (w_waits : Int32) (x1 : Int32) (x2 : Int32) (Q : Int32 → Prop) (h : wp_X6_notTwo x1 x2 w_people Q) : CTi l D X yX6_notTwo cX6_notTwo 3 .boolean rm_X6_notTwo [.ref q_t, .int x1, .int x2] [(q_t, .inr (6, [.ref q_t_w, .ref q_t_k, .int c_images, .ref q_t_errors, .ref q_t_sheets, .ref q_t_r, .ref q_t_th, .ref q_t_sp])), (q_t_w, .inr (5, [.int w_people, .ref q_t_w_km, .ref q_t_w_father, .ref q_t_w_mother, .ref q_t_w_from, .ref q_t_w_spoons, .ref q_t_w_owed, .int w_year, .int w_z, .ref q_t_w_tape, .int w_bytes, .ref q_t_w_tx0, .ref q_t_w_tx1, .ref q_t_w_waiting, .int w_waits]))] (fun (r : Int32) w => (Q r) ∧ w = [(q_t, .inr (6, [.ref q_t_w, .ref q_t_k, .int c_images, .ref q_t_errors, .ref q_t_sheets, .ref q_t_r, .ref q_t_th, .ref q_t_sp])), (q_t_w, .inr (5, [.int w_people, .ref q_t_w_km, .ref q_t_w_father, .ref q_t_w_mother, .ref q_t_w_from, .ref q_t_w_spoons, .ref q_t_w_owed, .int w_year, .int w_z, .ref q_t_w_tape, .int w_bytes, .ref q_t_w_tx0, .ref q_t_w_tx1, .ref q_t_w_waiting, .int w_waits]))]) :=
  ct_z (by decide) (Nat.le_of_ble_eq_true rfl) (fun g hl hD hX G R => by subst hl; subst hD; subst hX; exact b_X6_notTwo_e G R h)
set_option maxRecDepth 100000 in
set_option maxHeartbeats 4000000 in
theorem b_X6_cell_e {g : GT} (G : GOOD g RX6 cX6_cell 2 rm_X6_cell) {x0 : Int32} {x1 : Int32} {Q : Int32 → Prop} (R : RETi g cX6_cell 0 (fun (r : Int32) w => (Q r) ∧ w = [])) (h : wp_X6_cell x0 x1 Q) : ST g 0 0 0 [(0, .int x0), (1, .int x1)] [] [] := by
  unfold wp_X6_cell at h
  refine st_iload_n G 1 rfl 0 rfl dX6_cell_0 rfl ?_
  refine st_iconst G 2 rfl (5 : Int32) (by decide) dX6_cell_1 ?_
  refine st_imul G 3 rfl dX6_cell_2 ?_
  refine st_iload_n G 4 rfl 1 rfl dX6_cell_3 rfl ?_
  refine st_iadd G 5 rfl dX6_cell_4 ?_
  exact R _ _ _ _ dX6_cell_5 (Nat.le_of_ble_eq_true rfl) ⟨h, rfl⟩
set_option maxRecDepth 100000 in
set_option maxHeartbeats 4000000 in
theorem c_X6_cell (l : Launch) (D : va_G) (X : XT) (x0 : Int32) (x1 : Int32) (Q : Int32 → Prop) (h : wp_X6_cell x0 x1 Q) : CTi l D X yX6_cell cX6_cell 2 .int rm_X6_cell [.int x0, .int x1] [] (fun (r : Int32) w => (Q r) ∧ w = []) :=
  ct_i (by decide) (Nat.le_of_ble_eq_true rfl) (fun g hl hD hX G R => by subst hl; subst hD; subst hX; exact b_X6_cell_e G R h)
set_option maxRecDepth 100000 in
set_option maxHeartbeats 4000000 in
theorem b_X5_withForebears_e {g : GT} (G : GOOD g RX5 cX5_withForebears 2 rm_X5_withForebears) {q_t q_t_km q_t_father q_t_mother q_t_from q_t_spoons q_t_owed q_t_tape q_t_tx0 q_t_tx1 q_t_waiting : Nat} {c_people : Int32} {c_year : Int32} {c_z : Int32} {c_bytes : Int32} {c_waits : Int32} {c_from : Nat → Int32} {x1 : Int32} {Q : Int32 → Prop} (R : RETi g cX5_withForebears 2 (fun (r : Int32) w => (Q r) ∧ w = [(q_t, .inr (5, [.int c_people, .ref q_t_km, .ref q_t_father, .ref q_t_mother, .ref q_t_from, .ref q_t_spoons, .ref q_t_owed, .int c_year, .int c_z, .ref q_t_tape, .int c_bytes, .ref q_t_tx0, .ref q_t_tx1, .ref q_t_waiting, .int c_waits])), (q_t_from, .inl (g.X.cI, 8, .inl c_from))])) (h : wp_X5_withForebears x1 c_from Q) : ST g 0 0 0 [(0, .ref q_t), (1, .int x1)] [] [(q_t, .inr (5, [.int c_people, .ref q_t_km, .ref q_t_father, .ref q_t_mother, .ref q_t_from, .ref q_t_spoons, .ref q_t_owed, .int c_year, .int c_z, .ref q_t_tape, .int c_bytes, .ref q_t_tx0, .ref q_t_tx1, .ref q_t_waiting, .int c_waits])), (q_t_from, .inl (g.X.cI, 8, .inl c_from))] := by
  unfold wp_X5_withForebears at h
  refine st_aload_n G 1 rfl 0 rfl dX5_withForebears_0 rfl ?_
  refine st_get G inX5 rfl 4 (by decide) wd_42 4 rfl 0 rfl rfl dX5_withForebears_1 ?_
  refine st_iload_n G 5 rfl 1 rfl dX5_withForebears_4 rfl ?_
  obtain ⟨hin, h⟩ := h
  refine st_iald G 6 rfl 1 rfl hin dX5_withForebears_5 ?_
  refine st_iconst G 7 rfl (1 : Int32) (by decide) dX5_withForebears_6 ?_
  refine st_iload_n G 8 rfl 1 rfl dX5_withForebears_7 rfl ?_
  refine st_ishl G 9 rfl dX5_withForebears_8 ?_
  refine st_ior G 10 rfl dX5_withForebears_9 ?_
  exact R _ _ _ _ dX5_withForebears_10 (Nat.le_of_ble_eq_true rfl) ⟨h, rfl⟩
set_option maxRecDepth 100000 in
set_option maxHeartbeats 4000000 in
theorem c_X5_withForebears (l : Launch) (D : va_G) (X : XT) (q_t q_t_km q_t_father q_t_mother q_t_from q_t_spoons q_t_owed q_t_tape q_t_tx0 q_t_tx1 q_t_waiting : Nat) (c_people : Int32) (c_year : Int32) (c_z : Int32) (c_bytes : Int32) (c_waits : Int32) (c_from : Nat → Int32) (x1 : Int32) (Q : Int32 → Prop) (h : wp_X5_withForebears x1 c_from Q) : CTi l D X yX5_withForebears cX5_withForebears 2 .int rm_X5_withForebears [.ref q_t, .int x1] [(q_t, .inr (5, [.int c_people, .ref q_t_km, .ref q_t_father, .ref q_t_mother, .ref q_t_from, .ref q_t_spoons, .ref q_t_owed, .int c_year, .int c_z, .ref q_t_tape, .int c_bytes, .ref q_t_tx0, .ref q_t_tx1, .ref q_t_waiting, .int c_waits])), (q_t_from, .inl (X.cI, 8, .inl c_from))] (fun (r : Int32) w => (Q r) ∧ w = [(q_t, .inr (5, [.int c_people, .ref q_t_km, .ref q_t_father, .ref q_t_mother, .ref q_t_from, .ref q_t_spoons, .ref q_t_owed, .int c_year, .int c_z, .ref q_t_tape, .int c_bytes, .ref q_t_tx0, .ref q_t_tx1, .ref q_t_waiting, .int c_waits])), (q_t_from, .inl (X.cI, 8, .inl c_from))]) :=
  ct_i (by decide) (Nat.le_of_ble_eq_true rfl) (fun g hl hD hX G R => by subst hl; subst hD; subst hX; exact b_X5_withForebears_e G R h)
set_option maxRecDepth 100000 in
set_option maxHeartbeats 4000000 in
theorem b_X5_poured_e {g : GT} (G : GOOD g RX5 cX5_poured 4 rm_X5_poured) {q_t q_t_km q_t_father q_t_mother q_t_from q_t_spoons q_t_owed q_t_tape q_t_tx0 q_t_tx1 q_t_waiting : Nat} {c_people : Int32} {c_year : Int32} {c_z : Int32} {c_bytes : Int32} {c_waits : Int32} {c_spoons : Nat → Int32} {x1 : Int32} {x2 : Int32} {x3 : Int32} {Q : Int32 → Prop} (R : RETi g cX5_poured 2 (fun (r : Int32) w => (Q r) ∧ w = [(q_t, .inr (5, [.int c_people, .ref q_t_km, .ref q_t_father, .ref q_t_mother, .ref q_t_from, .ref q_t_spoons, .ref q_t_owed, .int c_year, .int c_z, .ref q_t_tape, .int c_bytes, .ref q_t_tx0, .ref q_t_tx1, .ref q_t_waiting, .int c_waits])), (q_t_spoons, .inl (g.X.cI, 40, .inl c_spoons))])) (h : wp_X5_poured x1 x2 x3 c_spoons Q) : ST g 0 0 0 [(0, .ref q_t), (1, .int x1), (2, .int x2), (3, .int x3)] [] [(q_t, .inr (5, [.int c_people, .ref q_t_km, .ref q_t_father, .ref q_t_mother, .ref q_t_from, .ref q_t_spoons, .ref q_t_owed, .int c_year, .int c_z, .ref q_t_tape, .int c_bytes, .ref q_t_tx0, .ref q_t_tx1, .ref q_t_waiting, .int c_waits])), (q_t_spoons, .inl (g.X.cI, 40, .inl c_spoons))] := by
  unfold wp_X5_poured at h
  refine st_aload_n G 1 rfl 0 rfl dX5_poured_0 rfl ?_
  refine st_get G inX5 rfl 5 (by decide) wd_43 4 rfl 0 rfl rfl dX5_poured_1 ?_
  refine st_iload_n G 5 rfl 1 rfl dX5_poured_4 rfl ?_
  refine st_iload_n G 6 rfl 3 rfl dX5_poured_5 rfl ?_
  refine st_cNio G lk_X5_79 (c_X6_cell g.l g.D g.X x1 x3 _ h) ⟨rfl, rfl, ⟨Nat.le_of_ble_eq_true rfl, Nat.le_of_ble_eq_true rfl⟩, Nat.zero_le _, Nat.zero_le _⟩ 9 rfl [] rfl (by decide) rfl (Nat.le_of_ble_eq_true rfl) rfl dX5_poured_6 (fun r_6 h => ?_)
  obtain ⟨hin, h⟩ := h
  refine st_iald G 10 rfl 1 rfl hin dX5_poured_9 ?_
  refine st_aload_n G 11 rfl 0 rfl dX5_poured_10 rfl ?_
  refine st_get G inX5 rfl 5 (by decide) wd_43 14 rfl 0 rfl rfl dX5_poured_11 ?_
  refine st_iload_n G 15 rfl 2 rfl dX5_poured_14 rfl ?_
  refine st_iload_n G 16 rfl 3 rfl dX5_poured_15 rfl ?_
  refine st_cNio G lk_X5_79 (c_X6_cell g.l g.D g.X x2 x3 _ h) ⟨rfl, rfl, ⟨Nat.le_of_ble_eq_true rfl, Nat.le_of_ble_eq_true rfl⟩, Nat.zero_le _, Nat.zero_le _⟩ 19 rfl [] rfl (by decide) rfl (Nat.le_of_ble_eq_true rfl) rfl dX5_poured_16 (fun r_16 h => ?_)
  obtain ⟨hin, h⟩ := h
  refine st_iald G 20 rfl 1 rfl hin dX5_poured_19 ?_
  refine st_iadd G 21 rfl dX5_poured_20 ?_
  refine st_iconst G 22 rfl (2 : Int32) (by decide) dX5_poured_21 ?_
  refine st_idiv G 23 rfl (by decide) dX5_poured_22 ?_
  exact R _ _ _ _ dX5_poured_23 (Nat.le_of_ble_eq_true rfl) ⟨h, rfl⟩
set_option maxRecDepth 100000 in
set_option maxHeartbeats 4000000 in
theorem c_X5_poured (l : Launch) (D : va_G) (X : XT) (q_t q_t_km q_t_father q_t_mother q_t_from q_t_spoons q_t_owed q_t_tape q_t_tx0 q_t_tx1 q_t_waiting : Nat) (c_people : Int32) (c_year : Int32) (c_z : Int32) (c_bytes : Int32) (c_waits : Int32) (c_spoons : Nat → Int32) (x1 : Int32) (x2 : Int32) (x3 : Int32) (Q : Int32 → Prop) (h : wp_X5_poured x1 x2 x3 c_spoons Q) : CTi l D X yX5_poured cX5_poured 4 .int rm_X5_poured [.ref q_t, .int x1, .int x2, .int x3] [(q_t, .inr (5, [.int c_people, .ref q_t_km, .ref q_t_father, .ref q_t_mother, .ref q_t_from, .ref q_t_spoons, .ref q_t_owed, .int c_year, .int c_z, .ref q_t_tape, .int c_bytes, .ref q_t_tx0, .ref q_t_tx1, .ref q_t_waiting, .int c_waits])), (q_t_spoons, .inl (X.cI, 40, .inl c_spoons))] (fun (r : Int32) w => (Q r) ∧ w = [(q_t, .inr (5, [.int c_people, .ref q_t_km, .ref q_t_father, .ref q_t_mother, .ref q_t_from, .ref q_t_spoons, .ref q_t_owed, .int c_year, .int c_z, .ref q_t_tape, .int c_bytes, .ref q_t_tx0, .ref q_t_tx1, .ref q_t_waiting, .int c_waits])), (q_t_spoons, .inl (X.cI, 40, .inl c_spoons))]) :=
  ct_i (by decide) (Nat.le_of_ble_eq_true rfl) (fun g hl hD hX G R => by subst hl; subst hD; subst hX; exact b_X5_poured_e G R h)
set_option maxRecDepth 100000 in
set_option maxHeartbeats 4000000 in
theorem b_X5_addChild_44 {g : GT} (G : GOOD g RX5 cX5_addChild 6 rm_X5_addChild) {q_t q_t_km q_t_father q_t_mother q_t_from q_t_spoons q_t_owed q_t_tape q_t_tx0 q_t_tx1 q_t_waiting : Nat} {c_year : Int32} {c_z : Int32} {c_bytes : Int32} {c_waits : Int32} {Q : Int32 → (Int32) → (Nat → Int32) → (Nat → Int32) → (Nat → Int32) → (Nat → Int32) → (Nat → Int32) → Prop} (R : RETi g cX5_addChild 6 (fun (r : Int32) w => ∃ (c_people' : Int32) (c_km' : Nat → Int32) (c_father' : Nat → Int32) (c_mother' : Nat → Int32) (c_from' : Nat → Int32) (c_spoons' : Nat → Int32), Q r c_people' c_km' c_father' c_mother' c_from' c_spoons' ∧ w = [(q_t, .inr (5, [.int c_people', .ref q_t_km, .ref q_t_father, .ref q_t_mother, .ref q_t_from, .ref q_t_spoons, .ref q_t_owed, .int c_year, .int c_z, .ref q_t_tape, .int c_bytes, .ref q_t_tx0, .ref q_t_tx1, .ref q_t_waiting, .int c_waits])), (q_t_km, .inl (g.X.cI, 8, .inl c_km')), (q_t_father, .inl (g.X.cI, 8, .inl c_father')), (q_t_mother, .inl (g.X.cI, 8, .inl c_mother')), (q_t_from, .inl (g.X.cI, 8, .inl c_from')), (q_t_spoons, .inl (g.X.cI, 40, .inl c_spoons'))])) : ∀ (n : Nat) (x2 : Int32) (x3 : Int32) (x4 : Int32) (x5 : Int32) (c_people : Int32) (c_km : Nat → Int32) (c_father : Nat → Int32) (c_mother : Nat → Int32) (c_from : Nat → Int32) (c_spoons : Nat → Int32), wp_X5_addChild_b44 Q n x2 x3 x4 x5 c_people c_km c_father c_mother c_from c_spoons → ST g 0 0 44 [(0, .ref q_t), (2, .int x2), (3, .int x3), (4, .int x4), (5, .int x5)] [] [(q_t, .inr (5, [.int c_people, .ref q_t_km, .ref q_t_father, .ref q_t_mother, .ref q_t_from, .ref q_t_spoons, .ref q_t_owed, .int c_year, .int c_z, .ref q_t_tape, .int c_bytes, .ref q_t_tx0, .ref q_t_tx1, .ref q_t_waiting, .int c_waits])), (q_t_km, .inl (g.X.cI, 8, .inl c_km)), (q_t_father, .inl (g.X.cI, 8, .inl c_father)), (q_t_mother, .inl (g.X.cI, 8, .inl c_mother)), (q_t_from, .inl (g.X.cI, 8, .inl c_from)), (q_t_spoons, .inl (g.X.cI, 40, .inl c_spoons))] := by
  intro n
  induction n with
  | zero => intro x2 x3 x4 x5 c_people c_km c_father c_mother c_from c_spoons h; exact False.elim h
  | succ n hK44 =>
    intro x2 x3 x4 x5 c_people c_km c_father c_mother c_from c_spoons h
    unfold wp_X5_addChild_b44 at h
    refine st_iload G 46 rfl 4 rfl dX5_addChild_44 ?_
    refine st_iconst G 47 rfl (5 : Int32) (by decide) dX5_addChild_46 ?_
    refine st_icmp_ge G 76 50 rfl dX5_addChild_47 rfl (fun c => ?_) (fun c => ?_)
    · have h := h.1 c
      refine st_iload G 78 rfl 3 rfl dX5_addChild_76 ?_
      exact R _ _ _ _ dX5_addChild_78 (Nat.le_of_ble_eq_true rfl) ⟨_, _, _, _, _, _, h, rfl⟩
    have h := h.2 c
    refine st_aload_n G 51 rfl 0 rfl dX5_addChild_50 rfl ?_
    refine st_get G inX5 rfl 5 (by decide) wd_43 54 rfl 0 rfl rfl dX5_addChild_51 ?_
    refine st_iload G 56 rfl 3 rfl dX5_addChild_54 ?_
    refine st_iload G 58 rfl 4 rfl dX5_addChild_56 ?_
    refine st_cNio G lk_X5_79 (c_X6_cell g.l g.D g.X x4 x5 _ h) ⟨rfl, rfl, ⟨Nat.le_of_ble_eq_true rfl, Nat.le_of_ble_eq_true rfl⟩, Nat.zero_le _, Nat.zero_le _⟩ 61 rfl [] rfl (by decide) rfl (Nat.le_of_ble_eq_true rfl) rfl dX5_addChild_58 (fun r_58 h => ?_)
    refine st_aload_n G 62 rfl 0 rfl dX5_addChild_61 rfl ?_
    refine st_iload_n G 63 rfl 1 rfl dX5_addChild_62 rfl ?_
    refine st_iload_n G 64 rfl 2 rfl dX5_addChild_63 rfl ?_
    refine st_iload G 66 rfl 4 rfl dX5_addChild_64 ?_
    refine st_cVio G lk_X5_83 (c_X5_poured g.l g.D g.X q_t q_t_km q_t_father q_t_mother q_t_from q_t_spoons q_t_owed q_t_tape q_t_tx0 q_t_tx1 q_t_waiting c_people c_year c_z c_bytes c_waits c_spoons x2 x3 x5 _ h) ⟨rfl, rfl, ⟨Nat.le_of_ble_eq_true rfl, Nat.le_of_ble_eq_true rfl⟩, Nat.zero_le _, Nat.zero_le _⟩ 69 rfl [0, 5] rfl (by decide) 0 5 rfl rfl rfl (Nat.le_of_ble_eq_true rfl) rfl dX5_addChild_66 (fun r_66 h => ?_)
    obtain ⟨hin, h⟩ := h
    obtain ⟨c_spoons_69, ec_spoons_69⟩ : ∃ y : Nat → Int32, y = upd c_spoons r_58.toNatClampNeg r_66 := ⟨_, rfl⟩
    have h := h c_spoons_69 ec_spoons_69
    refine st_iast G [(q_t, .inr (5, [.int c_people, .ref q_t_km, .ref q_t_father, .ref q_t_mother, .ref q_t_from, .ref q_t_spoons, .ref q_t_owed, .int c_year, .int c_z, .ref q_t_tape, .int c_bytes, .ref q_t_tx0, .ref q_t_tx1, .ref q_t_waiting, .int c_waits])), (q_t_km, .inl (g.X.cI, 8, .inl c_km)), (q_t_father, .inl (g.X.cI, 8, .inl c_father)), (q_t_mother, .inl (g.X.cI, 8, .inl c_mother)), (q_t_from, .inl (g.X.cI, 8, .inl c_from)), (q_t_spoons, .inl (g.X.cI, 40, .inl c_spoons_69))] 70 rfl 5 rfl hin (by subst ec_spoons_69; rfl) dX5_addChild_69 ?_
    obtain ⟨x5_70, ex5_70⟩ : ∃ y : Int32, y = (x5 + (1 : Int32)) := ⟨_, rfl⟩
    have h := h x5_70 ex5_70
    refine st_iinc G 73 rfl [(5, .int x5_70), (0, .ref q_t), (2, .int x2), (3, .int x3), (4, .int x4)] x5_70 4 rfl (by rw [ex5_70]; rfl) dX5_addChild_70 (by decide) rfl ?_
    refine st_goto G 44 dX5_addChild_73 rfl ?_
    refine st_L (L' := [(0, .ref q_t), (2, .int x2), (3, .int x3), (4, .int x4), (5, .int x5_70)]) [1, 2, 3, 4, 0] rfl ?_
    exact hK44 _ _ _ _ _ _ _ _ _ _ h
set_option maxRecDepth 100000 in
set_option maxHeartbeats 4000000 in
theorem b_X5_addChild_e {g : GT} (G : GOOD g RX5 cX5_addChild 6 rm_X5_addChild) {q_t q_t_km q_t_father q_t_mother q_t_from q_t_spoons q_t_owed q_t_tape q_t_tx0 q_t_tx1 q_t_waiting : Nat} {c_people : Int32} {c_year : Int32} {c_z : Int32} {c_bytes : Int32} {c_waits : Int32} {c_km : Nat → Int32} {c_father : Nat → Int32} {c_mother : Nat → Int32} {c_from : Nat → Int32} {c_spoons : Nat → Int32} {x1 : Int32} {x2 : Int32} {x3 : Int32} {Q : Int32 → (Int32) → (Nat → Int32) → (Nat → Int32) → (Nat → Int32) → (Nat → Int32) → (Nat → Int32) → Prop} (R : RETi g cX5_addChild 6 (fun (r : Int32) w => ∃ (c_people' : Int32) (c_km' : Nat → Int32) (c_father' : Nat → Int32) (c_mother' : Nat → Int32) (c_from' : Nat → Int32) (c_spoons' : Nat → Int32), Q r c_people' c_km' c_father' c_mother' c_from' c_spoons' ∧ w = [(q_t, .inr (5, [.int c_people', .ref q_t_km, .ref q_t_father, .ref q_t_mother, .ref q_t_from, .ref q_t_spoons, .ref q_t_owed, .int c_year, .int c_z, .ref q_t_tape, .int c_bytes, .ref q_t_tx0, .ref q_t_tx1, .ref q_t_waiting, .int c_waits])), (q_t_km, .inl (g.X.cI, 8, .inl c_km')), (q_t_father, .inl (g.X.cI, 8, .inl c_father')), (q_t_mother, .inl (g.X.cI, 8, .inl c_mother')), (q_t_from, .inl (g.X.cI, 8, .inl c_from')), (q_t_spoons, .inl (g.X.cI, 40, .inl c_spoons'))])) (h : wp_X5_addChild x1 x2 x3 c_people c_km c_father c_mother c_from c_spoons Q) : ST g 0 0 0 [(0, .ref q_t), (1, .int x1), (2, .int x2), (3, .int x3)] [] [(q_t, .inr (5, [.int c_people, .ref q_t_km, .ref q_t_father, .ref q_t_mother, .ref q_t_from, .ref q_t_spoons, .ref q_t_owed, .int c_year, .int c_z, .ref q_t_tape, .int c_bytes, .ref q_t_tx0, .ref q_t_tx1, .ref q_t_waiting, .int c_waits])), (q_t_km, .inl (g.X.cI, 8, .inl c_km)), (q_t_father, .inl (g.X.cI, 8, .inl c_father)), (q_t_mother, .inl (g.X.cI, 8, .inl c_mother)), (q_t_from, .inl (g.X.cI, 8, .inl c_from)), (q_t_spoons, .inl (g.X.cI, 40, .inl c_spoons))] := by
  unfold wp_X5_addChild at h
  refine st_aload_n G 1 rfl 0 rfl dX5_addChild_0 rfl ?_
  refine st_iload_n G 2 rfl 1 rfl dX5_addChild_1 rfl ?_
  refine st_cVi G lk_X5_72 (c_X5_addOrphan g.l g.D g.X q_t q_t_km q_t_father q_t_mother q_t_from q_t_spoons q_t_owed q_t_tape q_t_tx0 q_t_tx1 q_t_waiting c_people c_year c_z c_bytes c_waits c_km c_father c_mother x1 _ h) ⟨rfl, rfl, ⟨Nat.le_of_ble_eq_true rfl, Nat.le_of_ble_eq_true rfl⟩, Nat.zero_le _, Nat.zero_le _⟩ 5 rfl [0, 1, 2, 3] rfl (by decide) 0 5 rfl rfl rfl (Nat.le_of_ble_eq_true rfl) rfl dX5_addChild_2 (fun r_2 w hq => ?_)
  obtain ⟨c_people_2, c_km_2, c_father_2, c_mother_2, h, rfl⟩ := hq
  refine st_wp (ws' := [(q_t, .inr (5, [.int c_people_2, .ref q_t_km, .ref q_t_father, .ref q_t_mother, .ref q_t_from, .ref q_t_spoons, .ref q_t_owed, .int c_year, .int c_z, .ref q_t_tape, .int c_bytes, .ref q_t_tx0, .ref q_t_tx1, .ref q_t_waiting, .int c_waits])), (q_t_km, .inl (g.X.cI, 8, .inl c_km_2)), (q_t_father, .inl (g.X.cI, 8, .inl c_father_2)), (q_t_mother, .inl (g.X.cI, 8, .inl c_mother_2)), (q_t_from, .inl (g.X.cI, 8, .inl c_from)), (q_t_spoons, .inl (g.X.cI, 40, .inl c_spoons))]) 6 [4, 5] (by decide) rfl rfl (by rfl) [(q_t_from, .inl (g.X.cI, 8, .inl c_from)), (q_t_spoons, .inl (g.X.cI, 40, .inl c_spoons))] (by rfl) rfl ?_
  refine st_istore G 7 rfl [(4, .int r_2), (0, .ref q_t), (1, .int x1), (2, .int x2), (3, .int x3)] dX5_addChild_5 (by decide) rfl ?_
  refine st_aload_n G 8 rfl 1 rfl dX5_addChild_7 rfl ?_
  refine st_get G inX5 rfl 2 (by decide) wd_40 11 rfl 0 rfl rfl dX5_addChild_8 ?_
  refine st_iload G 13 rfl 0 rfl dX5_addChild_11 ?_
  refine st_iload_n G 14 rfl 3 rfl dX5_addChild_13 rfl ?_
  obtain ⟨hin, h⟩ := h
  obtain ⟨c_father_14, ec_father_14⟩ : ∃ y : Nat → Int32, y = upd c_father_2 r_2.toNatClampNeg x2 := ⟨_, rfl⟩
  have h := h c_father_14 ec_father_14
  refine st_iast G [(q_t, .inr (5, [.int c_people_2, .ref q_t_km, .ref q_t_father, .ref q_t_mother, .ref q_t_from, .ref q_t_spoons, .ref q_t_owed, .int c_year, .int c_z, .ref q_t_tape, .int c_bytes, .ref q_t_tx0, .ref q_t_tx1, .ref q_t_waiting, .int c_waits])), (q_t_km, .inl (g.X.cI, 8, .inl c_km_2)), (q_t_father, .inl (g.X.cI, 8, .inl c_father_14)), (q_t_mother, .inl (g.X.cI, 8, .inl c_mother_2)), (q_t_from, .inl (g.X.cI, 8, .inl c_from)), (q_t_spoons, .inl (g.X.cI, 40, .inl c_spoons))] 15 rfl 2 rfl hin (by subst ec_father_14; rfl) dX5_addChild_14 ?_
  refine st_aload_n G 16 rfl 1 rfl dX5_addChild_15 rfl ?_
  refine st_get G inX5 rfl 3 (by decide) wd_41 19 rfl 0 rfl rfl dX5_addChild_16 ?_
  refine st_iload G 21 rfl 0 rfl dX5_addChild_19 ?_
  refine st_iload_n G 22 rfl 4 rfl dX5_addChild_21 rfl ?_
  obtain ⟨hin, h⟩ := h
  obtain ⟨c_mother_22, ec_mother_22⟩ : ∃ y : Nat → Int32, y = upd c_mother_2 r_2.toNatClampNeg x3 := ⟨_, rfl⟩
  have h := h c_mother_22 ec_mother_22
  refine st_iast G [(q_t, .inr (5, [.int c_people_2, .ref q_t_km, .ref q_t_father, .ref q_t_mother, .ref q_t_from, .ref q_t_spoons, .ref q_t_owed, .int c_year, .int c_z, .ref q_t_tape, .int c_bytes, .ref q_t_tx0, .ref q_t_tx1, .ref q_t_waiting, .int c_waits])), (q_t_km, .inl (g.X.cI, 8, .inl c_km_2)), (q_t_father, .inl (g.X.cI, 8, .inl c_father_14)), (q_t_mother, .inl (g.X.cI, 8, .inl c_mother_22)), (q_t_from, .inl (g.X.cI, 8, .inl c_from)), (q_t_spoons, .inl (g.X.cI, 40, .inl c_spoons))] 23 rfl 3 rfl hin (by subst ec_mother_22; rfl) dX5_addChild_22 ?_
  refine st_aload_n G 24 rfl 1 rfl dX5_addChild_23 rfl ?_
  refine st_get G inX5 rfl 4 (by decide) wd_42 27 rfl 0 rfl rfl dX5_addChild_24 ?_
  refine st_iload G 29 rfl 0 rfl dX5_addChild_27 ?_
  refine st_aload_n G 30 rfl 1 rfl dX5_addChild_29 rfl ?_
  refine st_iload_n G 31 rfl 3 rfl dX5_addChild_30 rfl ?_
  refine st_cVio G lk_X5_76 (c_X5_withForebears g.l g.D g.X q_t q_t_km q_t_father q_t_mother q_t_from q_t_spoons q_t_owed q_t_tape q_t_tx0 q_t_tx1 q_t_waiting c_people_2 c_year c_z c_bytes c_waits c_from x2 _ h) ⟨rfl, rfl, ⟨Nat.le_of_ble_eq_true rfl, Nat.le_of_ble_eq_true rfl⟩, Nat.zero_le _, Nat.zero_le _⟩ 34 rfl [0, 4] rfl (by decide) 0 5 rfl rfl rfl (Nat.le_of_ble_eq_true rfl) rfl dX5_addChild_31 (fun r_31 h => ?_)
  refine st_aload_n G 35 rfl 1 rfl dX5_addChild_34 rfl ?_
  refine st_iload_n G 36 rfl 4 rfl dX5_addChild_35 rfl ?_
  refine st_cVio G lk_X5_76 (c_X5_withForebears g.l g.D g.X q_t q_t_km q_t_father q_t_mother q_t_from q_t_spoons q_t_owed q_t_tape q_t_tx0 q_t_tx1 q_t_waiting c_people_2 c_year c_z c_bytes c_waits c_from x3 _ h) ⟨rfl, rfl, ⟨Nat.le_of_ble_eq_true rfl, Nat.le_of_ble_eq_true rfl⟩, Nat.zero_le _, Nat.zero_le _⟩ 39 rfl [0, 4] rfl (by decide) 0 5 rfl rfl rfl (Nat.le_of_ble_eq_true rfl) rfl dX5_addChild_36 (fun r_36 h => ?_)
  refine st_ior G 40 rfl dX5_addChild_39 ?_
  obtain ⟨hin, h⟩ := h
  obtain ⟨c_from_40, ec_from_40⟩ : ∃ y : Nat → Int32, y = upd c_from r_2.toNatClampNeg (r_31 ||| r_36) := ⟨_, rfl⟩
  have h := h c_from_40 ec_from_40
  refine st_iast G [(q_t, .inr (5, [.int c_people_2, .ref q_t_km, .ref q_t_father, .ref q_t_mother, .ref q_t_from, .ref q_t_spoons, .ref q_t_owed, .int c_year, .int c_z, .ref q_t_tape, .int c_bytes, .ref q_t_tx0, .ref q_t_tx1, .ref q_t_waiting, .int c_waits])), (q_t_km, .inl (g.X.cI, 8, .inl c_km_2)), (q_t_father, .inl (g.X.cI, 8, .inl c_father_14)), (q_t_mother, .inl (g.X.cI, 8, .inl c_mother_22)), (q_t_from, .inl (g.X.cI, 8, .inl c_from_40)), (q_t_spoons, .inl (g.X.cI, 40, .inl c_spoons))] 41 rfl 4 rfl hin (by subst ec_from_40; rfl) dX5_addChild_40 ?_
  refine st_iconst G 42 rfl (0 : Int32) (by decide) dX5_addChild_41 ?_
  refine st_istore G 44 rfl [(5, .int (0 : Int32)), (4, .int r_2), (0, .ref q_t), (1, .int x1), (2, .int x2), (3, .int x3)] dX5_addChild_42 (by decide) rfl ?_
  refine st_L (L' := [(0, .ref q_t), (2, .int x2), (3, .int x3), (4, .int r_2), (5, .int (0 : Int32))]) [2, 4, 5, 1, 0] rfl ?_
  obtain ⟨n, h⟩ := h
  exact b_X5_addChild_44 G R n _ _ _ _ _ _ _ _ _ _ h
set_option maxRecDepth 100000 in
set_option maxHeartbeats 4000000 in
theorem c_X5_addChild (l : Launch) (D : va_G) (X : XT) (q_t q_t_km q_t_father q_t_mother q_t_from q_t_spoons q_t_owed q_t_tape q_t_tx0 q_t_tx1 q_t_waiting : Nat) (c_people : Int32) (c_year : Int32) (c_z : Int32) (c_bytes : Int32) (c_waits : Int32) (c_km : Nat → Int32) (c_father : Nat → Int32) (c_mother : Nat → Int32) (c_from : Nat → Int32) (c_spoons : Nat → Int32) (x1 : Int32) (x2 : Int32) (x3 : Int32) (Q : Int32 → (Int32) → (Nat → Int32) → (Nat → Int32) → (Nat → Int32) → (Nat → Int32) → (Nat → Int32) → Prop) (h : wp_X5_addChild x1 x2 x3 c_people c_km c_father c_mother c_from c_spoons Q) : CTi l D X yX5_addChild cX5_addChild 6 .int rm_X5_addChild [.ref q_t, .int x1, .int x2, .int x3] [(q_t, .inr (5, [.int c_people, .ref q_t_km, .ref q_t_father, .ref q_t_mother, .ref q_t_from, .ref q_t_spoons, .ref q_t_owed, .int c_year, .int c_z, .ref q_t_tape, .int c_bytes, .ref q_t_tx0, .ref q_t_tx1, .ref q_t_waiting, .int c_waits])), (q_t_km, .inl (X.cI, 8, .inl c_km)), (q_t_father, .inl (X.cI, 8, .inl c_father)), (q_t_mother, .inl (X.cI, 8, .inl c_mother)), (q_t_from, .inl (X.cI, 8, .inl c_from)), (q_t_spoons, .inl (X.cI, 40, .inl c_spoons))] (fun (r : Int32) w => ∃ (c_people' : Int32) (c_km' : Nat → Int32) (c_father' : Nat → Int32) (c_mother' : Nat → Int32) (c_from' : Nat → Int32) (c_spoons' : Nat → Int32), Q r c_people' c_km' c_father' c_mother' c_from' c_spoons' ∧ w = [(q_t, .inr (5, [.int c_people', .ref q_t_km, .ref q_t_father, .ref q_t_mother, .ref q_t_from, .ref q_t_spoons, .ref q_t_owed, .int c_year, .int c_z, .ref q_t_tape, .int c_bytes, .ref q_t_tx0, .ref q_t_tx1, .ref q_t_waiting, .int c_waits])), (q_t_km, .inl (X.cI, 8, .inl c_km')), (q_t_father, .inl (X.cI, 8, .inl c_father')), (q_t_mother, .inl (X.cI, 8, .inl c_mother')), (q_t_from, .inl (X.cI, 8, .inl c_from')), (q_t_spoons, .inl (X.cI, 40, .inl c_spoons'))]) :=
  ct_i (by decide) (Nat.le_of_ble_eq_true rfl) (fun g hl hD hX G R => by subst hl; subst hD; subst hX; exact b_X5_addChild_e G R h)
set_option maxRecDepth 100000 in
set_option maxHeartbeats 4000000 in
theorem b_X6_child_e {g : GT} (G : GOOD g RX6 cX6_child 4 rm_X6_child) {q_t q_t_w q_t_w_km q_t_w_father q_t_w_mother q_t_w_from q_t_w_spoons q_t_w_owed q_t_w_tape q_t_w_tx0 q_t_w_tx1 q_t_w_waiting q_t_k q_t_errors q_t_sheets q_t_r q_t_th q_t_sp : Nat} {c_images : Int32} {w_people : Int32} {w_year : Int32} {w_z : Int32} {w_bytes : Int32} {w_waits : Int32} {w_km : Nat → Int32} {w_father : Nat → Int32} {w_mother : Nat → Int32} {w_from : Nat → Int32} {w_spoons : Nat → Int32} {c_errors : Nat → Int32} {x1 : Int32} {x2 : Int32} {x3 : Int32} {Q : Int32 → (Int32) → (Nat → Int32) → (Nat → Int32) → (Nat → Int32) → (Nat → Int32) → (Nat → Int32) → (Nat → Int32) → Prop} (R : RETi g cX6_child 8 (fun (r : Int32) w => ∃ (w_people' : Int32) (w_km' : Nat → Int32) (w_father' : Nat → Int32) (w_mother' : Nat → Int32) (w_from' : Nat → Int32) (w_spoons' : Nat → Int32) (c_errors' : Nat → Int32), Q r w_people' w_km' w_father' w_mother' w_from' w_spoons' c_errors' ∧ w = [(q_t, .inr (6, [.ref q_t_w, .ref q_t_k, .int c_images, .ref q_t_errors, .ref q_t_sheets, .ref q_t_r, .ref q_t_th, .ref q_t_sp])), (q_t_w, .inr (5, [.int w_people', .ref q_t_w_km, .ref q_t_w_father, .ref q_t_w_mother, .ref q_t_w_from, .ref q_t_w_spoons, .ref q_t_w_owed, .int w_year, .int w_z, .ref q_t_w_tape, .int w_bytes, .ref q_t_w_tx0, .ref q_t_w_tx1, .ref q_t_w_waiting, .int w_waits])), (q_t_w_km, .inl (g.X.cI, 8, .inl w_km')), (q_t_w_father, .inl (g.X.cI, 8, .inl w_father')), (q_t_w_mother, .inl (g.X.cI, 8, .inl w_mother')), (q_t_w_from, .inl (g.X.cI, 8, .inl w_from')), (q_t_w_spoons, .inl (g.X.cI, 40, .inl w_spoons')), (q_t_errors, .inl (g.X.cI, 7, .inl c_errors'))])) (h : wp_X6_child x1 x2 x3 w_people w_km w_father w_mother w_from w_spoons c_errors Q) : ST g 0 0 0 [(0, .ref q_t), (1, .int x1), (2, .int x2), (3, .int x3)] [] [(q_t, .inr (6, [.ref q_t_w, .ref q_t_k, .int c_images, .ref q_t_errors, .ref q_t_sheets, .ref q_t_r, .ref q_t_th, .ref q_t_sp])), (q_t_w, .inr (5, [.int w_people, .ref q_t_w_km, .ref q_t_w_father, .ref q_t_w_mother, .ref q_t_w_from, .ref q_t_w_spoons, .ref q_t_w_owed, .int w_year, .int w_z, .ref q_t_w_tape, .int w_bytes, .ref q_t_w_tx0, .ref q_t_w_tx1, .ref q_t_w_waiting, .int w_waits])), (q_t_w_km, .inl (g.X.cI, 8, .inl w_km)), (q_t_w_father, .inl (g.X.cI, 8, .inl w_father)), (q_t_w_mother, .inl (g.X.cI, 8, .inl w_mother)), (q_t_w_from, .inl (g.X.cI, 8, .inl w_from)), (q_t_w_spoons, .inl (g.X.cI, 40, .inl w_spoons)), (q_t_errors, .inl (g.X.cI, 7, .inl c_errors))] := by
  unfold wp_X6_child at h
  refine st_iload_n G 1 rfl 1 rfl dX6_child_0 rfl ?_
  refine st_cSio G lk_X6_51 (c_X6_notKm g.l g.D g.X x1 _ h) ⟨rfl, rfl, ⟨Nat.le_of_ble_eq_true rfl, Nat.le_of_ble_eq_true rfl⟩, Nat.zero_le _, Nat.zero_le _⟩ 4 rfl [] rfl (by decide) rfl (Nat.le_of_ble_eq_true rfl) rfl dX6_child_1 (fun r_1 h => ?_)
  refine st_if_ne G 16 7 rfl dX6_child_4 rfl (fun c => ?_) (fun c => ?_)
  · have h := h.1 c
    refine st_aload_n G 17 rfl 0 rfl dX6_child_16 rfl ?_
    refine st_iconst G 18 rfl (1 : Int32) (by decide) dX6_child_17 ?_
    refine st_cVi G lk_X6_55 (c_X6_error g.l g.D g.X q_t q_t_w q_t_k q_t_errors q_t_sheets q_t_r q_t_th q_t_sp c_images c_errors (1 : Int32) _ h) ⟨rfl, rfl, ⟨Nat.le_of_ble_eq_true rfl, Nat.le_of_ble_eq_true rfl⟩, Nat.zero_le _, Nat.zero_le _⟩ 21 rfl [0, 7] rfl (by decide) 0 6 rfl rfl rfl (Nat.le_of_ble_eq_true rfl) rfl dX6_child_18 (fun r_18 w hq => ?_)
    obtain ⟨c_errors_18, h, rfl⟩ := hq
    refine st_wp (ws' := [(q_t, .inr (6, [.ref q_t_w, .ref q_t_k, .int c_images, .ref q_t_errors, .ref q_t_sheets, .ref q_t_r, .ref q_t_th, .ref q_t_sp])), (q_t_w, .inr (5, [.int w_people, .ref q_t_w_km, .ref q_t_w_father, .ref q_t_w_mother, .ref q_t_w_from, .ref q_t_w_spoons, .ref q_t_w_owed, .int w_year, .int w_z, .ref q_t_w_tape, .int w_bytes, .ref q_t_w_tx0, .ref q_t_w_tx1, .ref q_t_w_waiting, .int w_waits])), (q_t_w_km, .inl (g.X.cI, 8, .inl w_km)), (q_t_w_father, .inl (g.X.cI, 8, .inl w_father)), (q_t_w_mother, .inl (g.X.cI, 8, .inl w_mother)), (q_t_w_from, .inl (g.X.cI, 8, .inl w_from)), (q_t_w_spoons, .inl (g.X.cI, 40, .inl w_spoons)), (q_t_errors, .inl (g.X.cI, 7, .inl c_errors_18))]) 8 [1, 2, 3, 4, 5, 6] (by decide) rfl rfl (by rfl) [(q_t_w, .inr (5, [.int w_people, .ref q_t_w_km, .ref q_t_w_father, .ref q_t_w_mother, .ref q_t_w_from, .ref q_t_w_spoons, .ref q_t_w_owed, .int w_year, .int w_z, .ref q_t_w_tape, .int w_bytes, .ref q_t_w_tx0, .ref q_t_w_tx1, .ref q_t_w_waiting, .int w_waits])), (q_t_w_km, .inl (g.X.cI, 8, .inl w_km)), (q_t_w_father, .inl (g.X.cI, 8, .inl w_father)), (q_t_w_mother, .inl (g.X.cI, 8, .inl w_mother)), (q_t_w_from, .inl (g.X.cI, 8, .inl w_from)), (q_t_w_spoons, .inl (g.X.cI, 40, .inl w_spoons))] (by rfl) rfl ?_
    exact R _ _ _ _ dX6_child_21 (Nat.le_of_ble_eq_true rfl) ⟨_, _, _, _, _, _, _, h, rfl⟩
  have h := h.2 c
  refine st_aload_n G 8 rfl 0 rfl dX6_child_7 rfl ?_
  refine st_iload_n G 9 rfl 2 rfl dX6_child_8 rfl ?_
  refine st_iload_n G 10 rfl 3 rfl dX6_child_9 rfl ?_
  refine st_cVio G lk_X6_66 (c_X6_notTwo g.l g.D g.X q_t q_t_w q_t_w_km q_t_w_father q_t_w_mother q_t_w_from q_t_w_spoons q_t_w_owed q_t_w_tape q_t_w_tx0 q_t_w_tx1 q_t_w_waiting q_t_k q_t_errors q_t_sheets q_t_r q_t_th q_t_sp c_images w_people w_year w_z w_bytes w_waits x2 x3 _ h) ⟨rfl, rfl, ⟨Nat.le_of_ble_eq_true rfl, Nat.le_of_ble_eq_true rfl⟩, Nat.zero_le _, Nat.zero_le _⟩ 13 rfl [0, 1] rfl (by decide) 0 6 rfl rfl rfl (Nat.le_of_ble_eq_true rfl) rfl dX6_child_10 (fun r_10 h => ?_)
  refine st_if_eq G 22 16 rfl dX6_child_13 rfl (fun c => ?_) (fun c => ?_)
  · have h := h.1 c
    refine st_aload_n G 23 rfl 0 rfl dX6_child_22 rfl ?_
    refine st_get G inX6 rfl 0 (by decide) wd_16 26 rfl 0 rfl rfl dX6_child_23 ?_
    refine st_get G inX5 rfl 0 (by decide) wd_100 29 rfl 1 rfl rfl dX6_child_26 ?_
    refine st_bipush G 31 rfl (8 : Int32) (by decide) dX6_child_29 ?_
    refine st_icmp_lt G 40 34 rfl dX6_child_31 rfl (fun c => ?_) (fun c => ?_)
    · have h := h.1 c
      refine st_aload_n G 41 rfl 0 rfl dX6_child_40 rfl ?_
      refine st_get G inX6 rfl 0 (by decide) wd_16 44 rfl 0 rfl rfl dX6_child_41 ?_
      refine st_iload_n G 45 rfl 1 rfl dX6_child_44 rfl ?_
      refine st_iload_n G 46 rfl 2 rfl dX6_child_45 rfl ?_
      refine st_iload_n G 47 rfl 3 rfl dX6_child_46 rfl ?_
      refine st_cVi G lk_X6_70 (c_X5_addChild g.l g.D g.X q_t_w q_t_w_km q_t_w_father q_t_w_mother q_t_w_from q_t_w_spoons q_t_w_owed q_t_w_tape q_t_w_tx0 q_t_w_tx1 q_t_w_waiting w_people w_year w_z w_bytes w_waits w_km w_father w_mother w_from w_spoons x1 x2 x3 _ h) ⟨rfl, rfl, ⟨Nat.le_of_ble_eq_true rfl, Nat.le_of_ble_eq_true rfl⟩, Nat.zero_le _, Nat.zero_le _⟩ 50 rfl [1, 2, 3, 4, 5, 6] rfl (by decide) 0 5 rfl rfl rfl (Nat.le_of_ble_eq_true rfl) rfl dX6_child_47 (fun r_47 w hq => ?_)
      obtain ⟨w_people_47, w_km_47, w_father_47, w_mother_47, w_from_47, w_spoons_47, h, rfl⟩ := hq
      refine st_wp (ws' := [(q_t, .inr (6, [.ref q_t_w, .ref q_t_k, .int c_images, .ref q_t_errors, .ref q_t_sheets, .ref q_t_r, .ref q_t_th, .ref q_t_sp])), (q_t_w, .inr (5, [.int w_people_47, .ref q_t_w_km, .ref q_t_w_father, .ref q_t_w_mother, .ref q_t_w_from, .ref q_t_w_spoons, .ref q_t_w_owed, .int w_year, .int w_z, .ref q_t_w_tape, .int w_bytes, .ref q_t_w_tx0, .ref q_t_w_tx1, .ref q_t_w_waiting, .int w_waits])), (q_t_w_km, .inl (g.X.cI, 8, .inl w_km_47)), (q_t_w_father, .inl (g.X.cI, 8, .inl w_father_47)), (q_t_w_mother, .inl (g.X.cI, 8, .inl w_mother_47)), (q_t_w_from, .inl (g.X.cI, 8, .inl w_from_47)), (q_t_w_spoons, .inl (g.X.cI, 40, .inl w_spoons_47)), (q_t_errors, .inl (g.X.cI, 7, .inl c_errors))]) 8 [0, 7] (by decide) rfl rfl (by rfl) [(q_t, .inr (6, [.ref q_t_w, .ref q_t_k, .int c_images, .ref q_t_errors, .ref q_t_sheets, .ref q_t_r, .ref q_t_th, .ref q_t_sp])), (q_t_errors, .inl (g.X.cI, 7, .inl c_errors))] (by rfl) rfl ?_
      exact R _ _ _ _ dX6_child_50 (Nat.le_of_ble_eq_true rfl) ⟨_, _, _, _, _, _, _, h, rfl⟩
    have h := h.2 c
    refine st_aload_n G 35 rfl 0 rfl dX6_child_34 rfl ?_
    refine st_iconst G 36 rfl (4 : Int32) (by decide) dX6_child_35 ?_
    refine st_cVi G lk_X6_55 (c_X6_error g.l g.D g.X q_t q_t_w q_t_k q_t_errors q_t_sheets q_t_r q_t_th q_t_sp c_images c_errors (4 : Int32) _ h) ⟨rfl, rfl, ⟨Nat.le_of_ble_eq_true rfl, Nat.le_of_ble_eq_true rfl⟩, Nat.zero_le _, Nat.zero_le _⟩ 39 rfl [0, 7] rfl (by decide) 0 6 rfl rfl rfl (Nat.le_of_ble_eq_true rfl) rfl dX6_child_36 (fun r_36 w hq => ?_)
    obtain ⟨c_errors_36, h, rfl⟩ := hq
    refine st_wp (ws' := [(q_t, .inr (6, [.ref q_t_w, .ref q_t_k, .int c_images, .ref q_t_errors, .ref q_t_sheets, .ref q_t_r, .ref q_t_th, .ref q_t_sp])), (q_t_w, .inr (5, [.int w_people, .ref q_t_w_km, .ref q_t_w_father, .ref q_t_w_mother, .ref q_t_w_from, .ref q_t_w_spoons, .ref q_t_w_owed, .int w_year, .int w_z, .ref q_t_w_tape, .int w_bytes, .ref q_t_w_tx0, .ref q_t_w_tx1, .ref q_t_w_waiting, .int w_waits])), (q_t_w_km, .inl (g.X.cI, 8, .inl w_km)), (q_t_w_father, .inl (g.X.cI, 8, .inl w_father)), (q_t_w_mother, .inl (g.X.cI, 8, .inl w_mother)), (q_t_w_from, .inl (g.X.cI, 8, .inl w_from)), (q_t_w_spoons, .inl (g.X.cI, 40, .inl w_spoons)), (q_t_errors, .inl (g.X.cI, 7, .inl c_errors_36))]) 8 [1, 2, 3, 4, 5, 6] (by decide) rfl rfl (by rfl) [(q_t_w, .inr (5, [.int w_people, .ref q_t_w_km, .ref q_t_w_father, .ref q_t_w_mother, .ref q_t_w_from, .ref q_t_w_spoons, .ref q_t_w_owed, .int w_year, .int w_z, .ref q_t_w_tape, .int w_bytes, .ref q_t_w_tx0, .ref q_t_w_tx1, .ref q_t_w_waiting, .int w_waits])), (q_t_w_km, .inl (g.X.cI, 8, .inl w_km)), (q_t_w_father, .inl (g.X.cI, 8, .inl w_father)), (q_t_w_mother, .inl (g.X.cI, 8, .inl w_mother)), (q_t_w_from, .inl (g.X.cI, 8, .inl w_from)), (q_t_w_spoons, .inl (g.X.cI, 40, .inl w_spoons))] (by rfl) rfl ?_
    exact R _ _ _ _ dX6_child_39 (Nat.le_of_ble_eq_true rfl) ⟨_, _, _, _, _, _, _, h, rfl⟩
  have h := h.2 c
  refine st_aload_n G 17 rfl 0 rfl dX6_child_16 rfl ?_
  refine st_iconst G 18 rfl (1 : Int32) (by decide) dX6_child_17 ?_
  refine st_cVi G lk_X6_55 (c_X6_error g.l g.D g.X q_t q_t_w q_t_k q_t_errors q_t_sheets q_t_r q_t_th q_t_sp c_images c_errors (1 : Int32) _ h) ⟨rfl, rfl, ⟨Nat.le_of_ble_eq_true rfl, Nat.le_of_ble_eq_true rfl⟩, Nat.zero_le _, Nat.zero_le _⟩ 21 rfl [0, 7] rfl (by decide) 0 6 rfl rfl rfl (Nat.le_of_ble_eq_true rfl) rfl dX6_child_18 (fun r_18 w hq => ?_)
  obtain ⟨c_errors_18, h, rfl⟩ := hq
  refine st_wp (ws' := [(q_t, .inr (6, [.ref q_t_w, .ref q_t_k, .int c_images, .ref q_t_errors, .ref q_t_sheets, .ref q_t_r, .ref q_t_th, .ref q_t_sp])), (q_t_w, .inr (5, [.int w_people, .ref q_t_w_km, .ref q_t_w_father, .ref q_t_w_mother, .ref q_t_w_from, .ref q_t_w_spoons, .ref q_t_w_owed, .int w_year, .int w_z, .ref q_t_w_tape, .int w_bytes, .ref q_t_w_tx0, .ref q_t_w_tx1, .ref q_t_w_waiting, .int w_waits])), (q_t_w_km, .inl (g.X.cI, 8, .inl w_km)), (q_t_w_father, .inl (g.X.cI, 8, .inl w_father)), (q_t_w_mother, .inl (g.X.cI, 8, .inl w_mother)), (q_t_w_from, .inl (g.X.cI, 8, .inl w_from)), (q_t_w_spoons, .inl (g.X.cI, 40, .inl w_spoons)), (q_t_errors, .inl (g.X.cI, 7, .inl c_errors_18))]) 8 [1, 2, 3, 4, 5, 6] (by decide) rfl rfl (by rfl) [(q_t_w, .inr (5, [.int w_people, .ref q_t_w_km, .ref q_t_w_father, .ref q_t_w_mother, .ref q_t_w_from, .ref q_t_w_spoons, .ref q_t_w_owed, .int w_year, .int w_z, .ref q_t_w_tape, .int w_bytes, .ref q_t_w_tx0, .ref q_t_w_tx1, .ref q_t_w_waiting, .int w_waits])), (q_t_w_km, .inl (g.X.cI, 8, .inl w_km)), (q_t_w_father, .inl (g.X.cI, 8, .inl w_father)), (q_t_w_mother, .inl (g.X.cI, 8, .inl w_mother)), (q_t_w_from, .inl (g.X.cI, 8, .inl w_from)), (q_t_w_spoons, .inl (g.X.cI, 40, .inl w_spoons))] (by rfl) rfl ?_
  exact R _ _ _ _ dX6_child_21 (Nat.le_of_ble_eq_true rfl) ⟨_, _, _, _, _, _, _, h, rfl⟩
set_option maxRecDepth 100000 in
set_option maxHeartbeats 4000000 in
theorem c_X6_child (l : Launch) (D : va_G) (X : XT) (q_t q_t_w q_t_w_km q_t_w_father q_t_w_mother q_t_w_from q_t_w_spoons q_t_w_owed q_t_w_tape q_t_w_tx0 q_t_w_tx1 q_t_w_waiting q_t_k q_t_errors q_t_sheets q_t_r q_t_th q_t_sp : Nat) (c_images : Int32) (w_people : Int32) (w_year : Int32) (w_z : Int32) (w_bytes : Int32) (w_waits : Int32) (w_km : Nat → Int32) (w_father : Nat → Int32) (w_mother : Nat → Int32) (w_from : Nat → Int32) (w_spoons : Nat → Int32) (c_errors : Nat → Int32) (x1 : Int32) (x2 : Int32) (x3 : Int32) (Q : Int32 → (Int32) → (Nat → Int32) → (Nat → Int32) → (Nat → Int32) → (Nat → Int32) → (Nat → Int32) → (Nat → Int32) → Prop) (h : wp_X6_child x1 x2 x3 w_people w_km w_father w_mother w_from w_spoons c_errors Q) : CTi l D X yX6_child cX6_child 4 .int rm_X6_child [.ref q_t, .int x1, .int x2, .int x3] [(q_t, .inr (6, [.ref q_t_w, .ref q_t_k, .int c_images, .ref q_t_errors, .ref q_t_sheets, .ref q_t_r, .ref q_t_th, .ref q_t_sp])), (q_t_w, .inr (5, [.int w_people, .ref q_t_w_km, .ref q_t_w_father, .ref q_t_w_mother, .ref q_t_w_from, .ref q_t_w_spoons, .ref q_t_w_owed, .int w_year, .int w_z, .ref q_t_w_tape, .int w_bytes, .ref q_t_w_tx0, .ref q_t_w_tx1, .ref q_t_w_waiting, .int w_waits])), (q_t_w_km, .inl (X.cI, 8, .inl w_km)), (q_t_w_father, .inl (X.cI, 8, .inl w_father)), (q_t_w_mother, .inl (X.cI, 8, .inl w_mother)), (q_t_w_from, .inl (X.cI, 8, .inl w_from)), (q_t_w_spoons, .inl (X.cI, 40, .inl w_spoons)), (q_t_errors, .inl (X.cI, 7, .inl c_errors))] (fun (r : Int32) w => ∃ (w_people' : Int32) (w_km' : Nat → Int32) (w_father' : Nat → Int32) (w_mother' : Nat → Int32) (w_from' : Nat → Int32) (w_spoons' : Nat → Int32) (c_errors' : Nat → Int32), Q r w_people' w_km' w_father' w_mother' w_from' w_spoons' c_errors' ∧ w = [(q_t, .inr (6, [.ref q_t_w, .ref q_t_k, .int c_images, .ref q_t_errors, .ref q_t_sheets, .ref q_t_r, .ref q_t_th, .ref q_t_sp])), (q_t_w, .inr (5, [.int w_people', .ref q_t_w_km, .ref q_t_w_father, .ref q_t_w_mother, .ref q_t_w_from, .ref q_t_w_spoons, .ref q_t_w_owed, .int w_year, .int w_z, .ref q_t_w_tape, .int w_bytes, .ref q_t_w_tx0, .ref q_t_w_tx1, .ref q_t_w_waiting, .int w_waits])), (q_t_w_km, .inl (X.cI, 8, .inl w_km')), (q_t_w_father, .inl (X.cI, 8, .inl w_father')), (q_t_w_mother, .inl (X.cI, 8, .inl w_mother')), (q_t_w_from, .inl (X.cI, 8, .inl w_from')), (q_t_w_spoons, .inl (X.cI, 40, .inl w_spoons')), (q_t_errors, .inl (X.cI, 7, .inl c_errors'))]) :=
  ct_i (by decide) (Nat.le_of_ble_eq_true rfl) (fun g hl hD hX G R => by subst hl; subst hD; subst hX; exact b_X6_child_e G R h)
set_option maxRecDepth 100000 in
set_option maxHeartbeats 4000000 in
theorem b_X6_together_4 {g : GT} (G : GOOD g RX6 cX6_together 4 rm_X6_together) {q_a1 : Nat} {a1_row : Nat → Int32} {Q : Int32 → Prop} (R : RETi g cX6_together 1 (fun (r : Int32) w => (Q r) ∧ w = [(q_a1, .inl (g.X.cI, 40, .inl a1_row))])) : ∀ (n : Nat) (x1 : Int32) (x2 : Int32) (x3 : Int32), wp_X6_together_b4 Q a1_row n x1 x2 x3 → ST g 0 0 4 [(0, .ref q_a1), (1, .int x1), (2, .int x2), (3, .int x3)] [] [(q_a1, .inl (g.X.cI, 40, .inl a1_row))] := by
  intro n
  induction n with
  | zero => intro x1 x2 x3 h; exact False.elim h
  | succ n hK4 =>
    intro x1 x2 x3 h
    unfold wp_X6_together_b4 at h
    refine st_iload_n G 5 rfl 3 rfl dX6_together_4 rfl ?_
    refine st_iconst G 6 rfl (5 : Int32) (by decide) dX6_together_5 ?_
    refine st_icmp_ge G 25 9 rfl dX6_together_6 rfl (fun c => ?_) (fun c => ?_)
    · have h := h.1 c
      refine st_iload_n G 26 rfl 2 rfl dX6_together_25 rfl ?_
      exact R _ _ _ _ dX6_together_26 (Nat.le_of_ble_eq_true rfl) ⟨h, rfl⟩
    have h := h.2 c
    refine st_iload_n G 10 rfl 2 rfl dX6_together_9 rfl ?_
    refine st_aload_n G 11 rfl 0 rfl dX6_together_10 rfl ?_
    refine st_iload_n G 12 rfl 1 rfl dX6_together_11 rfl ?_
    refine st_iload_n G 13 rfl 3 rfl dX6_together_12 rfl ?_
    refine st_cSio G lk_X6_111 (c_X6_cell g.l g.D g.X x1 x3 _ h) ⟨rfl, rfl, ⟨Nat.le_of_ble_eq_true rfl, Nat.le_of_ble_eq_true rfl⟩, Nat.zero_le _, Nat.zero_le _⟩ 16 rfl [] rfl (by decide) rfl (Nat.le_of_ble_eq_true rfl) rfl dX6_together_13 (fun r_13 h => ?_)
    obtain ⟨hin, h⟩ := h
    refine st_iald G 17 rfl 0 rfl hin dX6_together_16 ?_
    refine st_iadd G 18 rfl dX6_together_17 ?_
    refine st_topi (fun x2_18 ex2_18 => ?_)
    have h := h x2_18 ex2_18
    refine st_istore_n G 19 rfl [(2, .int x2_18), (0, .ref q_a1), (1, .int x1), (3, .int x3)] dX6_together_18 rfl (by decide) rfl ?_
    obtain ⟨x3_19, ex3_19⟩ : ∃ y : Int32, y = (x3 + (1 : Int32)) := ⟨_, rfl⟩
    have h := h x3_19 ex3_19
    refine st_iinc G 22 rfl [(3, .int x3_19), (2, .int x2_18), (0, .ref q_a1), (1, .int x1)] x3_19 3 rfl (by rw [ex3_19]; rfl) dX6_together_19 (by decide) rfl ?_
    refine st_goto G 4 dX6_together_22 rfl ?_
    refine st_L (L' := [(0, .ref q_a1), (1, .int x1), (2, .int x2_18), (3, .int x3_19)]) [2, 3, 1, 0] rfl ?_
    exact hK4 _ _ _ h
set_option maxRecDepth 100000 in
set_option maxHeartbeats 4000000 in
theorem b_X6_together_e {g : GT} (G : GOOD g RX6 cX6_together 4 rm_X6_together) {q_a1 : Nat} {a1_row : Nat → Int32} {x1 : Int32} {Q : Int32 → Prop} (R : RETi g cX6_together 1 (fun (r : Int32) w => (Q r) ∧ w = [(q_a1, .inl (g.X.cI, 40, .inl a1_row))])) (h : wp_X6_together x1 a1_row Q) : ST g 0 0 0 [(0, .ref q_a1), (1, .int x1)] [] [(q_a1, .inl (g.X.cI, 40, .inl a1_row))] := by
  unfold wp_X6_together at h
  refine st_iconst G 1 rfl (0 : Int32) (by decide) dX6_together_0 ?_
  refine st_istore_n G 2 rfl [(2, .int (0 : Int32)), (0, .ref q_a1), (1, .int x1)] dX6_together_1 rfl (by decide) rfl ?_
  refine st_iconst G 3 rfl (0 : Int32) (by decide) dX6_together_2 ?_
  refine st_istore_n G 4 rfl [(3, .int (0 : Int32)), (2, .int (0 : Int32)), (0, .ref q_a1), (1, .int x1)] dX6_together_3 rfl (by decide) rfl ?_
  refine st_L (L' := [(0, .ref q_a1), (1, .int x1), (2, .int (0 : Int32)), (3, .int (0 : Int32))]) [2, 3, 1, 0] rfl ?_
  obtain ⟨n, h⟩ := h
  exact b_X6_together_4 G R n _ _ _ h
set_option maxRecDepth 100000 in
set_option maxHeartbeats 4000000 in
theorem c_X6_together (l : Launch) (D : va_G) (X : XT) (q_a1 : Nat) (a1_row : Nat → Int32) (x1 : Int32) (Q : Int32 → Prop) (h : wp_X6_together x1 a1_row Q) : CTi l D X yX6_together cX6_together 4 .int rm_X6_together [.ref q_a1, .int x1] [(q_a1, .inl (X.cI, 40, .inl a1_row))] (fun (r : Int32) w => (Q r) ∧ w = [(q_a1, .inl (X.cI, 40, .inl a1_row))]) :=
  ct_i (by decide) (Nat.le_of_ble_eq_true rfl) (fun g hl hD hX G R => by subst hl; subst hD; subst hX; exact b_X6_together_e G R h)
set_option maxRecDepth 100000 in
set_option maxHeartbeats 4000000 in
theorem b_X5_kindOf_e {g : GT} (G : GOOD g RX5 cX5_kindOf 2 rm_X5_kindOf) {q_t q_t_km q_t_father q_t_mother q_t_from q_t_spoons q_t_owed q_t_tape q_t_tx0 q_t_tx1 q_t_waiting : Nat} {c_people : Int32} {c_year : Int32} {c_z : Int32} {c_bytes : Int32} {c_waits : Int32} {c_km : Nat → Int32} {x1 : Int32} {Q : Int32 → Prop} (R : RETi g cX5_kindOf 2 (fun (r : Int32) w => (Q r) ∧ w = [(q_t, .inr (5, [.int c_people, .ref q_t_km, .ref q_t_father, .ref q_t_mother, .ref q_t_from, .ref q_t_spoons, .ref q_t_owed, .int c_year, .int c_z, .ref q_t_tape, .int c_bytes, .ref q_t_tx0, .ref q_t_tx1, .ref q_t_waiting, .int c_waits])), (q_t_km, .inl (g.X.cI, 8, .inl c_km))])) (h : wp_X5_kindOf x1 c_km Q) : ST g 0 0 0 [(0, .ref q_t), (1, .int x1)] [] [(q_t, .inr (5, [.int c_people, .ref q_t_km, .ref q_t_father, .ref q_t_mother, .ref q_t_from, .ref q_t_spoons, .ref q_t_owed, .int c_year, .int c_z, .ref q_t_tape, .int c_bytes, .ref q_t_tx0, .ref q_t_tx1, .ref q_t_waiting, .int c_waits])), (q_t_km, .inl (g.X.cI, 8, .inl c_km))] := by
  unfold wp_X5_kindOf at h
  refine st_aload_n G 1 rfl 0 rfl dX5_kindOf_0 rfl ?_
  refine st_get G inX5 rfl 1 (by decide) wd_39 4 rfl 0 rfl rfl dX5_kindOf_1 ?_
  refine st_iload_n G 5 rfl 1 rfl dX5_kindOf_4 rfl ?_
  obtain ⟨hin, h⟩ := h
  refine st_iald G 6 rfl 1 rfl hin dX5_kindOf_5 ?_
  refine st_bipush G 8 rfl (10 : Int32) (by decide) dX5_kindOf_6 ?_
  refine st_idiv G 9 rfl (by decide) dX5_kindOf_8 ?_
  exact R _ _ _ _ dX5_kindOf_9 (Nat.le_of_ble_eq_true rfl) ⟨h, rfl⟩
set_option maxRecDepth 100000 in
set_option maxHeartbeats 4000000 in
theorem c_X5_kindOf (l : Launch) (D : va_G) (X : XT) (q_t q_t_km q_t_father q_t_mother q_t_from q_t_spoons q_t_owed q_t_tape q_t_tx0 q_t_tx1 q_t_waiting : Nat) (c_people : Int32) (c_year : Int32) (c_z : Int32) (c_bytes : Int32) (c_waits : Int32) (c_km : Nat → Int32) (x1 : Int32) (Q : Int32 → Prop) (h : wp_X5_kindOf x1 c_km Q) : CTi l D X yX5_kindOf cX5_kindOf 2 .int rm_X5_kindOf [.ref q_t, .int x1] [(q_t, .inr (5, [.int c_people, .ref q_t_km, .ref q_t_father, .ref q_t_mother, .ref q_t_from, .ref q_t_spoons, .ref q_t_owed, .int c_year, .int c_z, .ref q_t_tape, .int c_bytes, .ref q_t_tx0, .ref q_t_tx1, .ref q_t_waiting, .int c_waits])), (q_t_km, .inl (X.cI, 8, .inl c_km))] (fun (r : Int32) w => (Q r) ∧ w = [(q_t, .inr (5, [.int c_people, .ref q_t_km, .ref q_t_father, .ref q_t_mother, .ref q_t_from, .ref q_t_spoons, .ref q_t_owed, .int c_year, .int c_z, .ref q_t_tape, .int c_bytes, .ref q_t_tx0, .ref q_t_tx1, .ref q_t_waiting, .int c_waits])), (q_t_km, .inl (X.cI, 8, .inl c_km))]) :=
  ct_i (by decide) (Nat.le_of_ble_eq_true rfl) (fun g hl hD hX G R => by subst hl; subst hD; subst hX; exact b_X5_kindOf_e G R h)
set_option maxRecDepth 100000 in
set_option maxHeartbeats 4000000 in
theorem b_X5_numberOf_e {g : GT} (G : GOOD g RX5 cX5_numberOf 2 rm_X5_numberOf) {q_t q_t_km q_t_father q_t_mother q_t_from q_t_spoons q_t_owed q_t_tape q_t_tx0 q_t_tx1 q_t_waiting : Nat} {c_people : Int32} {c_year : Int32} {c_z : Int32} {c_bytes : Int32} {c_waits : Int32} {c_km : Nat → Int32} {x1 : Int32} {Q : Int32 → Prop} (R : RETi g cX5_numberOf 2 (fun (r : Int32) w => (Q r) ∧ w = [(q_t, .inr (5, [.int c_people, .ref q_t_km, .ref q_t_father, .ref q_t_mother, .ref q_t_from, .ref q_t_spoons, .ref q_t_owed, .int c_year, .int c_z, .ref q_t_tape, .int c_bytes, .ref q_t_tx0, .ref q_t_tx1, .ref q_t_waiting, .int c_waits])), (q_t_km, .inl (g.X.cI, 8, .inl c_km))])) (h : wp_X5_numberOf x1 c_km Q) : ST g 0 0 0 [(0, .ref q_t), (1, .int x1)] [] [(q_t, .inr (5, [.int c_people, .ref q_t_km, .ref q_t_father, .ref q_t_mother, .ref q_t_from, .ref q_t_spoons, .ref q_t_owed, .int c_year, .int c_z, .ref q_t_tape, .int c_bytes, .ref q_t_tx0, .ref q_t_tx1, .ref q_t_waiting, .int c_waits])), (q_t_km, .inl (g.X.cI, 8, .inl c_km))] := by
  unfold wp_X5_numberOf at h
  refine st_aload_n G 1 rfl 0 rfl dX5_numberOf_0 rfl ?_
  refine st_get G inX5 rfl 1 (by decide) wd_39 4 rfl 0 rfl rfl dX5_numberOf_1 ?_
  refine st_iload_n G 5 rfl 1 rfl dX5_numberOf_4 rfl ?_
  obtain ⟨hin, h⟩ := h
  refine st_iald G 6 rfl 1 rfl hin dX5_numberOf_5 ?_
  refine st_bipush G 8 rfl (10 : Int32) (by decide) dX5_numberOf_6 ?_
  refine st_irem G 9 rfl (by decide) dX5_numberOf_8 ?_
  exact R _ _ _ _ dX5_numberOf_9 (Nat.le_of_ble_eq_true rfl) ⟨h, rfl⟩
set_option maxRecDepth 100000 in
set_option maxHeartbeats 4000000 in
theorem c_X5_numberOf (l : Launch) (D : va_G) (X : XT) (q_t q_t_km q_t_father q_t_mother q_t_from q_t_spoons q_t_owed q_t_tape q_t_tx0 q_t_tx1 q_t_waiting : Nat) (c_people : Int32) (c_year : Int32) (c_z : Int32) (c_bytes : Int32) (c_waits : Int32) (c_km : Nat → Int32) (x1 : Int32) (Q : Int32 → Prop) (h : wp_X5_numberOf x1 c_km Q) : CTi l D X yX5_numberOf cX5_numberOf 2 .int rm_X5_numberOf [.ref q_t, .int x1] [(q_t, .inr (5, [.int c_people, .ref q_t_km, .ref q_t_father, .ref q_t_mother, .ref q_t_from, .ref q_t_spoons, .ref q_t_owed, .int c_year, .int c_z, .ref q_t_tape, .int c_bytes, .ref q_t_tx0, .ref q_t_tx1, .ref q_t_waiting, .int c_waits])), (q_t_km, .inl (X.cI, 8, .inl c_km))] (fun (r : Int32) w => (Q r) ∧ w = [(q_t, .inr (5, [.int c_people, .ref q_t_km, .ref q_t_father, .ref q_t_mother, .ref q_t_from, .ref q_t_spoons, .ref q_t_owed, .int c_year, .int c_z, .ref q_t_tape, .int c_bytes, .ref q_t_tx0, .ref q_t_tx1, .ref q_t_waiting, .int c_waits])), (q_t_km, .inl (X.cI, 8, .inl c_km))]) :=
  ct_i (by decide) (Nat.le_of_ble_eq_true rfl) (fun g hl hD hX G R => by subst hl; subst hD; subst hX; exact b_X5_numberOf_e G R h)
set_option maxRecDepth 100000 in
set_option maxHeartbeats 4000000 in
theorem b_X6_held_e {g : GT} (G : GOOD g RX6 cX6_held 3 rm_X6_held) {x0 : Int32} {x1 : Int32} {x2 : Int32} {Q : Int32 → Prop} (R : RETi g cX6_held 0 (fun (r : Int32) w => (Q r) ∧ w = [])) (h : wp_X6_held x0 x1 x2 Q) : ST g 0 0 0 [(0, .int x0), (1, .int x1), (2, .int x2)] [] [] := by
  unfold wp_X6_held at h
  refine st_iload_n G 1 rfl 1 rfl dX6_held_0 rfl ?_
  refine st_iload_n G 2 rfl 2 rfl dX6_held_1 rfl ?_
  refine st_iload_n G 3 rfl 0 rfl dX6_held_2 rfl ?_
  refine st_mmin G wd_234 wd_235 wd_236 wd_237 ⟨Nat.le_of_ble_eq_true rfl, Nat.le_of_ble_eq_true rfl, Nat.zero_le _, Nat.zero_le _⟩ 6 rfl dX6_held_3 ?_
  refine st_mmax G wd_238 wd_239 wd_236 wd_240 ⟨Nat.le_of_ble_eq_true rfl, Nat.le_of_ble_eq_true rfl, Nat.zero_le _, Nat.zero_le _⟩ 9 rfl dX6_held_6 ?_
  exact R _ _ _ _ dX6_held_9 (Nat.le_of_ble_eq_true rfl) ⟨h, rfl⟩
set_option maxRecDepth 100000 in
set_option maxHeartbeats 4000000 in
theorem c_X6_held (l : Launch) (D : va_G) (X : XT) (x0 : Int32) (x1 : Int32) (x2 : Int32) (Q : Int32 → Prop) (h : wp_X6_held x0 x1 x2 Q) : CTi l D X yX6_held cX6_held 3 .int rm_X6_held [.int x0, .int x1, .int x2] [] (fun (r : Int32) w => (Q r) ∧ w = []) :=
  ct_i (by decide) (Nat.le_of_ble_eq_true rfl) (fun g hl hD hX G R => by subst hl; subst hD; subst hX; exact b_X6_held_e G R h)
set_option maxRecDepth 100000 in
set_option maxHeartbeats 4000000 in
theorem b_X3_stands_e {g : GT} (G : GOOD g RX3 cX3_stands 1 rm_X3_stands) {q_t q_t_parts q_t_stack : Nat} {c_size : Int32} {Q : Int32 → Prop} (R : RETz g cX3_stands 1 (fun (r : Int32) w => (Q r) ∧ w = [(q_t, .inr (3, [.ref q_t_parts, .ref q_t_stack, .int c_size]))])) (h : wp_X3_stands c_size Q) : ST g 0 0 0 [(0, .ref q_t)] [] [(q_t, .inr (3, [.ref q_t_parts, .ref q_t_stack, .int c_size]))] := by
  unfold wp_X3_stands at h
  refine st_aload_n G 1 rfl 0 rfl dX3_stands_0 rfl ?_
  refine st_get G inX3 rfl 2 (by decide) wd_219 4 rfl 0 rfl rfl dX3_stands_1 ?_
  refine st_if_le G 11 7 rfl dX3_stands_4 rfl (fun c => ?_) (fun c => ?_)
  · have h := h.1 c
    refine st_iconst G 12 rfl (0 : Int32) (by decide) dX3_stands_11 ?_
    exact R _ _ _ _ dX3_stands_12 (Nat.le_of_ble_eq_true rfl) rfl ⟨h, rfl⟩
  have h := h.2 c
  refine st_iconst G 8 rfl (1 : Int32) (by decide) dX3_stands_7 ?_
  refine st_goto G 12 dX3_stands_8 rfl ?_
  exact R _ _ _ _ dX3_stands_12 (Nat.le_of_ble_eq_true rfl) rfl ⟨h, rfl⟩
set_option maxRecDepth 100000 in
set_option maxHeartbeats 4000000 in
theorem c_X3_stands (l : Launch) (D : va_G) (X : XT) (q_t q_t_parts q_t_stack : Nat) (c_size : Int32) (Q : Int32 → Prop) (h : wp_X3_stands c_size Q) : CTi l D X yX3_stands cX3_stands 1 .boolean rm_X3_stands [.ref q_t] [(q_t, .inr (3, [.ref q_t_parts, .ref q_t_stack, .int c_size]))] (fun (r : Int32) w => (Q r) ∧ w = [(q_t, .inr (3, [.ref q_t_parts, .ref q_t_stack, .int c_size]))]) :=
  ct_z (by decide) (Nat.le_of_ble_eq_true rfl) (fun g hl hD hX G R => by subst hl; subst hD; subst hX; exact b_X3_stands_e G R h)
set_option maxRecDepth 100000 in
set_option maxHeartbeats 4000000 in
theorem b_X6_truth_e {g : GT} (G : GOOD g RX6 cX6_truth 1 rm_X6_truth) {x0 : Int32} {Q : Int32 → Prop} (R : RETi g cX6_truth 0 (fun (r : Int32) w => (Q r) ∧ w = [])) (h : wp_X6_truth x0 Q) : ST g 0 0 0 [(0, .int x0)] [] [] := by
  unfold wp_X6_truth at h
  refine st_iload_n G 1 rfl 0 rfl dX6_truth_0 rfl ?_
  refine st_if_eq G 8 4 rfl dX6_truth_1 rfl (fun c => ?_) (fun c => ?_)
  · have h := h.1 c
    refine st_iconst G 9 rfl (0 : Int32) (by decide) dX6_truth_8 ?_
    exact R _ _ _ _ dX6_truth_9 (Nat.le_of_ble_eq_true rfl) ⟨h, rfl⟩
  have h := h.2 c
  refine st_iconst G 5 rfl (1 : Int32) (by decide) dX6_truth_4 ?_
  refine st_goto G 9 dX6_truth_5 rfl ?_
  exact R _ _ _ _ dX6_truth_9 (Nat.le_of_ble_eq_true rfl) ⟨h, rfl⟩
set_option maxRecDepth 100000 in
set_option maxHeartbeats 4000000 in
theorem c_X6_truth (l : Launch) (D : va_G) (X : XT) (x0 : Int32) (Q : Int32 → Prop) (h : wp_X6_truth x0 Q) : CTi l D X yX6_truth cX6_truth 1 .int rm_X6_truth [.int x0] [] (fun (r : Int32) w => (Q r) ∧ w = []) :=
  ct_i (by decide) (Nat.le_of_ble_eq_true rfl) (fun g hl hD hX G R => by subst hl; subst hD; subst hX; exact b_X6_truth_e G R h)
set_option maxRecDepth 100000 in
set_option maxHeartbeats 4000000 in
theorem b_X3_named_e {g : GT} (G : GOOD g RX3 cX3_named 4 rm_X3_named) {x0 : Int32} {x1 : Int32} {x2 : Int32} {x3 : Int32} {Q : Int32 → Prop} (R : RETi g cX3_named 0 (fun (r : Int32) w => (Q r) ∧ w = [])) (h : wp_X3_named x0 x1 x2 x3 Q) : ST g 0 0 0 [(0, .int x0), (1, .int x1), (2, .int x2), (3, .int x3)] [] [] := by
  unfold wp_X3_named at h
  refine st_iload_n G 1 rfl 0 rfl dX3_named_0 rfl ?_
  refine st_iconst G 2 rfl (-1 : Int32) (by decide) dX3_named_1 ?_
  refine st_icmp_ne G 7 5 rfl dX3_named_2 rfl (fun c => ?_) (fun c => ?_)
  · have h := h.1 c
    refine st_iload_n G 8 rfl 0 rfl dX3_named_7 rfl ?_
    refine st_bipush G 10 rfl (-2 : Int32) (by decide) dX3_named_8 ?_
    refine st_icmp_ne G 17 13 rfl dX3_named_10 rfl (fun c => ?_) (fun c => ?_)
    · have h := h.1 c
      refine st_iload_n G 18 rfl 3 rfl dX3_named_17 rfl ?_
      exact R _ _ _ _ dX3_named_18 (Nat.le_of_ble_eq_true rfl) ⟨h, rfl⟩
    have h := h.2 c
    refine st_iload_n G 14 rfl 2 rfl dX3_named_13 rfl ?_
    refine st_goto G 18 dX3_named_14 rfl ?_
    exact R _ _ _ _ dX3_named_18 (Nat.le_of_ble_eq_true rfl) ⟨h, rfl⟩
  have h := h.2 c
  refine st_iload_n G 6 rfl 1 rfl dX3_named_5 rfl ?_
  exact R _ _ _ _ dX3_named_6 (Nat.le_of_ble_eq_true rfl) ⟨h, rfl⟩
set_option maxRecDepth 100000 in
set_option maxHeartbeats 4000000 in
theorem c_X3_named (l : Launch) (D : va_G) (X : XT) (x0 : Int32) (x1 : Int32) (x2 : Int32) (x3 : Int32) (Q : Int32 → Prop) (h : wp_X3_named x0 x1 x2 x3 Q) : CTi l D X yX3_named cX3_named 4 .int rm_X3_named [.int x0, .int x1, .int x2, .int x3] [] (fun (r : Int32) w => (Q r) ∧ w = []) :=
  ct_i (by decide) (Nat.le_of_ble_eq_true rfl) (fun g hl hD hX G R => by subst hl; subst hD; subst hX; exact b_X3_named_e G R h)
set_option maxRecDepth 100000 in
set_option maxHeartbeats 4000000 in
theorem b_X3_joined_e {g : GT} (G : GOOD g RX3 cX3_joined 3 rm_X3_joined) {x0 : Int32} {x1 : Int32} {x2 : Int32} {Q : Int32 → Prop} (R : RETi g cX3_joined 0 (fun (r : Int32) w => (Q r) ∧ w = [])) (h : wp_X3_joined x0 x1 x2 Q) : ST g 0 0 0 [(0, .int x0), (1, .int x1), (2, .int x2)] [] [] := by
  unfold wp_X3_joined at h
  refine st_iload_n G 1 rfl 0 rfl dX3_joined_0 rfl ?_
  by_cases c0 : x0 = (37 : Int32)
  · have h := h.1 c0
    refine st_lookup G 177 (off := 176) dX3_joined_1 (by decide) (by rw [c0]; rfl) rfl ?_
    refine st_iload_n G 178 rfl 2 rfl dX3_joined_177 rfl ?_
    refine st_if_ne G 185 181 rfl dX3_joined_178 rfl (fun c => ?_) (fun c => ?_)
    · have h := h.1 c
      refine st_iload_n G 186 rfl 1 rfl dX3_joined_185 rfl ?_
      refine st_iload_n G 187 rfl 2 rfl dX3_joined_186 rfl ?_
      obtain ⟨hne, h⟩ := h
      refine st_irem G 188 rfl hne dX3_joined_187 ?_
      exact R _ _ _ _ dX3_joined_188 (Nat.le_of_ble_eq_true rfl) ⟨h, rfl⟩
    have h := h.2 c
    refine st_iconst G 182 rfl (0 : Int32) (by decide) dX3_joined_181 ?_
    refine st_goto G 188 dX3_joined_182 rfl ?_
    exact R _ _ _ _ dX3_joined_188 (Nat.le_of_ble_eq_true rfl) ⟨h, rfl⟩
  by_cases c1 : x0 = (38 : Int32)
  · have h := h.2.1 c1
    refine st_lookup G 106 (off := 105) dX3_joined_1 (by decide) (by rw [c1]; rfl) rfl ?_
    refine st_iload_n G 107 rfl 1 rfl dX3_joined_106 rfl ?_
    refine st_if_eq G 118 110 rfl dX3_joined_107 rfl (fun c => ?_) (fun c => ?_)
    · have h := h.1 c
      refine st_iconst G 119 rfl (0 : Int32) (by decide) dX3_joined_118 ?_
      exact R _ _ _ _ dX3_joined_119 (Nat.le_of_ble_eq_true rfl) ⟨h, rfl⟩
    have h := h.2 c
    refine st_iload_n G 111 rfl 2 rfl dX3_joined_110 rfl ?_
    refine st_if_eq G 118 114 rfl dX3_joined_111 rfl (fun c => ?_) (fun c => ?_)
    · have h := h.1 c
      refine st_iconst G 119 rfl (0 : Int32) (by decide) dX3_joined_118 ?_
      exact R _ _ _ _ dX3_joined_119 (Nat.le_of_ble_eq_true rfl) ⟨h, rfl⟩
    have h := h.2 c
    refine st_iconst G 115 rfl (1 : Int32) (by decide) dX3_joined_114 ?_
    refine st_goto G 119 dX3_joined_115 rfl ?_
    exact R _ _ _ _ dX3_joined_119 (Nat.le_of_ble_eq_true rfl) ⟨h, rfl⟩
  by_cases c2 : x0 = (42 : Int32)
  · have h := h.2.2.1 c2
    refine st_lookup G 161 (off := 160) dX3_joined_1 (by decide) (by rw [c2]; rfl) rfl ?_
    refine st_iload_n G 162 rfl 1 rfl dX3_joined_161 rfl ?_
    refine st_iload_n G 163 rfl 2 rfl dX3_joined_162 rfl ?_
    refine st_imul G 164 rfl dX3_joined_163 ?_
    exact R _ _ _ _ dX3_joined_164 (Nat.le_of_ble_eq_true rfl) ⟨h, rfl⟩
  by_cases c3 : x0 = (43 : Int32)
  · have h := h.2.2.2.1 c3
    refine st_lookup G 153 (off := 152) dX3_joined_1 (by decide) (by rw [c3]; rfl) rfl ?_
    refine st_iload_n G 154 rfl 1 rfl dX3_joined_153 rfl ?_
    refine st_iload_n G 155 rfl 2 rfl dX3_joined_154 rfl ?_
    refine st_iadd G 156 rfl dX3_joined_155 ?_
    exact R _ _ _ _ dX3_joined_156 (Nat.le_of_ble_eq_true rfl) ⟨h, rfl⟩
  by_cases c4 : x0 = (45 : Int32)
  · have h := h.2.2.2.2.1 c4
    refine st_lookup G 157 (off := 156) dX3_joined_1 (by decide) (by rw [c4]; rfl) rfl ?_
    refine st_iload_n G 158 rfl 1 rfl dX3_joined_157 rfl ?_
    refine st_iload_n G 159 rfl 2 rfl dX3_joined_158 rfl ?_
    refine st_isub G 160 rfl dX3_joined_159 ?_
    exact R _ _ _ _ dX3_joined_160 (Nat.le_of_ble_eq_true rfl) ⟨h, rfl⟩
  by_cases c5 : x0 = (47 : Int32)
  · have h := h.2.2.2.2.2.1 c5
    refine st_lookup G 165 (off := 164) dX3_joined_1 (by decide) (by rw [c5]; rfl) rfl ?_
    refine st_iload_n G 166 rfl 2 rfl dX3_joined_165 rfl ?_
    refine st_if_ne G 173 169 rfl dX3_joined_166 rfl (fun c => ?_) (fun c => ?_)
    · have h := h.1 c
      refine st_iload_n G 174 rfl 1 rfl dX3_joined_173 rfl ?_
      refine st_iload_n G 175 rfl 2 rfl dX3_joined_174 rfl ?_
      obtain ⟨hne, h⟩ := h
      refine st_idiv G 176 rfl hne dX3_joined_175 ?_
      exact R _ _ _ _ dX3_joined_176 (Nat.le_of_ble_eq_true rfl) ⟨h, rfl⟩
    have h := h.2 c
    refine st_iconst G 170 rfl (0 : Int32) (by decide) dX3_joined_169 ?_
    refine st_goto G 176 dX3_joined_170 rfl ?_
    exact R _ _ _ _ dX3_joined_176 (Nat.le_of_ble_eq_true rfl) ⟨h, rfl⟩
  by_cases c6 : x0 = (60 : Int32)
  · have h := h.2.2.2.2.2.2.1 c6
    refine st_lookup G 120 (off := 119) dX3_joined_1 (by decide) (by rw [c6]; rfl) rfl ?_
    refine st_iload_n G 121 rfl 1 rfl dX3_joined_120 rfl ?_
    refine st_iload_n G 122 rfl 2 rfl dX3_joined_121 rfl ?_
    refine st_icmp_ge G 129 125 rfl dX3_joined_122 rfl (fun c => ?_) (fun c => ?_)
    · have h := h.1 c
      refine st_iconst G 130 rfl (0 : Int32) (by decide) dX3_joined_129 ?_
      exact R _ _ _ _ dX3_joined_130 (Nat.le_of_ble_eq_true rfl) ⟨h, rfl⟩
    have h := h.2 c
    refine st_iconst G 126 rfl (1 : Int32) (by decide) dX3_joined_125 ?_
    refine st_goto G 130 dX3_joined_126 rfl ?_
    exact R _ _ _ _ dX3_joined_130 (Nat.le_of_ble_eq_true rfl) ⟨h, rfl⟩
  by_cases c7 : x0 = (61 : Int32)
  · have h := h.2.2.2.2.2.2.2.1 c7
    refine st_lookup G 131 (off := 130) dX3_joined_1 (by decide) (by rw [c7]; rfl) rfl ?_
    refine st_iload_n G 132 rfl 1 rfl dX3_joined_131 rfl ?_
    refine st_iload_n G 133 rfl 2 rfl dX3_joined_132 rfl ?_
    refine st_icmp_ne G 140 136 rfl dX3_joined_133 rfl (fun c => ?_) (fun c => ?_)
    · have h := h.1 c
      refine st_iconst G 141 rfl (0 : Int32) (by decide) dX3_joined_140 ?_
      exact R _ _ _ _ dX3_joined_141 (Nat.le_of_ble_eq_true rfl) ⟨h, rfl⟩
    have h := h.2 c
    refine st_iconst G 137 rfl (1 : Int32) (by decide) dX3_joined_136 ?_
    refine st_goto G 141 dX3_joined_137 rfl ?_
    exact R _ _ _ _ dX3_joined_141 (Nat.le_of_ble_eq_true rfl) ⟨h, rfl⟩
  by_cases c8 : x0 = (62 : Int32)
  · have h := h.2.2.2.2.2.2.2.2.1 c8
    refine st_lookup G 142 (off := 141) dX3_joined_1 (by decide) (by rw [c8]; rfl) rfl ?_
    refine st_iload_n G 143 rfl 1 rfl dX3_joined_142 rfl ?_
    refine st_iload_n G 144 rfl 2 rfl dX3_joined_143 rfl ?_
    refine st_icmp_le G 151 147 rfl dX3_joined_144 rfl (fun c => ?_) (fun c => ?_)
    · have h := h.1 c
      refine st_iconst G 152 rfl (0 : Int32) (by decide) dX3_joined_151 ?_
      exact R _ _ _ _ dX3_joined_152 (Nat.le_of_ble_eq_true rfl) ⟨h, rfl⟩
    have h := h.2 c
    refine st_iconst G 148 rfl (1 : Int32) (by decide) dX3_joined_147 ?_
    refine st_goto G 152 dX3_joined_148 rfl ?_
    exact R _ _ _ _ dX3_joined_152 (Nat.le_of_ble_eq_true rfl) ⟨h, rfl⟩
  by_cases c9 : x0 = (124 : Int32)
  · have h := h.2.2.2.2.2.2.2.2.2.1 c9
    refine st_lookup G 92 (off := 91) dX3_joined_1 (by decide) (by rw [c9]; rfl) rfl ?_
    refine st_iload_n G 93 rfl 1 rfl dX3_joined_92 rfl ?_
    refine st_if_ne G 100 96 rfl dX3_joined_93 rfl (fun c => ?_) (fun c => ?_)
    · have h := h.1 c
      refine st_iconst G 101 rfl (1 : Int32) (by decide) dX3_joined_100 ?_
      refine st_goto G 105 dX3_joined_101 rfl ?_
      exact R _ _ _ _ dX3_joined_105 (Nat.le_of_ble_eq_true rfl) ⟨h, rfl⟩
    have h := h.2 c
    refine st_iload_n G 97 rfl 2 rfl dX3_joined_96 rfl ?_
    refine st_if_eq G 104 100 rfl dX3_joined_97 rfl (fun c => ?_) (fun c => ?_)
    · have h := h.1 c
      refine st_iconst G 105 rfl (0 : Int32) (by decide) dX3_joined_104 ?_
      exact R _ _ _ _ dX3_joined_105 (Nat.le_of_ble_eq_true rfl) ⟨h, rfl⟩
    have h := h.2 c
    refine st_iconst G 101 rfl (1 : Int32) (by decide) dX3_joined_100 ?_
    refine st_goto G 105 dX3_joined_101 rfl ?_
    exact R _ _ _ _ dX3_joined_105 (Nat.le_of_ble_eq_true rfl) ⟨h, rfl⟩
  have h := h.2.2.2.2.2.2.2.2.2.2 c0 c1 c2 c3 c4 c5 c6 c7 c8 c9
  refine st_lookup G 189 (off := 188) dX3_joined_1 (by decide) (by have w0 := ne_toInt (n := 37) c0; have w1 := ne_toInt (n := 38) c1; have w2 := ne_toInt (n := 42) c2; have w3 := ne_toInt (n := 43) c3; have w4 := ne_toInt (n := 45) c4; have w5 := ne_toInt (n := 47) c5; have w6 := ne_toInt (n := 60) c6; have w7 := ne_toInt (n := 61) c7; have w8 := ne_toInt (n := 62) c8; have w9 := ne_toInt (n := 124) c9; simp only [Op.lookupswitch.offset]; rw [if_neg (Ne.symm w0), if_neg (Ne.symm w1), if_neg (Ne.symm w2), if_neg (Ne.symm w3), if_neg (Ne.symm w4), if_neg (Ne.symm w5), if_neg (Ne.symm w6), if_neg (Ne.symm w7), if_neg (Ne.symm w8), if_neg (Ne.symm w9)]) rfl ?_
  refine st_iconst G 190 rfl (0 : Int32) (by decide) dX3_joined_189 ?_
  exact R _ _ _ _ dX3_joined_190 (Nat.le_of_ble_eq_true rfl) ⟨h, rfl⟩
set_option maxRecDepth 100000 in
set_option maxHeartbeats 4000000 in
theorem c_X3_joined (l : Launch) (D : va_G) (X : XT) (x0 : Int32) (x1 : Int32) (x2 : Int32) (Q : Int32 → Prop) (h : wp_X3_joined x0 x1 x2 Q) : CTi l D X yX3_joined cX3_joined 3 .int rm_X3_joined [.int x0, .int x1, .int x2] [] (fun (r : Int32) w => (Q r) ∧ w = []) :=
  ct_i (by decide) (Nat.le_of_ble_eq_true rfl) (fun g hl hD hX G R => by subst hl; subst hD; subst hX; exact b_X3_joined_e G R h)
set_option maxRecDepth 100000 in
set_option maxHeartbeats 4000000 in
theorem b_X3_value_6 {g : GT} (G : GOOD g RX3 cX3_value 7 rm_X3_value) {q_t q_t_parts q_t_stack : Nat} {c_size : Int32} {c_parts : Nat → Int32} {Q : Int32 → (Nat → Int32) → Prop} (R : RETi g cX3_value 3 (fun (r : Int32) w => ∃ (c_stack' : Nat → Int32), Q r c_stack' ∧ w = [(q_t, .inr (3, [.ref q_t_parts, .ref q_t_stack, .int c_size])), (q_t_parts, .inl (g.X.cI, 60, .inl c_parts)), (q_t_stack, .inl (g.X.cI, 60, .inl c_stack'))])) : ∀ (n : Nat) (x1 : Int32) (x2 : Int32) (x3 : Int32) (x4 : Int32) (x5 : Int32) (c_stack : Nat → Int32), wp_X3_value_b6 Q c_size c_parts n x1 x2 x3 x4 x5 c_stack → ST g 0 0 6 [(0, .ref q_t), (1, .int x1), (2, .int x2), (3, .int x3), (4, .int x4), (5, .int x5)] [] [(q_t, .inr (3, [.ref q_t_parts, .ref q_t_stack, .int c_size])), (q_t_parts, .inl (g.X.cI, 60, .inl c_parts)), (q_t_stack, .inl (g.X.cI, 60, .inl c_stack))] := by
  intro n
  induction n with
  | zero => intro x1 x2 x3 x4 x5 c_stack h; exact False.elim h
  | succ n hK6 =>
    intro x1 x2 x3 x4 x5 c_stack h
    unfold wp_X3_value_b6 at h
    refine st_iload G 8 rfl 5 rfl dX3_value_6 ?_
    refine st_aload_n G 9 rfl 0 rfl dX3_value_8 rfl ?_
    refine st_get G inX3 rfl 2 (by decide) wd_219 12 rfl 0 rfl rfl dX3_value_9 ?_
    refine st_icmp_ge G 169 15 rfl dX3_value_12 rfl (fun c => ?_) (fun c => ?_)
    · have h := h.1 c
      refine st_iload G 171 rfl 4 rfl dX3_value_169 ?_
      refine st_if_le G 183 174 rfl dX3_value_171 rfl (fun c => ?_) (fun c => ?_)
      · have h := h.1 c
        refine st_iconst G 184 rfl (0 : Int32) (by decide) dX3_value_183 ?_
        exact R _ _ _ _ dX3_value_184 (Nat.le_of_ble_eq_true rfl) ⟨_, h, rfl⟩
      have h := h.2 c
      refine st_aload_n G 175 rfl 0 rfl dX3_value_174 rfl ?_
      refine st_get G inX3 rfl 1 (by decide) wd_57 178 rfl 0 rfl rfl dX3_value_175 ?_
      refine st_iconst G 179 rfl (0 : Int32) (by decide) dX3_value_178 ?_
      obtain ⟨hin, h⟩ := h
      refine st_iald G 180 rfl 2 rfl hin dX3_value_179 ?_
      refine st_goto G 184 dX3_value_180 rfl ?_
      exact R _ _ _ _ dX3_value_184 (Nat.le_of_ble_eq_true rfl) ⟨_, h, rfl⟩
    have h := h.2 c
    refine st_aload_n G 16 rfl 0 rfl dX3_value_15 rfl ?_
    refine st_get G inX3 rfl 0 (by decide) wd_56 19 rfl 0 rfl rfl dX3_value_16 ?_
    refine st_iload G 21 rfl 5 rfl dX3_value_19 ?_
    obtain ⟨hin, h⟩ := h
    refine st_iald G 22 rfl 1 rfl hin dX3_value_21 ?_
    refine st_topi (fun x6_22 ex6_22 => ?_)
    have h := h x6_22 ex6_22
    refine st_istore G 24 rfl [(6, .int x6_22), (0, .ref q_t), (1, .int x1), (2, .int x2), (3, .int x3), (4, .int x4), (5, .int x5)] dX3_value_22 (by decide) rfl ?_
    refine st_iload G 26 rfl 0 rfl dX3_value_24 ?_
    refine st_bipush G 28 rfl (-3 : Int32) (by decide) dX3_value_26 ?_
    refine st_icmp_lt G 74 31 rfl dX3_value_28 rfl (fun c => ?_) (fun c => ?_)
    · have h := h.1 c
      refine st_iload G 76 rfl 0 rfl dX3_value_74 ?_
      refine st_bipush G 78 rfl (-33 : Int32) (by decide) dX3_value_76 ?_
      refine st_icmp_ne G 121 81 rfl dX3_value_78 rfl (fun c => ?_) (fun c => ?_)
      · have h := h.1 c
        refine st_iload G 123 rfl 5 rfl dX3_value_121 ?_
        refine st_iconst G 124 rfl (2 : Int32) (by decide) dX3_value_123 ?_
        refine st_icmp_ge G 129 127 rfl dX3_value_124 rfl (fun c => ?_) (fun c => ?_)
        · have h := h.1 c
          obtain ⟨x4_129, ex4_129⟩ : ∃ y : Int32, y = (x4 + (-1 : Int32)) := ⟨_, rfl⟩
          have h := h x4_129 ex4_129
          refine st_iinc G 132 rfl [(4, .int x4_129), (6, .int x6_22), (0, .ref q_t), (1, .int x1), (2, .int x2), (3, .int x3), (5, .int x5)] x4_129 5 rfl (by rw [ex4_129]; rfl) dX3_value_129 (by decide) rfl ?_
          refine st_aload_n G 133 rfl 2 rfl dX3_value_132 rfl ?_
          refine st_get G inX3 rfl 1 (by decide) wd_57 136 rfl 0 rfl rfl dX3_value_133 ?_
          refine st_iload G 138 rfl 0 rfl dX3_value_136 ?_
          refine st_iconst G 139 rfl (1 : Int32) (by decide) dX3_value_138 ?_
          refine st_isub G 140 rfl dX3_value_139 ?_
          refine st_iload G 142 rfl 1 rfl dX3_value_140 ?_
          refine st_ineg G 143 rfl dX3_value_142 ?_
          refine st_aload_n G 144 rfl 2 rfl dX3_value_143 rfl ?_
          refine st_get G inX3 rfl 1 (by decide) wd_57 147 rfl 0 rfl rfl dX3_value_144 ?_
          refine st_iload G 149 rfl 0 rfl dX3_value_147 ?_
          refine st_iconst G 150 rfl (1 : Int32) (by decide) dX3_value_149 ?_
          refine st_isub G 151 rfl dX3_value_150 ?_
          obtain ⟨hin, h⟩ := h
          refine st_iald G 152 rfl 2 rfl hin dX3_value_151 ?_
          refine st_aload_n G 153 rfl 2 rfl dX3_value_152 rfl ?_
          refine st_get G inX3 rfl 1 (by decide) wd_57 156 rfl 0 rfl rfl dX3_value_153 ?_
          refine st_iload G 158 rfl 0 rfl dX3_value_156 ?_
          obtain ⟨hin, h⟩ := h
          refine st_iald G 159 rfl 2 rfl hin dX3_value_158 ?_
          refine st_cSio G lk_X3_36 (c_X3_joined g.l g.D g.X (-x6_22) (c_stack (x4_129 - (1 : Int32)).toNatClampNeg) (c_stack x4_129.toNatClampNeg) _ h) ⟨rfl, rfl, ⟨Nat.le_of_ble_eq_true rfl, Nat.le_of_ble_eq_true rfl⟩, Nat.zero_le _, Nat.zero_le _⟩ 162 rfl [] rfl (by decide) rfl (Nat.le_of_ble_eq_true rfl) rfl dX3_value_159 (fun r_159 h => ?_)
          obtain ⟨hin, h⟩ := h
          obtain ⟨c_stack_162, ec_stack_162⟩ : ∃ y : Nat → Int32, y = upd c_stack (x4_129 - (1 : Int32)).toNatClampNeg r_159 := ⟨_, rfl⟩
          have h := h c_stack_162 ec_stack_162
          refine st_iast G [(q_t, .inr (3, [.ref q_t_parts, .ref q_t_stack, .int c_size])), (q_t_parts, .inl (g.X.cI, 60, .inl c_parts)), (q_t_stack, .inl (g.X.cI, 60, .inl c_stack_162))] 163 rfl 2 rfl hin (by subst ec_stack_162; rfl) dX3_value_162 ?_
          obtain ⟨x5_163, ex5_163⟩ : ∃ y : Int32, y = (x5 + (1 : Int32)) := ⟨_, rfl⟩
          have h := h x5_163 ex5_163
          refine st_iinc G 166 rfl [(5, .int x5_163), (4, .int x4_129), (6, .int x6_22), (0, .ref q_t), (1, .int x1), (2, .int x2), (3, .int x3)] x5_163 6 rfl (by rw [ex5_163]; rfl) dX3_value_163 (by decide) rfl ?_
          refine st_goto G 6 dX3_value_166 rfl ?_
          refine st_L (L' := [(0, .ref q_t), (1, .int x1), (2, .int x2), (3, .int x3), (4, .int x4_129), (5, .int x5_163)]) [3, 4, 5, 6, 1, 0] rfl ?_
          exact hK6 _ _ _ _ _ _ h
        have h := h.2 c
        refine st_iconst G 128 rfl (0 : Int32) (by decide) dX3_value_127 ?_
        exact R _ _ _ _ dX3_value_128 (Nat.le_of_ble_eq_true rfl) ⟨_, h, rfl⟩
      have h := h.2 c
      refine st_iload G 83 rfl 5 rfl dX3_value_81 ?_
      refine st_iconst G 84 rfl (1 : Int32) (by decide) dX3_value_83 ?_
      refine st_icmp_ge G 89 87 rfl dX3_value_84 rfl (fun c => ?_) (fun c => ?_)
      · have h := h.1 c
        refine st_aload_n G 90 rfl 1 rfl dX3_value_89 rfl ?_
        refine st_get G inX3 rfl 1 (by decide) wd_57 93 rfl 0 rfl rfl dX3_value_90 ?_
        refine st_iload G 95 rfl 5 rfl dX3_value_93 ?_
        refine st_iconst G 96 rfl (1 : Int32) (by decide) dX3_value_95 ?_
        refine st_isub G 97 rfl dX3_value_96 ?_
        refine st_aload_n G 98 rfl 1 rfl dX3_value_97 rfl ?_
        refine st_get G inX3 rfl 1 (by decide) wd_57 101 rfl 0 rfl rfl dX3_value_98 ?_
        refine st_iload G 103 rfl 5 rfl dX3_value_101 ?_
        refine st_iconst G 104 rfl (1 : Int32) (by decide) dX3_value_103 ?_
        refine st_isub G 105 rfl dX3_value_104 ?_
        obtain ⟨hin, h⟩ := h
        refine st_iald G 106 rfl 2 rfl hin dX3_value_105 ?_
        refine st_if_ne G 113 109 rfl dX3_value_106 rfl (fun c => ?_) (fun c => ?_)
        · have h := h.1 c
          refine st_iconst G 114 rfl (0 : Int32) (by decide) dX3_value_113 ?_
          refine st_cNio G lk_X3_32 (c_X6_truth g.l g.D g.X (0 : Int32) _ h) ⟨rfl, rfl, ⟨Nat.le_of_ble_eq_true rfl, Nat.le_of_ble_eq_true rfl⟩, Nat.zero_le _, Nat.zero_le _⟩ 117 rfl [] rfl (by decide) rfl (Nat.le_of_ble_eq_true rfl) rfl dX3_value_114 (fun r_114 h => ?_)
          obtain ⟨hin, h⟩ := h
          obtain ⟨c_stack_117, ec_stack_117⟩ : ∃ y : Nat → Int32, y = upd c_stack (x4 - (1 : Int32)).toNatClampNeg r_114 := ⟨_, rfl⟩
          have h := h c_stack_117 ec_stack_117
          refine st_iast G [(q_t, .inr (3, [.ref q_t_parts, .ref q_t_stack, .int c_size])), (q_t_parts, .inl (g.X.cI, 60, .inl c_parts)), (q_t_stack, .inl (g.X.cI, 60, .inl c_stack_117))] 118 rfl 2 rfl hin (by subst ec_stack_117; rfl) dX3_value_117 ?_
          refine st_goto G 163 dX3_value_118 rfl ?_
          obtain ⟨x5_163, ex5_163⟩ : ∃ y : Int32, y = (x5 + (1 : Int32)) := ⟨_, rfl⟩
          have h := h x5_163 ex5_163
          refine st_iinc G 166 rfl [(5, .int x5_163), (6, .int x6_22), (0, .ref q_t), (1, .int x1), (2, .int x2), (3, .int x3), (4, .int x4)] x5_163 6 rfl (by rw [ex5_163]; rfl) dX3_value_163 (by decide) rfl ?_
          refine st_goto G 6 dX3_value_166 rfl ?_
          refine st_L (L' := [(0, .ref q_t), (1, .int x1), (2, .int x2), (3, .int x3), (4, .int x4), (5, .int x5_163)]) [2, 3, 4, 5, 6, 0] rfl ?_
          exact hK6 _ _ _ _ _ _ h
        have h := h.2 c
        refine st_iconst G 110 rfl (1 : Int32) (by decide) dX3_value_109 ?_
        refine st_goto G 114 dX3_value_110 rfl ?_
        refine st_cNio G lk_X3_32 (c_X6_truth g.l g.D g.X (1 : Int32) _ h) ⟨rfl, rfl, ⟨Nat.le_of_ble_eq_true rfl, Nat.le_of_ble_eq_true rfl⟩, Nat.zero_le _, Nat.zero_le _⟩ 117 rfl [] rfl (by decide) rfl (Nat.le_of_ble_eq_true rfl) rfl dX3_value_114 (fun r_114 h => ?_)
        obtain ⟨hin, h⟩ := h
        obtain ⟨c_stack_117, ec_stack_117⟩ : ∃ y : Nat → Int32, y = upd c_stack (x4 - (1 : Int32)).toNatClampNeg r_114 := ⟨_, rfl⟩
        have h := h c_stack_117 ec_stack_117
        refine st_iast G [(q_t, .inr (3, [.ref q_t_parts, .ref q_t_stack, .int c_size])), (q_t_parts, .inl (g.X.cI, 60, .inl c_parts)), (q_t_stack, .inl (g.X.cI, 60, .inl c_stack_117))] 118 rfl 2 rfl hin (by subst ec_stack_117; rfl) dX3_value_117 ?_
        refine st_goto G 163 dX3_value_118 rfl ?_
        obtain ⟨x5_163, ex5_163⟩ : ∃ y : Int32, y = (x5 + (1 : Int32)) := ⟨_, rfl⟩
        have h := h x5_163 ex5_163
        refine st_iinc G 166 rfl [(5, .int x5_163), (6, .int x6_22), (0, .ref q_t), (1, .int x1), (2, .int x2), (3, .int x3), (4, .int x4)] x5_163 6 rfl (by rw [ex5_163]; rfl) dX3_value_163 (by decide) rfl ?_
        refine st_goto G 6 dX3_value_166 rfl ?_
        refine st_L (L' := [(0, .ref q_t), (1, .int x1), (2, .int x2), (3, .int x3), (4, .int x4), (5, .int x5_163)]) [2, 3, 4, 5, 6, 0] rfl ?_
        exact hK6 _ _ _ _ _ _ h
      have h := h.2 c
      refine st_iconst G 88 rfl (0 : Int32) (by decide) dX3_value_87 ?_
      exact R _ _ _ _ dX3_value_88 (Nat.le_of_ble_eq_true rfl) ⟨_, h, rfl⟩
    have h := h.2 c
    refine st_iload G 33 rfl 5 rfl dX3_value_31 ?_
    refine st_aload_n G 34 rfl 1 rfl dX3_value_33 rfl ?_
    refine st_get G inX3 rfl 1 (by decide) wd_57 37 rfl 0 rfl rfl dX3_value_34 ?_
    refine st_alen G 38 rfl 2 rfl (60 : Int32) rfl dX3_value_37 ?_
    refine st_icmp_lt G 43 41 rfl dX3_value_38 rfl (fun c => ?_) (fun c => ?_)
    · have h := h.1 c
      refine st_aload_n G 44 rfl 1 rfl dX3_value_43 rfl ?_
      refine st_get G inX3 rfl 1 (by decide) wd_57 47 rfl 0 rfl rfl dX3_value_44 ?_
      refine st_iload G 49 rfl 5 rfl dX3_value_47 ?_
      refine st_iload G 51 rfl 0 rfl dX3_value_49 ?_
      refine st_if_lt G 59 54 rfl dX3_value_51 rfl (fun c => ?_) (fun c => ?_)
      · have h := h.1 c
        refine st_iload G 61 rfl 0 rfl dX3_value_59 ?_
        refine st_iload_n G 62 rfl 2 rfl dX3_value_61 rfl ?_
        refine st_iload_n G 63 rfl 3 rfl dX3_value_62 rfl ?_
        refine st_iload_n G 64 rfl 4 rfl dX3_value_63 rfl ?_
        refine st_cSio G lk_X3_28 (c_X3_named g.l g.D g.X x6_22 x1 x2 x3 _ h) ⟨rfl, rfl, ⟨Nat.le_of_ble_eq_true rfl, Nat.le_of_ble_eq_true rfl⟩, Nat.zero_le _, Nat.zero_le _⟩ 67 rfl [] rfl (by decide) rfl (Nat.le_of_ble_eq_true rfl) rfl dX3_value_64 (fun r_64 h => ?_)
        obtain ⟨hin, h⟩ := h
        obtain ⟨c_stack_67, ec_stack_67⟩ : ∃ y : Nat → Int32, y = upd c_stack x4.toNatClampNeg r_64 := ⟨_, rfl⟩
        have h := h c_stack_67 ec_stack_67
        refine st_iast G [(q_t, .inr (3, [.ref q_t_parts, .ref q_t_stack, .int c_size])), (q_t_parts, .inl (g.X.cI, 60, .inl c_parts)), (q_t_stack, .inl (g.X.cI, 60, .inl c_stack_67))] 68 rfl 2 rfl hin (by subst ec_stack_67; rfl) dX3_value_67 ?_
        obtain ⟨x4_68, ex4_68⟩ : ∃ y : Int32, y = (x4 + (1 : Int32)) := ⟨_, rfl⟩
        have h := h x4_68 ex4_68
        refine st_iinc G 71 rfl [(4, .int x4_68), (6, .int x6_22), (0, .ref q_t), (1, .int x1), (2, .int x2), (3, .int x3), (5, .int x5)] x4_68 5 rfl (by rw [ex4_68]; rfl) dX3_value_68 (by decide) rfl ?_
        refine st_goto G 163 dX3_value_71 rfl ?_
        obtain ⟨x5_163, ex5_163⟩ : ∃ y : Int32, y = (x5 + (1 : Int32)) := ⟨_, rfl⟩
        have h := h x5_163 ex5_163
        refine st_iinc G 166 rfl [(5, .int x5_163), (4, .int x4_68), (6, .int x6_22), (0, .ref q_t), (1, .int x1), (2, .int x2), (3, .int x3)] x5_163 6 rfl (by rw [ex5_163]; rfl) dX3_value_163 (by decide) rfl ?_
        refine st_goto G 6 dX3_value_166 rfl ?_
        refine st_L (L' := [(0, .ref q_t), (1, .int x1), (2, .int x2), (3, .int x3), (4, .int x4_68), (5, .int x5_163)]) [3, 4, 5, 6, 1, 0] rfl ?_
        exact hK6 _ _ _ _ _ _ h
      have h := h.2 c
      refine st_iload G 56 rfl 0 rfl dX3_value_54 ?_
      refine st_goto G 67 dX3_value_56 rfl ?_
      obtain ⟨hin, h⟩ := h
      obtain ⟨c_stack_67, ec_stack_67⟩ : ∃ y : Nat → Int32, y = upd c_stack x4.toNatClampNeg x6_22 := ⟨_, rfl⟩
      have h := h c_stack_67 ec_stack_67
      refine st_iast G [(q_t, .inr (3, [.ref q_t_parts, .ref q_t_stack, .int c_size])), (q_t_parts, .inl (g.X.cI, 60, .inl c_parts)), (q_t_stack, .inl (g.X.cI, 60, .inl c_stack_67))] 68 rfl 2 rfl hin (by subst ec_stack_67; rfl) dX3_value_67 ?_
      obtain ⟨x4_68, ex4_68⟩ : ∃ y : Int32, y = (x4 + (1 : Int32)) := ⟨_, rfl⟩
      have h := h x4_68 ex4_68
      refine st_iinc G 71 rfl [(4, .int x4_68), (6, .int x6_22), (0, .ref q_t), (1, .int x1), (2, .int x2), (3, .int x3), (5, .int x5)] x4_68 5 rfl (by rw [ex4_68]; rfl) dX3_value_68 (by decide) rfl ?_
      refine st_goto G 163 dX3_value_71 rfl ?_
      obtain ⟨x5_163, ex5_163⟩ : ∃ y : Int32, y = (x5 + (1 : Int32)) := ⟨_, rfl⟩
      have h := h x5_163 ex5_163
      refine st_iinc G 166 rfl [(5, .int x5_163), (4, .int x4_68), (6, .int x6_22), (0, .ref q_t), (1, .int x1), (2, .int x2), (3, .int x3)] x5_163 6 rfl (by rw [ex5_163]; rfl) dX3_value_163 (by decide) rfl ?_
      refine st_goto G 6 dX3_value_166 rfl ?_
      refine st_L (L' := [(0, .ref q_t), (1, .int x1), (2, .int x2), (3, .int x3), (4, .int x4_68), (5, .int x5_163)]) [3, 4, 5, 6, 1, 0] rfl ?_
      exact hK6 _ _ _ _ _ _ h
    have h := h.2 c
    refine st_iconst G 42 rfl (0 : Int32) (by decide) dX3_value_41 ?_
    exact R _ _ _ _ dX3_value_42 (Nat.le_of_ble_eq_true rfl) ⟨_, h, rfl⟩
set_option maxRecDepth 100000 in
set_option maxHeartbeats 4000000 in
theorem b_X3_value_e {g : GT} (G : GOOD g RX3 cX3_value 7 rm_X3_value) {q_t q_t_parts q_t_stack : Nat} {c_size : Int32} {c_parts : Nat → Int32} {c_stack : Nat → Int32} {x1 : Int32} {x2 : Int32} {x3 : Int32} {Q : Int32 → (Nat → Int32) → Prop} (R : RETi g cX3_value 3 (fun (r : Int32) w => ∃ (c_stack' : Nat → Int32), Q r c_stack' ∧ w = [(q_t, .inr (3, [.ref q_t_parts, .ref q_t_stack, .int c_size])), (q_t_parts, .inl (g.X.cI, 60, .inl c_parts)), (q_t_stack, .inl (g.X.cI, 60, .inl c_stack'))])) (h : wp_X3_value x1 x2 x3 c_size c_parts c_stack Q) : ST g 0 0 0 [(0, .ref q_t), (1, .int x1), (2, .int x2), (3, .int x3)] [] [(q_t, .inr (3, [.ref q_t_parts, .ref q_t_stack, .int c_size])), (q_t_parts, .inl (g.X.cI, 60, .inl c_parts)), (q_t_stack, .inl (g.X.cI, 60, .inl c_stack))] := by
  unfold wp_X3_value at h
  refine st_iconst G 1 rfl (0 : Int32) (by decide) dX3_value_0 ?_
  refine st_istore G 3 rfl [(4, .int (0 : Int32)), (0, .ref q_t), (1, .int x1), (2, .int x2), (3, .int x3)] dX3_value_1 (by decide) rfl ?_
  refine st_iconst G 4 rfl (0 : Int32) (by decide) dX3_value_3 ?_
  refine st_istore G 6 rfl [(5, .int (0 : Int32)), (4, .int (0 : Int32)), (0, .ref q_t), (1, .int x1), (2, .int x2), (3, .int x3)] dX3_value_4 (by decide) rfl ?_
  refine st_L (L' := [(0, .ref q_t), (1, .int x1), (2, .int x2), (3, .int x3), (4, .int (0 : Int32)), (5, .int (0 : Int32))]) [2, 3, 4, 5, 1, 0] rfl ?_
  obtain ⟨n, h⟩ := h
  exact b_X3_value_6 G R n _ _ _ _ _ _ h
set_option maxRecDepth 100000 in
set_option maxHeartbeats 4000000 in
theorem c_X3_value (l : Launch) (D : va_G) (X : XT) (q_t q_t_parts q_t_stack : Nat) (c_size : Int32) (c_parts : Nat → Int32) (c_stack : Nat → Int32) (x1 : Int32) (x2 : Int32) (x3 : Int32) (Q : Int32 → (Nat → Int32) → Prop) (h : wp_X3_value x1 x2 x3 c_size c_parts c_stack Q) : CTi l D X yX3_value cX3_value 7 .int rm_X3_value [.ref q_t, .int x1, .int x2, .int x3] [(q_t, .inr (3, [.ref q_t_parts, .ref q_t_stack, .int c_size])), (q_t_parts, .inl (X.cI, 60, .inl c_parts)), (q_t_stack, .inl (X.cI, 60, .inl c_stack))] (fun (r : Int32) w => ∃ (c_stack' : Nat → Int32), Q r c_stack' ∧ w = [(q_t, .inr (3, [.ref q_t_parts, .ref q_t_stack, .int c_size])), (q_t_parts, .inl (X.cI, 60, .inl c_parts)), (q_t_stack, .inl (X.cI, 60, .inl c_stack'))]) :=
  ct_i (by decide) (Nat.le_of_ble_eq_true rfl) (fun g hl hD hX G R => by subst hl; subst hD; subst hX; exact b_X3_value_e G R h)
set_option maxRecDepth 100000 in
set_option maxHeartbeats 4000000 in
theorem b_X5_textOf_e {g : GT} (G : GOOD g RX5 cX5_textOf 2 rm_X5_textOf) {q_t q_t_km q_t_father q_t_mother q_t_from q_t_spoons q_t_owed q_t_tape q_t_tx0 q_t_tx1 q_t_waiting : Nat} {c_people : Int32} {c_year : Int32} {c_z : Int32} {c_bytes : Int32} {c_waits : Int32} {x1 : Int32} {Q : Nat → Prop} (R : RETa g cX5_textOf 1 (fun k => if k = 0 then q_t_tx0 else q_t_tx1) (fun (r : Nat) w => ((r = 0 ∨ r = 1) ∧ Q r) ∧ w = [(q_t, .inr (5, [.int c_people, .ref q_t_km, .ref q_t_father, .ref q_t_mother, .ref q_t_from, .ref q_t_spoons, .ref q_t_owed, .int c_year, .int c_z, .ref q_t_tape, .int c_bytes, .ref q_t_tx0, .ref q_t_tx1, .ref q_t_waiting, .int c_waits]))])) (h : wp_X5_textOf x1 Q) : ST g 0 0 0 [(0, .ref q_t), (1, .int x1)] [] [(q_t, .inr (5, [.int c_people, .ref q_t_km, .ref q_t_father, .ref q_t_mother, .ref q_t_from, .ref q_t_spoons, .ref q_t_owed, .int c_year, .int c_z, .ref q_t_tape, .int c_bytes, .ref q_t_tx0, .ref q_t_tx1, .ref q_t_waiting, .int c_waits]))] := by
  unfold wp_X5_textOf at h
  refine st_iload_n G 1 rfl 1 rfl dX5_textOf_0 rfl ?_
  refine st_if_ne G 11 4 rfl dX5_textOf_1 rfl (fun c => ?_) (fun c => ?_)
  · have h := h.1 c
    refine st_aload_n G 12 rfl 0 rfl dX5_textOf_11 rfl ?_
    refine st_get G inX5 rfl 12 (by decide) wd_51 15 rfl 0 rfl rfl dX5_textOf_12 ?_
    exact R _ _ 1 _ dX5_textOf_15 (Nat.le_of_ble_eq_true rfl) ⟨⟨by decide, h⟩, rfl⟩
  have h := h.2 c
  refine st_aload_n G 5 rfl 0 rfl dX5_textOf_4 rfl ?_
  refine st_get G inX5 rfl 11 (by decide) wd_50 8 rfl 0 rfl rfl dX5_textOf_5 ?_
  refine st_goto G 15 dX5_textOf_8 rfl ?_
  exact R _ _ 0 _ dX5_textOf_15 (Nat.le_of_ble_eq_true rfl) ⟨⟨by decide, h⟩, rfl⟩
set_option maxRecDepth 100000 in
set_option maxHeartbeats 4000000 in
theorem c_X5_textOf (l : Launch) (D : va_G) (X : XT) (q_t q_t_km q_t_father q_t_mother q_t_from q_t_spoons q_t_owed q_t_tape q_t_tx0 q_t_tx1 q_t_waiting : Nat) (c_people : Int32) (c_year : Int32) (c_z : Int32) (c_bytes : Int32) (c_waits : Int32) (x1 : Int32) (Q : Nat → Prop) (h : wp_X5_textOf x1 Q) : CTa l D X yX5_textOf cX5_textOf 2 (.object "DirtPress$Text") rm_X5_textOf [.ref q_t, .int x1] [(q_t, .inr (5, [.int c_people, .ref q_t_km, .ref q_t_father, .ref q_t_mother, .ref q_t_from, .ref q_t_spoons, .ref q_t_owed, .int c_year, .int c_z, .ref q_t_tape, .int c_bytes, .ref q_t_tx0, .ref q_t_tx1, .ref q_t_waiting, .int c_waits]))] (fun k => if k = 0 then q_t_tx0 else q_t_tx1) (fun (r : Nat) w => ((r = 0 ∨ r = 1) ∧ Q r) ∧ w = [(q_t, .inr (5, [.int c_people, .ref q_t_km, .ref q_t_father, .ref q_t_mother, .ref q_t_from, .ref q_t_spoons, .ref q_t_owed, .int c_year, .int c_z, .ref q_t_tape, .int c_bytes, .ref q_t_tx0, .ref q_t_tx1, .ref q_t_waiting, .int c_waits]))]) :=
  ct_a (by decide) (Nat.le_of_ble_eq_true rfl) (fun g hl hD hX G R => by subst hl; subst hD; subst hX; exact b_X5_textOf_e G R h)
set_option maxRecDepth 100000 in
set_option maxHeartbeats 4000000 in
theorem b_X5_given_e {g : GT} (G : GOOD g RX5 cX5_given 7 rm_X5_given) {q_t q_t_km q_t_father q_t_mother q_t_from q_t_spoons q_t_owed q_t_tape q_t_tx0 q_t_tx0_parts q_t_tx0_stack q_t_tx1 q_t_tx1_parts q_t_tx1_stack q_t_waiting : Nat} {c_people : Int32} {c_year : Int32} {c_z : Int32} {c_bytes : Int32} {c_waits : Int32} {c_tx_size : Nat → Int32} {c_tx_parts : Nat → Nat → Int32} {c_tx_stack : Nat → Nat → Int32} {x1 : Int32} {x2 : Int32} {x3 : Int32} {x4 : Int32} {Q : Int32 → (Nat → Nat → Int32) → Prop} (R : RETi g cX5_given 7 (fun (r : Int32) w => ∃ (c_tx_stack' : Nat → Nat → Int32), Q r c_tx_stack' ∧ w = [(q_t, .inr (5, [.int c_people, .ref q_t_km, .ref q_t_father, .ref q_t_mother, .ref q_t_from, .ref q_t_spoons, .ref q_t_owed, .int c_year, .int c_z, .ref q_t_tape, .int c_bytes, .ref q_t_tx0, .ref q_t_tx1, .ref q_t_waiting, .int c_waits])), (q_t_tx0, .inr (3, [.ref q_t_tx0_parts, .ref q_t_tx0_stack, .int (c_tx_size 0)])), (q_t_tx0_parts, .inl (g.X.cI, 60, .inl (c_tx_parts 0))), (q_t_tx0_stack, .inl (g.X.cI, 60, .inl (c_tx_stack' 0))), (q_t_tx1, .inr (3, [.ref q_t_tx1_parts, .ref q_t_tx1_stack, .int (c_tx_size 1)])), (q_t_tx1_parts, .inl (g.X.cI, 60, .inl (c_tx_parts 1))), (q_t_tx1_stack, .inl (g.X.cI, 60, .inl (c_tx_stack' 1)))])) (h : wp_X5_given x1 x2 x3 x4 c_tx_size c_tx_parts c_tx_stack Q) : ST g 0 0 0 [(0, .ref q_t), (1, .int x1), (2, .int x2), (3, .int x3), (4, .int x4)] [] [(q_t, .inr (5, [.int c_people, .ref q_t_km, .ref q_t_father, .ref q_t_mother, .ref q_t_from, .ref q_t_spoons, .ref q_t_owed, .int c_year, .int c_z, .ref q_t_tape, .int c_bytes, .ref q_t_tx0, .ref q_t_tx1, .ref q_t_waiting, .int c_waits])), (q_t_tx0, .inr (3, [.ref q_t_tx0_parts, .ref q_t_tx0_stack, .int (c_tx_size 0)])), (q_t_tx0_parts, .inl (g.X.cI, 60, .inl (c_tx_parts 0))), (q_t_tx0_stack, .inl (g.X.cI, 60, .inl (c_tx_stack 0))), (q_t_tx1, .inr (3, [.ref q_t_tx1_parts, .ref q_t_tx1_stack, .int (c_tx_size 1)])), (q_t_tx1_parts, .inl (g.X.cI, 60, .inl (c_tx_parts 1))), (q_t_tx1_stack, .inl (g.X.cI, 60, .inl (c_tx_stack 1)))] := by
  unfold wp_X5_given at h
  refine st_aload_n G 1 rfl 0 rfl dX5_given_0 rfl ?_
  refine st_iload_n G 2 rfl 1 rfl dX5_given_1 rfl ?_
  refine st_cVao G lk_X5_127 (c_X5_textOf g.l g.D g.X q_t q_t_km q_t_father q_t_mother q_t_from q_t_spoons q_t_owed q_t_tape q_t_tx0 q_t_tx1 q_t_waiting c_people c_year c_z c_bytes c_waits x1 _ h) ⟨rfl, rfl, ⟨Nat.le_of_ble_eq_true rfl, Nat.le_of_ble_eq_true rfl⟩, Nat.zero_le _, Nat.zero_le _⟩ 5 rfl [0] rfl (by decide) 0 5 rfl rfl rfl (Nat.le_of_ble_eq_true rfl) rfl dX5_given_2 (fun r hq => ?_)
  obtain ⟨hk, h⟩ := hq
  rcases hk with rfl | rfl
  · refine st_S (S' := [.ref q_t_tx0]) rfl ?_
    refine st_astore G 7 rfl [(5, .ref q_t_tx0), (0, .ref q_t), (1, .int x1), (2, .int x2), (3, .int x3), (4, .int x4)] dX5_given_5 (by decide) rfl ?_
    refine st_aload G 9 rfl 0 rfl dX5_given_7 ?_
    refine st_cVio G lk_X5_131 (c_X3_stands g.l g.D g.X q_t_tx0 q_t_tx0_parts q_t_tx0_stack (c_tx_size 0) _ h) ⟨rfl, rfl, ⟨Nat.le_of_ble_eq_true rfl, Nat.le_of_ble_eq_true rfl⟩, Nat.zero_le _, Nat.zero_le _⟩ 12 rfl [1] rfl (by decide) 0 3 rfl rfl rfl (Nat.le_of_ble_eq_true rfl) rfl dX5_given_9 (fun r_9 h => ?_)
    refine st_if_eq G 27 15 rfl dX5_given_12 rfl (fun c => ?_) (fun c => ?_)
    · have h := h.1 c
      refine st_iload_n G 28 rfl 3 rfl dX5_given_27 rfl ?_
      refine st_istore G 30 rfl [(6, .int x2), (5, .ref q_t_tx0), (0, .ref q_t), (1, .int x1), (2, .int x2), (3, .int x3), (4, .int x4)] dX5_given_28 (by decide) rfl ?_
      refine st_iload_n G 31 rfl 3 rfl dX5_given_30 rfl ?_
      refine st_if_ne G 46 34 rfl dX5_given_31 rfl (fun c => ?_) (fun c => ?_)
      · have h := h.1 c
        refine st_iload G 48 rfl 0 rfl dX5_given_46 ?_
        refine st_iconst G 49 rfl (0 : Int32) (by decide) dX5_given_48 ?_
        refine st_sipush G 52 rfl (999 : Int32) (by decide) dX5_given_49 ?_
        refine st_cNio G lk_X5_106 (c_X6_held g.l g.D g.X x2 (0 : Int32) (999 : Int32) _ h) ⟨rfl, rfl, ⟨Nat.le_of_ble_eq_true rfl, Nat.le_of_ble_eq_true rfl⟩, Nat.zero_le _, Nat.zero_le _⟩ 55 rfl [] rfl (by decide) rfl (Nat.le_of_ble_eq_true rfl) rfl dX5_given_52 (fun r_52 h => ?_)
        exact R _ _ _ _ dX5_given_55 (Nat.le_of_ble_eq_true rfl) ⟨_, h, rfl⟩
      have h := h.2 c
      refine st_iload G 36 rfl 0 rfl dX5_given_34 ?_
      refine st_bipush G 38 rfl (-9 : Int32) (by decide) dX5_given_36 ?_
      refine st_bipush G 40 rfl (9 : Int32) (by decide) dX5_given_38 ?_
      refine st_cNio G lk_X5_106 (c_X6_held g.l g.D g.X x2 (-9 : Int32) (9 : Int32) _ h) ⟨rfl, rfl, ⟨Nat.le_of_ble_eq_true rfl, Nat.le_of_ble_eq_true rfl⟩, Nat.zero_le _, Nat.zero_le _⟩ 43 rfl [] rfl (by decide) rfl (Nat.le_of_ble_eq_true rfl) rfl dX5_given_40 (fun r_40 h => ?_)
      refine st_goto G 55 dX5_given_43 rfl ?_
      exact R _ _ _ _ dX5_given_55 (Nat.le_of_ble_eq_true rfl) ⟨_, h, rfl⟩
    have h := h.2 c
    refine st_aload G 17 rfl 0 rfl dX5_given_15 ?_
    refine st_iload_n G 18 rfl 3 rfl dX5_given_17 rfl ?_
    refine st_iload_n G 19 rfl 4 rfl dX5_given_18 rfl ?_
    refine st_iload G 21 rfl 5 rfl dX5_given_19 ?_
    refine st_cVi G lk_X5_135 (c_X3_value g.l g.D g.X q_t_tx0 q_t_tx0_parts q_t_tx0_stack (c_tx_size 0) (c_tx_parts 0) (c_tx_stack 0) x2 x3 x4 _ h) ⟨rfl, rfl, ⟨Nat.le_of_ble_eq_true rfl, Nat.le_of_ble_eq_true rfl⟩, Nat.zero_le _, Nat.zero_le _⟩ 24 rfl [1, 2, 3] rfl (by decide) 0 3 rfl rfl rfl (Nat.le_of_ble_eq_true rfl) rfl dX5_given_21 (fun r_21 w hq => ?_)
    obtain ⟨o_21_stack, h, rfl⟩ := hq
    obtain ⟨c_tx_stack_21, ec_tx_stack_21⟩ : ∃ y : Nat → Nat → Int32, y = va_up c_tx_stack 0 o_21_stack := ⟨_, rfl⟩
    have h := h c_tx_stack_21 ec_tx_stack_21
    refine st_wp (ws' := [(q_t, .inr (5, [.int c_people, .ref q_t_km, .ref q_t_father, .ref q_t_mother, .ref q_t_from, .ref q_t_spoons, .ref q_t_owed, .int c_year, .int c_z, .ref q_t_tape, .int c_bytes, .ref q_t_tx0, .ref q_t_tx1, .ref q_t_waiting, .int c_waits])), (q_t_tx0, .inr (3, [.ref q_t_tx0_parts, .ref q_t_tx0_stack, .int (c_tx_size 0)])), (q_t_tx0_parts, .inl (g.X.cI, 60, .inl (c_tx_parts 0))), (q_t_tx0_stack, .inl (g.X.cI, 60, .inl (c_tx_stack_21 0))), (q_t_tx1, .inr (3, [.ref q_t_tx1_parts, .ref q_t_tx1_stack, .int (c_tx_size 1)])), (q_t_tx1_parts, .inl (g.X.cI, 60, .inl (c_tx_parts 1))), (q_t_tx1_stack, .inl (g.X.cI, 60, .inl (c_tx_stack_21 1)))]) 7 [0, 4, 5, 6] (by decide) rfl rfl (by subst ec_tx_stack_21; rfl) [(q_t, .inr (5, [.int c_people, .ref q_t_km, .ref q_t_father, .ref q_t_mother, .ref q_t_from, .ref q_t_spoons, .ref q_t_owed, .int c_year, .int c_z, .ref q_t_tape, .int c_bytes, .ref q_t_tx0, .ref q_t_tx1, .ref q_t_waiting, .int c_waits])), (q_t_tx1, .inr (3, [.ref q_t_tx1_parts, .ref q_t_tx1_stack, .int (c_tx_size 1)])), (q_t_tx1_parts, .inl (g.X.cI, 60, .inl (c_tx_parts 1))), (q_t_tx1_stack, .inl (g.X.cI, 60, .inl (c_tx_stack 1)))] (by subst ec_tx_stack_21; rfl) rfl ?_
    refine st_goto G 28 dX5_given_24 rfl ?_
    refine st_istore G 30 rfl [(6, .int r_21), (5, .ref q_t_tx0), (0, .ref q_t), (1, .int x1), (2, .int x2), (3, .int x3), (4, .int x4)] dX5_given_28 (by decide) rfl ?_
    refine st_iload_n G 31 rfl 3 rfl dX5_given_30 rfl ?_
    refine st_if_ne G 46 34 rfl dX5_given_31 rfl (fun c => ?_) (fun c => ?_)
    · have h := h.1 c
      refine st_iload G 48 rfl 0 rfl dX5_given_46 ?_
      refine st_iconst G 49 rfl (0 : Int32) (by decide) dX5_given_48 ?_
      refine st_sipush G 52 rfl (999 : Int32) (by decide) dX5_given_49 ?_
      refine st_cNio G lk_X5_106 (c_X6_held g.l g.D g.X r_21 (0 : Int32) (999 : Int32) _ h) ⟨rfl, rfl, ⟨Nat.le_of_ble_eq_true rfl, Nat.le_of_ble_eq_true rfl⟩, Nat.zero_le _, Nat.zero_le _⟩ 55 rfl [] rfl (by decide) rfl (Nat.le_of_ble_eq_true rfl) rfl dX5_given_52 (fun r_52 h => ?_)
      exact R _ _ _ _ dX5_given_55 (Nat.le_of_ble_eq_true rfl) ⟨_, h, rfl⟩
    have h := h.2 c
    refine st_iload G 36 rfl 0 rfl dX5_given_34 ?_
    refine st_bipush G 38 rfl (-9 : Int32) (by decide) dX5_given_36 ?_
    refine st_bipush G 40 rfl (9 : Int32) (by decide) dX5_given_38 ?_
    refine st_cNio G lk_X5_106 (c_X6_held g.l g.D g.X r_21 (-9 : Int32) (9 : Int32) _ h) ⟨rfl, rfl, ⟨Nat.le_of_ble_eq_true rfl, Nat.le_of_ble_eq_true rfl⟩, Nat.zero_le _, Nat.zero_le _⟩ 43 rfl [] rfl (by decide) rfl (Nat.le_of_ble_eq_true rfl) rfl dX5_given_40 (fun r_40 h => ?_)
    refine st_goto G 55 dX5_given_43 rfl ?_
    exact R _ _ _ _ dX5_given_55 (Nat.le_of_ble_eq_true rfl) ⟨_, h, rfl⟩
  · refine st_S (S' := [.ref q_t_tx1]) rfl ?_
    refine st_astore G 7 rfl [(5, .ref q_t_tx1), (0, .ref q_t), (1, .int x1), (2, .int x2), (3, .int x3), (4, .int x4)] dX5_given_5 (by decide) rfl ?_
    refine st_aload G 9 rfl 0 rfl dX5_given_7 ?_
    refine st_cVio G lk_X5_131 (c_X3_stands g.l g.D g.X q_t_tx1 q_t_tx1_parts q_t_tx1_stack (c_tx_size 1) _ h) ⟨rfl, rfl, ⟨Nat.le_of_ble_eq_true rfl, Nat.le_of_ble_eq_true rfl⟩, Nat.zero_le _, Nat.zero_le _⟩ 12 rfl [4] rfl (by decide) 0 3 rfl rfl rfl (Nat.le_of_ble_eq_true rfl) rfl dX5_given_9 (fun r_9 h => ?_)
    refine st_if_eq G 27 15 rfl dX5_given_12 rfl (fun c => ?_) (fun c => ?_)
    · have h := h.1 c
      refine st_iload_n G 28 rfl 3 rfl dX5_given_27 rfl ?_
      refine st_istore G 30 rfl [(6, .int x2), (5, .ref q_t_tx1), (0, .ref q_t), (1, .int x1), (2, .int x2), (3, .int x3), (4, .int x4)] dX5_given_28 (by decide) rfl ?_
      refine st_iload_n G 31 rfl 3 rfl dX5_given_30 rfl ?_
      refine st_if_ne G 46 34 rfl dX5_given_31 rfl (fun c => ?_) (fun c => ?_)
      · have h := h.1 c
        refine st_iload G 48 rfl 0 rfl dX5_given_46 ?_
        refine st_iconst G 49 rfl (0 : Int32) (by decide) dX5_given_48 ?_
        refine st_sipush G 52 rfl (999 : Int32) (by decide) dX5_given_49 ?_
        refine st_cNio G lk_X5_106 (c_X6_held g.l g.D g.X x2 (0 : Int32) (999 : Int32) _ h) ⟨rfl, rfl, ⟨Nat.le_of_ble_eq_true rfl, Nat.le_of_ble_eq_true rfl⟩, Nat.zero_le _, Nat.zero_le _⟩ 55 rfl [] rfl (by decide) rfl (Nat.le_of_ble_eq_true rfl) rfl dX5_given_52 (fun r_52 h => ?_)
        exact R _ _ _ _ dX5_given_55 (Nat.le_of_ble_eq_true rfl) ⟨_, h, rfl⟩
      have h := h.2 c
      refine st_iload G 36 rfl 0 rfl dX5_given_34 ?_
      refine st_bipush G 38 rfl (-9 : Int32) (by decide) dX5_given_36 ?_
      refine st_bipush G 40 rfl (9 : Int32) (by decide) dX5_given_38 ?_
      refine st_cNio G lk_X5_106 (c_X6_held g.l g.D g.X x2 (-9 : Int32) (9 : Int32) _ h) ⟨rfl, rfl, ⟨Nat.le_of_ble_eq_true rfl, Nat.le_of_ble_eq_true rfl⟩, Nat.zero_le _, Nat.zero_le _⟩ 43 rfl [] rfl (by decide) rfl (Nat.le_of_ble_eq_true rfl) rfl dX5_given_40 (fun r_40 h => ?_)
      refine st_goto G 55 dX5_given_43 rfl ?_
      exact R _ _ _ _ dX5_given_55 (Nat.le_of_ble_eq_true rfl) ⟨_, h, rfl⟩
    have h := h.2 c
    refine st_aload G 17 rfl 0 rfl dX5_given_15 ?_
    refine st_iload_n G 18 rfl 3 rfl dX5_given_17 rfl ?_
    refine st_iload_n G 19 rfl 4 rfl dX5_given_18 rfl ?_
    refine st_iload G 21 rfl 5 rfl dX5_given_19 ?_
    refine st_cVi G lk_X5_135 (c_X3_value g.l g.D g.X q_t_tx1 q_t_tx1_parts q_t_tx1_stack (c_tx_size 1) (c_tx_parts 1) (c_tx_stack 1) x2 x3 x4 _ h) ⟨rfl, rfl, ⟨Nat.le_of_ble_eq_true rfl, Nat.le_of_ble_eq_true rfl⟩, Nat.zero_le _, Nat.zero_le _⟩ 24 rfl [4, 5, 6] rfl (by decide) 0 3 rfl rfl rfl (Nat.le_of_ble_eq_true rfl) rfl dX5_given_21 (fun r_21 w hq => ?_)
    obtain ⟨o_21_stack, h, rfl⟩ := hq
    obtain ⟨c_tx_stack_21, ec_tx_stack_21⟩ : ∃ y : Nat → Nat → Int32, y = va_up c_tx_stack 1 o_21_stack := ⟨_, rfl⟩
    have h := h c_tx_stack_21 ec_tx_stack_21
    refine st_wp (ws' := [(q_t, .inr (5, [.int c_people, .ref q_t_km, .ref q_t_father, .ref q_t_mother, .ref q_t_from, .ref q_t_spoons, .ref q_t_owed, .int c_year, .int c_z, .ref q_t_tape, .int c_bytes, .ref q_t_tx0, .ref q_t_tx1, .ref q_t_waiting, .int c_waits])), (q_t_tx0, .inr (3, [.ref q_t_tx0_parts, .ref q_t_tx0_stack, .int (c_tx_size 0)])), (q_t_tx0_parts, .inl (g.X.cI, 60, .inl (c_tx_parts 0))), (q_t_tx0_stack, .inl (g.X.cI, 60, .inl (c_tx_stack_21 0))), (q_t_tx1, .inr (3, [.ref q_t_tx1_parts, .ref q_t_tx1_stack, .int (c_tx_size 1)])), (q_t_tx1_parts, .inl (g.X.cI, 60, .inl (c_tx_parts 1))), (q_t_tx1_stack, .inl (g.X.cI, 60, .inl (c_tx_stack_21 1)))]) 7 [0, 1, 2, 3] (by decide) rfl rfl (by subst ec_tx_stack_21; rfl) [(q_t, .inr (5, [.int c_people, .ref q_t_km, .ref q_t_father, .ref q_t_mother, .ref q_t_from, .ref q_t_spoons, .ref q_t_owed, .int c_year, .int c_z, .ref q_t_tape, .int c_bytes, .ref q_t_tx0, .ref q_t_tx1, .ref q_t_waiting, .int c_waits])), (q_t_tx0, .inr (3, [.ref q_t_tx0_parts, .ref q_t_tx0_stack, .int (c_tx_size 0)])), (q_t_tx0_parts, .inl (g.X.cI, 60, .inl (c_tx_parts 0))), (q_t_tx0_stack, .inl (g.X.cI, 60, .inl (c_tx_stack 0)))] (by subst ec_tx_stack_21; rfl) rfl ?_
    refine st_goto G 28 dX5_given_24 rfl ?_
    refine st_istore G 30 rfl [(6, .int r_21), (5, .ref q_t_tx1), (0, .ref q_t), (1, .int x1), (2, .int x2), (3, .int x3), (4, .int x4)] dX5_given_28 (by decide) rfl ?_
    refine st_iload_n G 31 rfl 3 rfl dX5_given_30 rfl ?_
    refine st_if_ne G 46 34 rfl dX5_given_31 rfl (fun c => ?_) (fun c => ?_)
    · have h := h.1 c
      refine st_iload G 48 rfl 0 rfl dX5_given_46 ?_
      refine st_iconst G 49 rfl (0 : Int32) (by decide) dX5_given_48 ?_
      refine st_sipush G 52 rfl (999 : Int32) (by decide) dX5_given_49 ?_
      refine st_cNio G lk_X5_106 (c_X6_held g.l g.D g.X r_21 (0 : Int32) (999 : Int32) _ h) ⟨rfl, rfl, ⟨Nat.le_of_ble_eq_true rfl, Nat.le_of_ble_eq_true rfl⟩, Nat.zero_le _, Nat.zero_le _⟩ 55 rfl [] rfl (by decide) rfl (Nat.le_of_ble_eq_true rfl) rfl dX5_given_52 (fun r_52 h => ?_)
      exact R _ _ _ _ dX5_given_55 (Nat.le_of_ble_eq_true rfl) ⟨_, h, rfl⟩
    have h := h.2 c
    refine st_iload G 36 rfl 0 rfl dX5_given_34 ?_
    refine st_bipush G 38 rfl (-9 : Int32) (by decide) dX5_given_36 ?_
    refine st_bipush G 40 rfl (9 : Int32) (by decide) dX5_given_38 ?_
    refine st_cNio G lk_X5_106 (c_X6_held g.l g.D g.X r_21 (-9 : Int32) (9 : Int32) _ h) ⟨rfl, rfl, ⟨Nat.le_of_ble_eq_true rfl, Nat.le_of_ble_eq_true rfl⟩, Nat.zero_le _, Nat.zero_le _⟩ 43 rfl [] rfl (by decide) rfl (Nat.le_of_ble_eq_true rfl) rfl dX5_given_40 (fun r_40 h => ?_)
    refine st_goto G 55 dX5_given_43 rfl ?_
    exact R _ _ _ _ dX5_given_55 (Nat.le_of_ble_eq_true rfl) ⟨_, h, rfl⟩
set_option maxRecDepth 100000 in
set_option maxHeartbeats 4000000 in
theorem c_X5_given (l : Launch) (D : va_G) (X : XT) (q_t q_t_km q_t_father q_t_mother q_t_from q_t_spoons q_t_owed q_t_tape q_t_tx0 q_t_tx0_parts q_t_tx0_stack q_t_tx1 q_t_tx1_parts q_t_tx1_stack q_t_waiting : Nat) (c_people : Int32) (c_year : Int32) (c_z : Int32) (c_bytes : Int32) (c_waits : Int32) (c_tx_size : Nat → Int32) (c_tx_parts : Nat → Nat → Int32) (c_tx_stack : Nat → Nat → Int32) (x1 : Int32) (x2 : Int32) (x3 : Int32) (x4 : Int32) (Q : Int32 → (Nat → Nat → Int32) → Prop) (h : wp_X5_given x1 x2 x3 x4 c_tx_size c_tx_parts c_tx_stack Q) : CTi l D X yX5_given cX5_given 7 .int rm_X5_given [.ref q_t, .int x1, .int x2, .int x3, .int x4] [(q_t, .inr (5, [.int c_people, .ref q_t_km, .ref q_t_father, .ref q_t_mother, .ref q_t_from, .ref q_t_spoons, .ref q_t_owed, .int c_year, .int c_z, .ref q_t_tape, .int c_bytes, .ref q_t_tx0, .ref q_t_tx1, .ref q_t_waiting, .int c_waits])), (q_t_tx0, .inr (3, [.ref q_t_tx0_parts, .ref q_t_tx0_stack, .int (c_tx_size 0)])), (q_t_tx0_parts, .inl (X.cI, 60, .inl (c_tx_parts 0))), (q_t_tx0_stack, .inl (X.cI, 60, .inl (c_tx_stack 0))), (q_t_tx1, .inr (3, [.ref q_t_tx1_parts, .ref q_t_tx1_stack, .int (c_tx_size 1)])), (q_t_tx1_parts, .inl (X.cI, 60, .inl (c_tx_parts 1))), (q_t_tx1_stack, .inl (X.cI, 60, .inl (c_tx_stack 1)))] (fun (r : Int32) w => ∃ (c_tx_stack' : Nat → Nat → Int32), Q r c_tx_stack' ∧ w = [(q_t, .inr (5, [.int c_people, .ref q_t_km, .ref q_t_father, .ref q_t_mother, .ref q_t_from, .ref q_t_spoons, .ref q_t_owed, .int c_year, .int c_z, .ref q_t_tape, .int c_bytes, .ref q_t_tx0, .ref q_t_tx1, .ref q_t_waiting, .int c_waits])), (q_t_tx0, .inr (3, [.ref q_t_tx0_parts, .ref q_t_tx0_stack, .int (c_tx_size 0)])), (q_t_tx0_parts, .inl (X.cI, 60, .inl (c_tx_parts 0))), (q_t_tx0_stack, .inl (X.cI, 60, .inl (c_tx_stack' 0))), (q_t_tx1, .inr (3, [.ref q_t_tx1_parts, .ref q_t_tx1_stack, .int (c_tx_size 1)])), (q_t_tx1_parts, .inl (X.cI, 60, .inl (c_tx_parts 1))), (q_t_tx1_stack, .inl (X.cI, 60, .inl (c_tx_stack' 1)))]) :=
  ct_i (by decide) (Nat.le_of_ble_eq_true rfl) (fun g hl hD hX G R => by subst hl; subst hD; subst hX; exact b_X5_given_e G R h)
set_option maxRecDepth 100000 in
set_option maxHeartbeats 4000000 in
theorem b_X5_worthOf_4 {g : GT} (G : GOOD g RX5 cX5_worthOf 4 rm_X5_worthOf) {q_t q_t_km q_t_father q_t_mother q_t_from q_t_spoons q_t_owed q_t_tape q_t_tx0 q_t_tx0_parts q_t_tx0_stack q_t_tx1 q_t_tx1_parts q_t_tx1_stack q_t_waiting : Nat} {c_people : Int32} {c_year : Int32} {c_z : Int32} {c_bytes : Int32} {c_waits : Int32} {c_spoons : Nat → Int32} {c_tx_size : Nat → Int32} {c_tx_parts : Nat → Nat → Int32} {Q : Int32 → (Nat → Nat → Int32) → Prop} (R : RETi g cX5_worthOf 8 (fun (r : Int32) w => ∃ (c_tx_stack' : Nat → Nat → Int32), Q r c_tx_stack' ∧ w = [(q_t, .inr (5, [.int c_people, .ref q_t_km, .ref q_t_father, .ref q_t_mother, .ref q_t_from, .ref q_t_spoons, .ref q_t_owed, .int c_year, .int c_z, .ref q_t_tape, .int c_bytes, .ref q_t_tx0, .ref q_t_tx1, .ref q_t_waiting, .int c_waits])), (q_t_spoons, .inl (g.X.cI, 40, .inl c_spoons)), (q_t_tx0, .inr (3, [.ref q_t_tx0_parts, .ref q_t_tx0_stack, .int (c_tx_size 0)])), (q_t_tx0_parts, .inl (g.X.cI, 60, .inl (c_tx_parts 0))), (q_t_tx0_stack, .inl (g.X.cI, 60, .inl (c_tx_stack' 0))), (q_t_tx1, .inr (3, [.ref q_t_tx1_parts, .ref q_t_tx1_stack, .int (c_tx_size 1)])), (q_t_tx1_parts, .inl (g.X.cI, 60, .inl (c_tx_parts 1))), (q_t_tx1_stack, .inl (g.X.cI, 60, .inl (c_tx_stack' 1)))])) : ∀ (n : Nat) (x1 : Int32) (x2 : Int32) (x3 : Int32) (c_tx_stack : Nat → Nat → Int32), wp_X5_worthOf_b4 Q c_spoons c_tx_size c_tx_parts n x1 x2 x3 c_tx_stack → ST g 0 0 4 [(0, .ref q_t), (1, .int x1), (2, .int x2), (3, .int x3)] [] [(q_t, .inr (5, [.int c_people, .ref q_t_km, .ref q_t_father, .ref q_t_mother, .ref q_t_from, .ref q_t_spoons, .ref q_t_owed, .int c_year, .int c_z, .ref q_t_tape, .int c_bytes, .ref q_t_tx0, .ref q_t_tx1, .ref q_t_waiting, .int c_waits])), (q_t_spoons, .inl (g.X.cI, 40, .inl c_spoons)), (q_t_tx0, .inr (3, [.ref q_t_tx0_parts, .ref q_t_tx0_stack, .int (c_tx_size 0)])), (q_t_tx0_parts, .inl (g.X.cI, 60, .inl (c_tx_parts 0))), (q_t_tx0_stack, .inl (g.X.cI, 60, .inl (c_tx_stack 0))), (q_t_tx1, .inr (3, [.ref q_t_tx1_parts, .ref q_t_tx1_stack, .int (c_tx_size 1)])), (q_t_tx1_parts, .inl (g.X.cI, 60, .inl (c_tx_parts 1))), (q_t_tx1_stack, .inl (g.X.cI, 60, .inl (c_tx_stack 1)))] := by
  intro n
  induction n with
  | zero => intro x1 x2 x3 c_tx_stack h; exact False.elim h
  | succ n hK4 =>
    intro x1 x2 x3 c_tx_stack h
    unfold wp_X5_worthOf_b4 at h
    refine st_iload_n G 5 rfl 3 rfl dX5_worthOf_4 rfl ?_
    refine st_iconst G 6 rfl (5 : Int32) (by decide) dX5_worthOf_5 ?_
    refine st_icmp_ge G 35 9 rfl dX5_worthOf_6 rfl (fun c => ?_) (fun c => ?_)
    · have h := h.1 c
      refine st_iload_n G 36 rfl 2 rfl dX5_worthOf_35 rfl ?_
      exact R _ _ _ _ dX5_worthOf_36 (Nat.le_of_ble_eq_true rfl) ⟨_, h, rfl⟩
    have h := h.2 c
    refine st_iload_n G 10 rfl 2 rfl dX5_worthOf_9 rfl ?_
    refine st_aload_n G 11 rfl 0 rfl dX5_worthOf_10 rfl ?_
    refine st_iconst G 12 rfl (1 : Int32) (by decide) dX5_worthOf_11 ?_
    refine st_aload_n G 13 rfl 0 rfl dX5_worthOf_12 rfl ?_
    refine st_get G inX5 rfl 5 (by decide) wd_43 16 rfl 0 rfl rfl dX5_worthOf_13 ?_
    refine st_iload_n G 17 rfl 1 rfl dX5_worthOf_16 rfl ?_
    refine st_iload_n G 18 rfl 3 rfl dX5_worthOf_17 rfl ?_
    refine st_cNio G lk_X5_79 (c_X6_cell g.l g.D g.X x1 x3 _ h) ⟨rfl, rfl, ⟨Nat.le_of_ble_eq_true rfl, Nat.le_of_ble_eq_true rfl⟩, Nat.zero_le _, Nat.zero_le _⟩ 21 rfl [] rfl (by decide) rfl (Nat.le_of_ble_eq_true rfl) rfl dX5_worthOf_18 (fun r_18 h => ?_)
    obtain ⟨hin, h⟩ := h
    refine st_iald G 22 rfl 1 rfl hin dX5_worthOf_21 ?_
    refine st_iload_n G 23 rfl 3 rfl dX5_worthOf_22 rfl ?_
    refine st_iload_n G 24 rfl 1 rfl dX5_worthOf_23 rfl ?_
    refine st_cVi G lk_X5_100 (c_X5_given g.l g.D g.X q_t q_t_km q_t_father q_t_mother q_t_from q_t_spoons q_t_owed q_t_tape q_t_tx0 q_t_tx0_parts q_t_tx0_stack q_t_tx1 q_t_tx1_parts q_t_tx1_stack q_t_waiting c_people c_year c_z c_bytes c_waits c_tx_size c_tx_parts c_tx_stack (1 : Int32) (c_spoons r_18.toNatClampNeg) x3 x1 _ h) ⟨rfl, rfl, ⟨Nat.le_of_ble_eq_true rfl, Nat.le_of_ble_eq_true rfl⟩, Nat.zero_le _, Nat.zero_le _⟩ 27 rfl [0, 2, 3, 4, 5, 6, 7] rfl (by decide) 0 5 rfl rfl rfl (Nat.le_of_ble_eq_true rfl) rfl dX5_worthOf_24 (fun r_24 w hq => ?_)
    obtain ⟨c_tx_stack_24, h, rfl⟩ := hq
    refine st_wp (ws' := [(q_t, .inr (5, [.int c_people, .ref q_t_km, .ref q_t_father, .ref q_t_mother, .ref q_t_from, .ref q_t_spoons, .ref q_t_owed, .int c_year, .int c_z, .ref q_t_tape, .int c_bytes, .ref q_t_tx0, .ref q_t_tx1, .ref q_t_waiting, .int c_waits])), (q_t_spoons, .inl (g.X.cI, 40, .inl c_spoons)), (q_t_tx0, .inr (3, [.ref q_t_tx0_parts, .ref q_t_tx0_stack, .int (c_tx_size 0)])), (q_t_tx0_parts, .inl (g.X.cI, 60, .inl (c_tx_parts 0))), (q_t_tx0_stack, .inl (g.X.cI, 60, .inl (c_tx_stack_24 0))), (q_t_tx1, .inr (3, [.ref q_t_tx1_parts, .ref q_t_tx1_stack, .int (c_tx_size 1)])), (q_t_tx1_parts, .inl (g.X.cI, 60, .inl (c_tx_parts 1))), (q_t_tx1_stack, .inl (g.X.cI, 60, .inl (c_tx_stack_24 1)))]) 8 [1] (by decide) rfl rfl (by rfl) [(q_t_spoons, .inl (g.X.cI, 40, .inl c_spoons))] (by rfl) rfl ?_
    refine st_iadd G 28 rfl dX5_worthOf_27 ?_
    refine st_topi (fun x2_28 ex2_28 => ?_)
    have h := h x2_28 ex2_28
    refine st_istore_n G 29 rfl [(2, .int x2_28), (0, .ref q_t), (1, .int x1), (3, .int x3)] dX5_worthOf_28 rfl (by decide) rfl ?_
    obtain ⟨x3_29, ex3_29⟩ : ∃ y : Int32, y = (x3 + (1 : Int32)) := ⟨_, rfl⟩
    have h := h x3_29 ex3_29
    refine st_iinc G 32 rfl [(3, .int x3_29), (2, .int x2_28), (0, .ref q_t), (1, .int x1)] x3_29 3 rfl (by rw [ex3_29]; rfl) dX5_worthOf_29 (by decide) rfl ?_
    refine st_goto G 4 dX5_worthOf_32 rfl ?_
    refine st_L (L' := [(0, .ref q_t), (1, .int x1), (2, .int x2_28), (3, .int x3_29)]) [2, 3, 1, 0] rfl ?_
    exact hK4 _ _ _ _ h
set_option maxRecDepth 100000 in
set_option maxHeartbeats 4000000 in
theorem b_X5_worthOf_e {g : GT} (G : GOOD g RX5 cX5_worthOf 4 rm_X5_worthOf) {q_t q_t_km q_t_father q_t_mother q_t_from q_t_spoons q_t_owed q_t_tape q_t_tx0 q_t_tx0_parts q_t_tx0_stack q_t_tx1 q_t_tx1_parts q_t_tx1_stack q_t_waiting : Nat} {c_people : Int32} {c_year : Int32} {c_z : Int32} {c_bytes : Int32} {c_waits : Int32} {c_spoons : Nat → Int32} {c_tx_size : Nat → Int32} {c_tx_parts : Nat → Nat → Int32} {c_tx_stack : Nat → Nat → Int32} {x1 : Int32} {Q : Int32 → (Nat → Nat → Int32) → Prop} (R : RETi g cX5_worthOf 8 (fun (r : Int32) w => ∃ (c_tx_stack' : Nat → Nat → Int32), Q r c_tx_stack' ∧ w = [(q_t, .inr (5, [.int c_people, .ref q_t_km, .ref q_t_father, .ref q_t_mother, .ref q_t_from, .ref q_t_spoons, .ref q_t_owed, .int c_year, .int c_z, .ref q_t_tape, .int c_bytes, .ref q_t_tx0, .ref q_t_tx1, .ref q_t_waiting, .int c_waits])), (q_t_spoons, .inl (g.X.cI, 40, .inl c_spoons)), (q_t_tx0, .inr (3, [.ref q_t_tx0_parts, .ref q_t_tx0_stack, .int (c_tx_size 0)])), (q_t_tx0_parts, .inl (g.X.cI, 60, .inl (c_tx_parts 0))), (q_t_tx0_stack, .inl (g.X.cI, 60, .inl (c_tx_stack' 0))), (q_t_tx1, .inr (3, [.ref q_t_tx1_parts, .ref q_t_tx1_stack, .int (c_tx_size 1)])), (q_t_tx1_parts, .inl (g.X.cI, 60, .inl (c_tx_parts 1))), (q_t_tx1_stack, .inl (g.X.cI, 60, .inl (c_tx_stack' 1)))])) (h : wp_X5_worthOf x1 c_spoons c_tx_size c_tx_parts c_tx_stack Q) : ST g 0 0 0 [(0, .ref q_t), (1, .int x1)] [] [(q_t, .inr (5, [.int c_people, .ref q_t_km, .ref q_t_father, .ref q_t_mother, .ref q_t_from, .ref q_t_spoons, .ref q_t_owed, .int c_year, .int c_z, .ref q_t_tape, .int c_bytes, .ref q_t_tx0, .ref q_t_tx1, .ref q_t_waiting, .int c_waits])), (q_t_spoons, .inl (g.X.cI, 40, .inl c_spoons)), (q_t_tx0, .inr (3, [.ref q_t_tx0_parts, .ref q_t_tx0_stack, .int (c_tx_size 0)])), (q_t_tx0_parts, .inl (g.X.cI, 60, .inl (c_tx_parts 0))), (q_t_tx0_stack, .inl (g.X.cI, 60, .inl (c_tx_stack 0))), (q_t_tx1, .inr (3, [.ref q_t_tx1_parts, .ref q_t_tx1_stack, .int (c_tx_size 1)])), (q_t_tx1_parts, .inl (g.X.cI, 60, .inl (c_tx_parts 1))), (q_t_tx1_stack, .inl (g.X.cI, 60, .inl (c_tx_stack 1)))] := by
  unfold wp_X5_worthOf at h
  refine st_iconst G 1 rfl (0 : Int32) (by decide) dX5_worthOf_0 ?_
  refine st_istore_n G 2 rfl [(2, .int (0 : Int32)), (0, .ref q_t), (1, .int x1)] dX5_worthOf_1 rfl (by decide) rfl ?_
  refine st_iconst G 3 rfl (0 : Int32) (by decide) dX5_worthOf_2 ?_
  refine st_istore_n G 4 rfl [(3, .int (0 : Int32)), (2, .int (0 : Int32)), (0, .ref q_t), (1, .int x1)] dX5_worthOf_3 rfl (by decide) rfl ?_
  refine st_L (L' := [(0, .ref q_t), (1, .int x1), (2, .int (0 : Int32)), (3, .int (0 : Int32))]) [2, 3, 1, 0] rfl ?_
  obtain ⟨n, h⟩ := h
  exact b_X5_worthOf_4 G R n _ _ _ _ h
set_option maxRecDepth 100000 in
set_option maxHeartbeats 4000000 in
theorem c_X5_worthOf (l : Launch) (D : va_G) (X : XT) (q_t q_t_km q_t_father q_t_mother q_t_from q_t_spoons q_t_owed q_t_tape q_t_tx0 q_t_tx0_parts q_t_tx0_stack q_t_tx1 q_t_tx1_parts q_t_tx1_stack q_t_waiting : Nat) (c_people : Int32) (c_year : Int32) (c_z : Int32) (c_bytes : Int32) (c_waits : Int32) (c_spoons : Nat → Int32) (c_tx_size : Nat → Int32) (c_tx_parts : Nat → Nat → Int32) (c_tx_stack : Nat → Nat → Int32) (x1 : Int32) (Q : Int32 → (Nat → Nat → Int32) → Prop) (h : wp_X5_worthOf x1 c_spoons c_tx_size c_tx_parts c_tx_stack Q) : CTi l D X yX5_worthOf cX5_worthOf 4 .int rm_X5_worthOf [.ref q_t, .int x1] [(q_t, .inr (5, [.int c_people, .ref q_t_km, .ref q_t_father, .ref q_t_mother, .ref q_t_from, .ref q_t_spoons, .ref q_t_owed, .int c_year, .int c_z, .ref q_t_tape, .int c_bytes, .ref q_t_tx0, .ref q_t_tx1, .ref q_t_waiting, .int c_waits])), (q_t_spoons, .inl (X.cI, 40, .inl c_spoons)), (q_t_tx0, .inr (3, [.ref q_t_tx0_parts, .ref q_t_tx0_stack, .int (c_tx_size 0)])), (q_t_tx0_parts, .inl (X.cI, 60, .inl (c_tx_parts 0))), (q_t_tx0_stack, .inl (X.cI, 60, .inl (c_tx_stack 0))), (q_t_tx1, .inr (3, [.ref q_t_tx1_parts, .ref q_t_tx1_stack, .int (c_tx_size 1)])), (q_t_tx1_parts, .inl (X.cI, 60, .inl (c_tx_parts 1))), (q_t_tx1_stack, .inl (X.cI, 60, .inl (c_tx_stack 1)))] (fun (r : Int32) w => ∃ (c_tx_stack' : Nat → Nat → Int32), Q r c_tx_stack' ∧ w = [(q_t, .inr (5, [.int c_people, .ref q_t_km, .ref q_t_father, .ref q_t_mother, .ref q_t_from, .ref q_t_spoons, .ref q_t_owed, .int c_year, .int c_z, .ref q_t_tape, .int c_bytes, .ref q_t_tx0, .ref q_t_tx1, .ref q_t_waiting, .int c_waits])), (q_t_spoons, .inl (X.cI, 40, .inl c_spoons)), (q_t_tx0, .inr (3, [.ref q_t_tx0_parts, .ref q_t_tx0_stack, .int (c_tx_size 0)])), (q_t_tx0_parts, .inl (X.cI, 60, .inl (c_tx_parts 0))), (q_t_tx0_stack, .inl (X.cI, 60, .inl (c_tx_stack' 0))), (q_t_tx1, .inr (3, [.ref q_t_tx1_parts, .ref q_t_tx1_stack, .int (c_tx_size 1)])), (q_t_tx1_parts, .inl (X.cI, 60, .inl (c_tx_parts 1))), (q_t_tx1_stack, .inl (X.cI, 60, .inl (c_tx_stack' 1)))]) :=
  ct_i (by decide) (Nat.le_of_ble_eq_true rfl) (fun g hl hD hX G R => by subst hl; subst hD; subst hX; exact b_X5_worthOf_e G R h)
set_option maxRecDepth 100000 in
set_option maxHeartbeats 4000000 in
theorem b_X6_personIs_e {g : GT} (G : GOOD g RX6 cX6_personIs 3 rm_X6_personIs) {q_t q_t_w q_t_w_km q_t_w_father q_t_w_mother q_t_w_from q_t_w_spoons q_t_w_owed q_t_w_tape q_t_w_tx0 q_t_w_tx0_parts q_t_w_tx0_stack q_t_w_tx1 q_t_w_tx1_parts q_t_w_tx1_stack q_t_w_waiting q_t_k q_t_errors q_t_sheets q_t_r q_t_th q_t_sp : Nat} {c_images : Int32} {w_people : Int32} {w_year : Int32} {w_z : Int32} {w_bytes : Int32} {w_waits : Int32} {w_km : Nat → Int32} {w_father : Nat → Int32} {w_mother : Nat → Int32} {w_from : Nat → Int32} {w_spoons : Nat → Int32} {w_tx_size : Nat → Int32} {w_tx_parts : Nat → Nat → Int32} {w_tx_stack : Nat → Nat → Int32} {c_errors : Nat → Int32} {x1 : Int32} {x2 : Int32} {Q : Int32 → (Nat → Nat → Int32) → (Nat → Int32) → Prop} (R : RETi g cX6_personIs 14 (fun (r : Int32) w => ∃ (w_tx_stack' : Nat → Nat → Int32) (c_errors' : Nat → Int32), Q r w_tx_stack' c_errors' ∧ w = [(q_t, .inr (6, [.ref q_t_w, .ref q_t_k, .int c_images, .ref q_t_errors, .ref q_t_sheets, .ref q_t_r, .ref q_t_th, .ref q_t_sp])), (q_t_w, .inr (5, [.int w_people, .ref q_t_w_km, .ref q_t_w_father, .ref q_t_w_mother, .ref q_t_w_from, .ref q_t_w_spoons, .ref q_t_w_owed, .int w_year, .int w_z, .ref q_t_w_tape, .int w_bytes, .ref q_t_w_tx0, .ref q_t_w_tx1, .ref q_t_w_waiting, .int w_waits])), (q_t_w_km, .inl (g.X.cI, 8, .inl w_km)), (q_t_w_father, .inl (g.X.cI, 8, .inl w_father)), (q_t_w_mother, .inl (g.X.cI, 8, .inl w_mother)), (q_t_w_from, .inl (g.X.cI, 8, .inl w_from)), (q_t_w_spoons, .inl (g.X.cI, 40, .inl w_spoons)), (q_t_w_tx0, .inr (3, [.ref q_t_w_tx0_parts, .ref q_t_w_tx0_stack, .int (w_tx_size 0)])), (q_t_w_tx0_parts, .inl (g.X.cI, 60, .inl (w_tx_parts 0))), (q_t_w_tx0_stack, .inl (g.X.cI, 60, .inl (w_tx_stack' 0))), (q_t_w_tx1, .inr (3, [.ref q_t_w_tx1_parts, .ref q_t_w_tx1_stack, .int (w_tx_size 1)])), (q_t_w_tx1_parts, .inl (g.X.cI, 60, .inl (w_tx_parts 1))), (q_t_w_tx1_stack, .inl (g.X.cI, 60, .inl (w_tx_stack' 1))), (q_t_errors, .inl (g.X.cI, 7, .inl c_errors'))])) (h : wp_X6_personIs x1 x2 w_people w_km w_father w_mother w_from w_spoons w_tx_size w_tx_parts w_tx_stack c_errors Q) : ST g 0 0 0 [(0, .ref q_t), (1, .int x1), (2, .int x2)] [] [(q_t, .inr (6, [.ref q_t_w, .ref q_t_k, .int c_images, .ref q_t_errors, .ref q_t_sheets, .ref q_t_r, .ref q_t_th, .ref q_t_sp])), (q_t_w, .inr (5, [.int w_people, .ref q_t_w_km, .ref q_t_w_father, .ref q_t_w_mother, .ref q_t_w_from, .ref q_t_w_spoons, .ref q_t_w_owed, .int w_year, .int w_z, .ref q_t_w_tape, .int w_bytes, .ref q_t_w_tx0, .ref q_t_w_tx1, .ref q_t_w_waiting, .int w_waits])), (q_t_w_km, .inl (g.X.cI, 8, .inl w_km)), (q_t_w_father, .inl (g.X.cI, 8, .inl w_father)), (q_t_w_mother, .inl (g.X.cI, 8, .inl w_mother)), (q_t_w_from, .inl (g.X.cI, 8, .inl w_from)), (q_t_w_spoons, .inl (g.X.cI, 40, .inl w_spoons)), (q_t_w_tx0, .inr (3, [.ref q_t_w_tx0_parts, .ref q_t_w_tx0_stack, .int (w_tx_size 0)])), (q_t_w_tx0_parts, .inl (g.X.cI, 60, .inl (w_tx_parts 0))), (q_t_w_tx0_stack, .inl (g.X.cI, 60, .inl (w_tx_stack 0))), (q_t_w_tx1, .inr (3, [.ref q_t_w_tx1_parts, .ref q_t_w_tx1_stack, .int (w_tx_size 1)])), (q_t_w_tx1_parts, .inl (g.X.cI, 60, .inl (w_tx_parts 1))), (q_t_w_tx1_stack, .inl (g.X.cI, 60, .inl (w_tx_stack 1))), (q_t_errors, .inl (g.X.cI, 7, .inl c_errors))] := by
  unfold wp_X6_personIs at h
  refine st_aload_n G 1 rfl 0 rfl dX6_personIs_0 rfl ?_
  refine st_iload_n G 2 rfl 1 rfl dX6_personIs_1 rfl ?_
  refine st_cVio G lk_X6_74 (c_X6_notOne g.l g.D g.X q_t q_t_w q_t_w_km q_t_w_father q_t_w_mother q_t_w_from q_t_w_spoons q_t_w_owed q_t_w_tape q_t_w_tx0 q_t_w_tx1 q_t_w_waiting q_t_k q_t_errors q_t_sheets q_t_r q_t_th q_t_sp c_images w_people w_year w_z w_bytes w_waits x1 _ h) ⟨rfl, rfl, ⟨Nat.le_of_ble_eq_true rfl, Nat.le_of_ble_eq_true rfl⟩, Nat.zero_le _, Nat.zero_le _⟩ 5 rfl [0, 1] rfl (by decide) 0 6 rfl rfl rfl (Nat.le_of_ble_eq_true rfl) rfl dX6_personIs_2 (fun r_2 h => ?_)
  refine st_if_eq G 14 8 rfl dX6_personIs_5 rfl (fun c => ?_) (fun c => ?_)
  · have h := h.1 c
    refine st_iload_n G 15 rfl 2 rfl dX6_personIs_14 rfl ?_
    by_cases c0 : x2 = (0 : Int32)
    · have h := h.1 c0
      refine st_tableIn G 56 (off := 41) dX6_personIs_15 (by rw [c0]; decide) (by rw [c0]; decide) (by rw [c0]; rfl) rfl ?_
      refine st_aload_n G 57 rfl 0 rfl dX6_personIs_56 rfl ?_
      refine st_get G inX6 rfl 0 (by decide) wd_16 60 rfl 0 rfl rfl dX6_personIs_57 ?_
      refine st_iload_n G 61 rfl 1 rfl dX6_personIs_60 rfl ?_
      refine st_cVio G lk_X6_77 (c_X5_kindOf g.l g.D g.X q_t_w q_t_w_km q_t_w_father q_t_w_mother q_t_w_from q_t_w_spoons q_t_w_owed q_t_w_tape q_t_w_tx0 q_t_w_tx1 q_t_w_waiting w_people w_year w_z w_bytes w_waits w_km x1 _ h) ⟨rfl, rfl, ⟨Nat.le_of_ble_eq_true rfl, Nat.le_of_ble_eq_true rfl⟩, Nat.zero_le _, Nat.zero_le _⟩ 64 rfl [1, 2] rfl (by decide) 0 5 rfl rfl rfl (Nat.le_of_ble_eq_true rfl) rfl dX6_personIs_61 (fun r_61 h => ?_)
      exact R _ _ _ _ dX6_personIs_64 (Nat.le_of_ble_eq_true rfl) ⟨_, _, h, rfl⟩
    by_cases c1 : x2 = (1 : Int32)
    · have h := h.2.1 c1
      refine st_tableIn G 65 (off := 50) dX6_personIs_15 (by rw [c1]; decide) (by rw [c1]; decide) (by rw [c1]; rfl) rfl ?_
      refine st_aload_n G 66 rfl 0 rfl dX6_personIs_65 rfl ?_
      refine st_get G inX6 rfl 0 (by decide) wd_16 69 rfl 0 rfl rfl dX6_personIs_66 ?_
      refine st_iload_n G 70 rfl 1 rfl dX6_personIs_69 rfl ?_
      refine st_cVio G lk_X6_80 (c_X5_numberOf g.l g.D g.X q_t_w q_t_w_km q_t_w_father q_t_w_mother q_t_w_from q_t_w_spoons q_t_w_owed q_t_w_tape q_t_w_tx0 q_t_w_tx1 q_t_w_waiting w_people w_year w_z w_bytes w_waits w_km x1 _ h) ⟨rfl, rfl, ⟨Nat.le_of_ble_eq_true rfl, Nat.le_of_ble_eq_true rfl⟩, Nat.zero_le _, Nat.zero_le _⟩ 73 rfl [1, 2] rfl (by decide) 0 5 rfl rfl rfl (Nat.le_of_ble_eq_true rfl) rfl dX6_personIs_70 (fun r_70 h => ?_)
      exact R _ _ _ _ dX6_personIs_73 (Nat.le_of_ble_eq_true rfl) ⟨_, _, h, rfl⟩
    by_cases c2 : x2 = (2 : Int32)
    · have h := h.2.2.1 c2
      refine st_tableIn G 74 (off := 59) dX6_personIs_15 (by rw [c2]; decide) (by rw [c2]; decide) (by rw [c2]; rfl) rfl ?_
      refine st_aload_n G 75 rfl 0 rfl dX6_personIs_74 rfl ?_
      refine st_get G inX6 rfl 0 (by decide) wd_16 78 rfl 0 rfl rfl dX6_personIs_75 ?_
      refine st_get G inX5 rfl 2 (by decide) wd_187 81 rfl 1 rfl rfl dX6_personIs_78 ?_
      refine st_iload_n G 82 rfl 1 rfl dX6_personIs_81 rfl ?_
      obtain ⟨hin, h⟩ := h
      refine st_iald G 83 rfl 3 rfl hin dX6_personIs_82 ?_
      exact R _ _ _ _ dX6_personIs_83 (Nat.le_of_ble_eq_true rfl) ⟨_, _, h, rfl⟩
    by_cases c3 : x2 = (3 : Int32)
    · have h := h.2.2.2.1 c3
      refine st_tableIn G 84 (off := 69) dX6_personIs_15 (by rw [c3]; decide) (by rw [c3]; decide) (by rw [c3]; rfl) rfl ?_
      refine st_aload_n G 85 rfl 0 rfl dX6_personIs_84 rfl ?_
      refine st_get G inX6 rfl 0 (by decide) wd_16 88 rfl 0 rfl rfl dX6_personIs_85 ?_
      refine st_get G inX5 rfl 3 (by decide) wd_188 91 rfl 1 rfl rfl dX6_personIs_88 ?_
      refine st_iload_n G 92 rfl 1 rfl dX6_personIs_91 rfl ?_
      obtain ⟨hin, h⟩ := h
      refine st_iald G 93 rfl 4 rfl hin dX6_personIs_92 ?_
      exact R _ _ _ _ dX6_personIs_93 (Nat.le_of_ble_eq_true rfl) ⟨_, _, h, rfl⟩
    by_cases c4 : x2 = (4 : Int32)
    · have h := h.2.2.2.2.1 c4
      refine st_tableIn G 94 (off := 79) dX6_personIs_15 (by rw [c4]; decide) (by rw [c4]; decide) (by rw [c4]; rfl) rfl ?_
      refine st_aload_n G 95 rfl 0 rfl dX6_personIs_94 rfl ?_
      refine st_get G inX6 rfl 0 (by decide) wd_16 98 rfl 0 rfl rfl dX6_personIs_95 ?_
      refine st_get G inX5 rfl 5 (by decide) wd_189 101 rfl 1 rfl rfl dX6_personIs_98 ?_
      refine st_iload_n G 102 rfl 1 rfl dX6_personIs_101 rfl ?_
      refine st_cSio G lk_X6_92 (c_X6_together g.l g.D g.X q_t_w_spoons w_spoons x1 _ h) ⟨rfl, rfl, ⟨Nat.le_of_ble_eq_true rfl, Nat.le_of_ble_eq_true rfl⟩, Nat.zero_le _, Nat.zero_le _⟩ 105 rfl [6] rfl (by decide) rfl (Nat.le_of_ble_eq_true rfl) rfl dX6_personIs_102 (fun r_102 h => ?_)
      exact R _ _ _ _ dX6_personIs_105 (Nat.le_of_ble_eq_true rfl) ⟨_, _, h, rfl⟩
    by_cases c5 : x2 = (5 : Int32)
    · have h := h.2.2.2.2.2.1 c5
      refine st_tableIn G 106 (off := 91) dX6_personIs_15 (by rw [c5]; decide) (by rw [c5]; decide) (by rw [c5]; rfl) rfl ?_
      refine st_aload_n G 107 rfl 0 rfl dX6_personIs_106 rfl ?_
      refine st_get G inX6 rfl 0 (by decide) wd_16 110 rfl 0 rfl rfl dX6_personIs_107 ?_
      refine st_iload_n G 111 rfl 1 rfl dX6_personIs_110 rfl ?_
      refine st_cVi G lk_X6_96 (c_X5_worthOf g.l g.D g.X q_t_w q_t_w_km q_t_w_father q_t_w_mother q_t_w_from q_t_w_spoons q_t_w_owed q_t_w_tape q_t_w_tx0 q_t_w_tx0_parts q_t_w_tx0_stack q_t_w_tx1 q_t_w_tx1_parts q_t_w_tx1_stack q_t_w_waiting w_people w_year w_z w_bytes w_waits w_spoons w_tx_size w_tx_parts w_tx_stack x1 _ h) ⟨rfl, rfl, ⟨Nat.le_of_ble_eq_true rfl, Nat.le_of_ble_eq_true rfl⟩, Nat.zero_le _, Nat.zero_le _⟩ 114 rfl [1, 6, 7, 8, 9, 10, 11, 12] rfl (by decide) 0 5 rfl rfl rfl (Nat.le_of_ble_eq_true rfl) rfl dX6_personIs_111 (fun r_111 w hq => ?_)
      obtain ⟨w_tx_stack_111, h, rfl⟩ := hq
      refine st_wp (ws' := [(q_t, .inr (6, [.ref q_t_w, .ref q_t_k, .int c_images, .ref q_t_errors, .ref q_t_sheets, .ref q_t_r, .ref q_t_th, .ref q_t_sp])), (q_t_w, .inr (5, [.int w_people, .ref q_t_w_km, .ref q_t_w_father, .ref q_t_w_mother, .ref q_t_w_from, .ref q_t_w_spoons, .ref q_t_w_owed, .int w_year, .int w_z, .ref q_t_w_tape, .int w_bytes, .ref q_t_w_tx0, .ref q_t_w_tx1, .ref q_t_w_waiting, .int w_waits])), (q_t_w_km, .inl (g.X.cI, 8, .inl w_km)), (q_t_w_father, .inl (g.X.cI, 8, .inl w_father)), (q_t_w_mother, .inl (g.X.cI, 8, .inl w_mother)), (q_t_w_from, .inl (g.X.cI, 8, .inl w_from)), (q_t_w_spoons, .inl (g.X.cI, 40, .inl w_spoons)), (q_t_w_tx0, .inr (3, [.ref q_t_w_tx0_parts, .ref q_t_w_tx0_stack, .int (w_tx_size 0)])), (q_t_w_tx0_parts, .inl (g.X.cI, 60, .inl (w_tx_parts 0))), (q_t_w_tx0_stack, .inl (g.X.cI, 60, .inl (w_tx_stack_111 0))), (q_t_w_tx1, .inr (3, [.ref q_t_w_tx1_parts, .ref q_t_w_tx1_stack, .int (w_tx_size 1)])), (q_t_w_tx1_parts, .inl (g.X.cI, 60, .inl (w_tx_parts 1))), (q_t_w_tx1_stack, .inl (g.X.cI, 60, .inl (w_tx_stack_111 1))), (q_t_errors, .inl (g.X.cI, 7, .inl c_errors))]) 14 [0, 2, 3, 4, 5, 13] (by decide) rfl rfl (by rfl) [(q_t, .inr (6, [.ref q_t_w, .ref q_t_k, .int c_images, .ref q_t_errors, .ref q_t_sheets, .ref q_t_r, .ref q_t_th, .ref q_t_sp])), (q_t_w_km, .inl (g.X.cI, 8, .inl w_km)), (q_t_w_father, .inl (g.X.cI, 8, .inl w_father)), (q_t_w_mother, .inl (g.X.cI, 8, .inl w_mother)), (q_t_w_from, .inl (g.X.cI, 8, .inl w_from)), (q_t_errors, .inl (g.X.cI, 7, .inl c_errors))] (by rfl) rfl ?_
      exact R _ _ _ _ dX6_personIs_114 (Nat.le_of_ble_eq_true rfl) ⟨_, _, h, rfl⟩
    by_cases c6 : x2 = (6 : Int32)
    · have h := h.2.2.2.2.2.2.1 c6
      refine st_tableIn G 115 (off := 100) dX6_personIs_15 (by rw [c6]; decide) (by rw [c6]; decide) (by rw [c6]; rfl) rfl ?_
      refine st_aload_n G 116 rfl 0 rfl dX6_personIs_115 rfl ?_
      refine st_get G inX6 rfl 0 (by decide) wd_16 119 rfl 0 rfl rfl dX6_personIs_116 ?_
      refine st_get G inX5 rfl 4 (by decide) wd_190 122 rfl 1 rfl rfl dX6_personIs_119 ?_
      refine st_iload_n G 123 rfl 1 rfl dX6_personIs_122 rfl ?_
      obtain ⟨hin, h⟩ := h
      refine st_iald G 124 rfl 5 rfl hin dX6_personIs_123 ?_
      exact R _ _ _ _ dX6_personIs_124 (Nat.le_of_ble_eq_true rfl) ⟨_, _, h, rfl⟩
    have h := h.2.2.2.2.2.2.2 c0 c1 c2 c3 c4 c5 c6
    refine st_tableOut G 125 dX6_personIs_15 (by have w0 := ne_toInt (n := 0) c0; have w1 := ne_toInt (n := 1) c1; have w2 := ne_toInt (n := 2) c2; have w3 := ne_toInt (n := 3) c3; have w4 := ne_toInt (n := 4) c4; have w5 := ne_toInt (n := 5) c5; have w6 := ne_toInt (n := 6) c6; omega) rfl ?_
    refine st_aload_n G 126 rfl 0 rfl dX6_personIs_125 rfl ?_
    refine st_iconst G 127 rfl (1 : Int32) (by decide) dX6_personIs_126 ?_
    refine st_cVi G lk_X6_55 (c_X6_error g.l g.D g.X q_t q_t_w q_t_k q_t_errors q_t_sheets q_t_r q_t_th q_t_sp c_images c_errors (1 : Int32) _ h) ⟨rfl, rfl, ⟨Nat.le_of_ble_eq_true rfl, Nat.le_of_ble_eq_true rfl⟩, Nat.zero_le _, Nat.zero_le _⟩ 130 rfl [0, 13] rfl (by decide) 0 6 rfl rfl rfl (Nat.le_of_ble_eq_true rfl) rfl dX6_personIs_127 (fun r_127 w hq => ?_)
    obtain ⟨c_errors_127, h, rfl⟩ := hq
    refine st_wp (ws' := [(q_t, .inr (6, [.ref q_t_w, .ref q_t_k, .int c_images, .ref q_t_errors, .ref q_t_sheets, .ref q_t_r, .ref q_t_th, .ref q_t_sp])), (q_t_w, .inr (5, [.int w_people, .ref q_t_w_km, .ref q_t_w_father, .ref q_t_w_mother, .ref q_t_w_from, .ref q_t_w_spoons, .ref q_t_w_owed, .int w_year, .int w_z, .ref q_t_w_tape, .int w_bytes, .ref q_t_w_tx0, .ref q_t_w_tx1, .ref q_t_w_waiting, .int w_waits])), (q_t_w_km, .inl (g.X.cI, 8, .inl w_km)), (q_t_w_father, .inl (g.X.cI, 8, .inl w_father)), (q_t_w_mother, .inl (g.X.cI, 8, .inl w_mother)), (q_t_w_from, .inl (g.X.cI, 8, .inl w_from)), (q_t_w_spoons, .inl (g.X.cI, 40, .inl w_spoons)), (q_t_w_tx0, .inr (3, [.ref q_t_w_tx0_parts, .ref q_t_w_tx0_stack, .int (w_tx_size 0)])), (q_t_w_tx0_parts, .inl (g.X.cI, 60, .inl (w_tx_parts 0))), (q_t_w_tx0_stack, .inl (g.X.cI, 60, .inl (w_tx_stack 0))), (q_t_w_tx1, .inr (3, [.ref q_t_w_tx1_parts, .ref q_t_w_tx1_stack, .int (w_tx_size 1)])), (q_t_w_tx1_parts, .inl (g.X.cI, 60, .inl (w_tx_parts 1))), (q_t_w_tx1_stack, .inl (g.X.cI, 60, .inl (w_tx_stack 1))), (q_t_errors, .inl (g.X.cI, 7, .inl c_errors_127))]) 14 [1, 2, 3, 4, 5, 6, 7, 8, 9, 10, 11, 12] (by decide) rfl rfl (by rfl) [(q_t_w, .inr (5, [.int w_people, .ref q_t_w_km, .ref q_t_w_father, .ref q_t_w_mother, .ref q_t_w_from, .ref q_t_w_spoons, .ref q_t_w_owed, .int w_year, .int w_z, .ref q_t_w_tape, .int w_bytes, .ref q_t_w_tx0, .ref q_t_w_tx1, .ref q_t_w_waiting, .int w_waits])), (q_t_w_km, .inl (g.X.cI, 8, .inl w_km)), (q_t_w_father, .inl (g.X.cI, 8, .inl w_father)), (q_t_w_mother, .inl (g.X.cI, 8, .inl w_mother)), (q_t_w_from, .inl (g.X.cI, 8, .inl w_from)), (q_t_w_spoons, .inl (g.X.cI, 40, .inl w_spoons)), (q_t_w_tx0, .inr (3, [.ref q_t_w_tx0_parts, .ref q_t_w_tx0_stack, .int (w_tx_size 0)])), (q_t_w_tx0_parts, .inl (g.X.cI, 60, .inl (w_tx_parts 0))), (q_t_w_tx0_stack, .inl (g.X.cI, 60, .inl (w_tx_stack 0))), (q_t_w_tx1, .inr (3, [.ref q_t_w_tx1_parts, .ref q_t_w_tx1_stack, .int (w_tx_size 1)])), (q_t_w_tx1_parts, .inl (g.X.cI, 60, .inl (w_tx_parts 1))), (q_t_w_tx1_stack, .inl (g.X.cI, 60, .inl (w_tx_stack 1)))] (by rfl) rfl ?_
    exact R _ _ _ _ dX6_personIs_130 (Nat.le_of_ble_eq_true rfl) ⟨_, _, h, rfl⟩
  have h := h.2 c
  refine st_aload_n G 9 rfl 0 rfl dX6_personIs_8 rfl ?_
  refine st_iconst G 10 rfl (1 : Int32) (by decide) dX6_personIs_9 ?_
  refine st_cVi G lk_X6_55 (c_X6_error g.l g.D g.X q_t q_t_w q_t_k q_t_errors q_t_sheets q_t_r q_t_th q_t_sp c_images c_errors (1 : Int32) _ h) ⟨rfl, rfl, ⟨Nat.le_of_ble_eq_true rfl, Nat.le_of_ble_eq_true rfl⟩, Nat.zero_le _, Nat.zero_le _⟩ 13 rfl [0, 13] rfl (by decide) 0 6 rfl rfl rfl (Nat.le_of_ble_eq_true rfl) rfl dX6_personIs_10 (fun r_10 w hq => ?_)
  obtain ⟨c_errors_10, h, rfl⟩ := hq
  refine st_wp (ws' := [(q_t, .inr (6, [.ref q_t_w, .ref q_t_k, .int c_images, .ref q_t_errors, .ref q_t_sheets, .ref q_t_r, .ref q_t_th, .ref q_t_sp])), (q_t_w, .inr (5, [.int w_people, .ref q_t_w_km, .ref q_t_w_father, .ref q_t_w_mother, .ref q_t_w_from, .ref q_t_w_spoons, .ref q_t_w_owed, .int w_year, .int w_z, .ref q_t_w_tape, .int w_bytes, .ref q_t_w_tx0, .ref q_t_w_tx1, .ref q_t_w_waiting, .int w_waits])), (q_t_w_km, .inl (g.X.cI, 8, .inl w_km)), (q_t_w_father, .inl (g.X.cI, 8, .inl w_father)), (q_t_w_mother, .inl (g.X.cI, 8, .inl w_mother)), (q_t_w_from, .inl (g.X.cI, 8, .inl w_from)), (q_t_w_spoons, .inl (g.X.cI, 40, .inl w_spoons)), (q_t_w_tx0, .inr (3, [.ref q_t_w_tx0_parts, .ref q_t_w_tx0_stack, .int (w_tx_size 0)])), (q_t_w_tx0_parts, .inl (g.X.cI, 60, .inl (w_tx_parts 0))), (q_t_w_tx0_stack, .inl (g.X.cI, 60, .inl (w_tx_stack 0))), (q_t_w_tx1, .inr (3, [.ref q_t_w_tx1_parts, .ref q_t_w_tx1_stack, .int (w_tx_size 1)])), (q_t_w_tx1_parts, .inl (g.X.cI, 60, .inl (w_tx_parts 1))), (q_t_w_tx1_stack, .inl (g.X.cI, 60, .inl (w_tx_stack 1))), (q_t_errors, .inl (g.X.cI, 7, .inl c_errors_10))]) 14 [1, 2, 3, 4, 5, 6, 7, 8, 9, 10, 11, 12] (by decide) rfl rfl (by rfl) [(q_t_w, .inr (5, [.int w_people, .ref q_t_w_km, .ref q_t_w_father, .ref q_t_w_mother, .ref q_t_w_from, .ref q_t_w_spoons, .ref q_t_w_owed, .int w_year, .int w_z, .ref q_t_w_tape, .int w_bytes, .ref q_t_w_tx0, .ref q_t_w_tx1, .ref q_t_w_waiting, .int w_waits])), (q_t_w_km, .inl (g.X.cI, 8, .inl w_km)), (q_t_w_father, .inl (g.X.cI, 8, .inl w_father)), (q_t_w_mother, .inl (g.X.cI, 8, .inl w_mother)), (q_t_w_from, .inl (g.X.cI, 8, .inl w_from)), (q_t_w_spoons, .inl (g.X.cI, 40, .inl w_spoons)), (q_t_w_tx0, .inr (3, [.ref q_t_w_tx0_parts, .ref q_t_w_tx0_stack, .int (w_tx_size 0)])), (q_t_w_tx0_parts, .inl (g.X.cI, 60, .inl (w_tx_parts 0))), (q_t_w_tx0_stack, .inl (g.X.cI, 60, .inl (w_tx_stack 0))), (q_t_w_tx1, .inr (3, [.ref q_t_w_tx1_parts, .ref q_t_w_tx1_stack, .int (w_tx_size 1)])), (q_t_w_tx1_parts, .inl (g.X.cI, 60, .inl (w_tx_parts 1))), (q_t_w_tx1_stack, .inl (g.X.cI, 60, .inl (w_tx_stack 1)))] (by rfl) rfl ?_
  exact R _ _ _ _ dX6_personIs_13 (Nat.le_of_ble_eq_true rfl) ⟨_, _, h, rfl⟩
set_option maxRecDepth 100000 in
set_option maxHeartbeats 4000000 in
theorem c_X6_personIs (l : Launch) (D : va_G) (X : XT) (q_t q_t_w q_t_w_km q_t_w_father q_t_w_mother q_t_w_from q_t_w_spoons q_t_w_owed q_t_w_tape q_t_w_tx0 q_t_w_tx0_parts q_t_w_tx0_stack q_t_w_tx1 q_t_w_tx1_parts q_t_w_tx1_stack q_t_w_waiting q_t_k q_t_errors q_t_sheets q_t_r q_t_th q_t_sp : Nat) (c_images : Int32) (w_people : Int32) (w_year : Int32) (w_z : Int32) (w_bytes : Int32) (w_waits : Int32) (w_km : Nat → Int32) (w_father : Nat → Int32) (w_mother : Nat → Int32) (w_from : Nat → Int32) (w_spoons : Nat → Int32) (w_tx_size : Nat → Int32) (w_tx_parts : Nat → Nat → Int32) (w_tx_stack : Nat → Nat → Int32) (c_errors : Nat → Int32) (x1 : Int32) (x2 : Int32) (Q : Int32 → (Nat → Nat → Int32) → (Nat → Int32) → Prop) (h : wp_X6_personIs x1 x2 w_people w_km w_father w_mother w_from w_spoons w_tx_size w_tx_parts w_tx_stack c_errors Q) : CTi l D X yX6_personIs cX6_personIs 3 .int rm_X6_personIs [.ref q_t, .int x1, .int x2] [(q_t, .inr (6, [.ref q_t_w, .ref q_t_k, .int c_images, .ref q_t_errors, .ref q_t_sheets, .ref q_t_r, .ref q_t_th, .ref q_t_sp])), (q_t_w, .inr (5, [.int w_people, .ref q_t_w_km, .ref q_t_w_father, .ref q_t_w_mother, .ref q_t_w_from, .ref q_t_w_spoons, .ref q_t_w_owed, .int w_year, .int w_z, .ref q_t_w_tape, .int w_bytes, .ref q_t_w_tx0, .ref q_t_w_tx1, .ref q_t_w_waiting, .int w_waits])), (q_t_w_km, .inl (X.cI, 8, .inl w_km)), (q_t_w_father, .inl (X.cI, 8, .inl w_father)), (q_t_w_mother, .inl (X.cI, 8, .inl w_mother)), (q_t_w_from, .inl (X.cI, 8, .inl w_from)), (q_t_w_spoons, .inl (X.cI, 40, .inl w_spoons)), (q_t_w_tx0, .inr (3, [.ref q_t_w_tx0_parts, .ref q_t_w_tx0_stack, .int (w_tx_size 0)])), (q_t_w_tx0_parts, .inl (X.cI, 60, .inl (w_tx_parts 0))), (q_t_w_tx0_stack, .inl (X.cI, 60, .inl (w_tx_stack 0))), (q_t_w_tx1, .inr (3, [.ref q_t_w_tx1_parts, .ref q_t_w_tx1_stack, .int (w_tx_size 1)])), (q_t_w_tx1_parts, .inl (X.cI, 60, .inl (w_tx_parts 1))), (q_t_w_tx1_stack, .inl (X.cI, 60, .inl (w_tx_stack 1))), (q_t_errors, .inl (X.cI, 7, .inl c_errors))] (fun (r : Int32) w => ∃ (w_tx_stack' : Nat → Nat → Int32) (c_errors' : Nat → Int32), Q r w_tx_stack' c_errors' ∧ w = [(q_t, .inr (6, [.ref q_t_w, .ref q_t_k, .int c_images, .ref q_t_errors, .ref q_t_sheets, .ref q_t_r, .ref q_t_th, .ref q_t_sp])), (q_t_w, .inr (5, [.int w_people, .ref q_t_w_km, .ref q_t_w_father, .ref q_t_w_mother, .ref q_t_w_from, .ref q_t_w_spoons, .ref q_t_w_owed, .int w_year, .int w_z, .ref q_t_w_tape, .int w_bytes, .ref q_t_w_tx0, .ref q_t_w_tx1, .ref q_t_w_waiting, .int w_waits])), (q_t_w_km, .inl (X.cI, 8, .inl w_km)), (q_t_w_father, .inl (X.cI, 8, .inl w_father)), (q_t_w_mother, .inl (X.cI, 8, .inl w_mother)), (q_t_w_from, .inl (X.cI, 8, .inl w_from)), (q_t_w_spoons, .inl (X.cI, 40, .inl w_spoons)), (q_t_w_tx0, .inr (3, [.ref q_t_w_tx0_parts, .ref q_t_w_tx0_stack, .int (w_tx_size 0)])), (q_t_w_tx0_parts, .inl (X.cI, 60, .inl (w_tx_parts 0))), (q_t_w_tx0_stack, .inl (X.cI, 60, .inl (w_tx_stack' 0))), (q_t_w_tx1, .inr (3, [.ref q_t_w_tx1_parts, .ref q_t_w_tx1_stack, .int (w_tx_size 1)])), (q_t_w_tx1_parts, .inl (X.cI, 60, .inl (w_tx_parts 1))), (q_t_w_tx1_stack, .inl (X.cI, 60, .inl (w_tx_stack' 1))), (q_t_errors, .inl (X.cI, 7, .inl c_errors'))]) :=
  ct_i (by decide) (Nat.le_of_ble_eq_true rfl) (fun g hl hD hX G R => by subst hl; subst hD; subst hX; exact b_X6_personIs_e G R h)
set_option maxRecDepth 100000 in
set_option maxHeartbeats 4000000 in
theorem b_X6_become_e {g : GT} (G : GOOD g RX6 cX6_become 4 rm_X6_become) {q_t q_t_w q_t_w_km q_t_w_father q_t_w_mother q_t_w_from q_t_w_spoons q_t_w_owed q_t_w_tape q_t_w_tx0 q_t_w_tx1 q_t_w_waiting q_t_k q_t_errors q_t_sheets q_t_r q_t_th q_t_sp : Nat} {c_images : Int32} {w_people : Int32} {w_year : Int32} {w_z : Int32} {w_bytes : Int32} {w_waits : Int32} {w_km : Nat → Int32} {c_errors : Nat → Int32} {x1 : Int32} {x2 : Int32} {Q : Int32 → (Nat → Int32) → (Nat → Int32) → Prop} (R : RETi g cX6_become 4 (fun (r : Int32) w => ∃ (w_km' : Nat → Int32) (c_errors' : Nat → Int32), Q r w_km' c_errors' ∧ w = [(q_t, .inr (6, [.ref q_t_w, .ref q_t_k, .int c_images, .ref q_t_errors, .ref q_t_sheets, .ref q_t_r, .ref q_t_th, .ref q_t_sp])), (q_t_w, .inr (5, [.int w_people, .ref q_t_w_km, .ref q_t_w_father, .ref q_t_w_mother, .ref q_t_w_from, .ref q_t_w_spoons, .ref q_t_w_owed, .int w_year, .int w_z, .ref q_t_w_tape, .int w_bytes, .ref q_t_w_tx0, .ref q_t_w_tx1, .ref q_t_w_waiting, .int w_waits])), (q_t_w_km, .inl (g.X.cI, 8, .inl w_km')), (q_t_errors, .inl (g.X.cI, 7, .inl c_errors'))])) (h : wp_X6_become x1 x2 w_people w_km c_errors Q) : ST g 0 0 0 [(0, .ref q_t), (1, .int x1), (2, .int x2)] [] [(q_t, .inr (6, [.ref q_t_w, .ref q_t_k, .int c_images, .ref q_t_errors, .ref q_t_sheets, .ref q_t_r, .ref q_t_th, .ref q_t_sp])), (q_t_w, .inr (5, [.int w_people, .ref q_t_w_km, .ref q_t_w_father, .ref q_t_w_mother, .ref q_t_w_from, .ref q_t_w_spoons, .ref q_t_w_owed, .int w_year, .int w_z, .ref q_t_w_tape, .int w_bytes, .ref q_t_w_tx0, .ref q_t_w_tx1, .ref q_t_w_waiting, .int w_waits])), (q_t_w_km, .inl (g.X.cI, 8, .inl w_km)), (q_t_errors, .inl (g.X.cI, 7, .inl c_errors))] := by
  unfold wp_X6_become at h
  refine st_aload_n G 1 rfl 0 rfl dX6_become_0 rfl ?_
  refine st_iload_n G 2 rfl 1 rfl dX6_become_1 rfl ?_
  refine st_cVio G lk_X6_74 (c_X6_notOne g.l g.D g.X q_t q_t_w q_t_w_km q_t_w_father q_t_w_mother q_t_w_from q_t_w_spoons q_t_w_owed q_t_w_tape q_t_w_tx0 q_t_w_tx1 q_t_w_waiting q_t_k q_t_errors q_t_sheets q_t_r q_t_th q_t_sp c_images w_people w_year w_z w_bytes w_waits x1 _ h) ⟨rfl, rfl, ⟨Nat.le_of_ble_eq_true rfl, Nat.le_of_ble_eq_true rfl⟩, Nat.zero_le _, Nat.zero_le _⟩ 5 rfl [0, 1] rfl (by decide) 0 6 rfl rfl rfl (Nat.le_of_ble_eq_true rfl) rfl dX6_become_2 (fun r_2 h => ?_)
  refine st_if_ne G 15 8 rfl dX6_become_5 rfl (fun c => ?_) (fun c => ?_)
  · have h := h.1 c
    refine st_aload_n G 16 rfl 0 rfl dX6_become_15 rfl ?_
    refine st_iconst G 17 rfl (1 : Int32) (by decide) dX6_become_16 ?_
    refine st_cVi G lk_X6_55 (c_X6_error g.l g.D g.X q_t q_t_w q_t_k q_t_errors q_t_sheets q_t_r q_t_th q_t_sp c_images c_errors (1 : Int32) _ h) ⟨rfl, rfl, ⟨Nat.le_of_ble_eq_true rfl, Nat.le_of_ble_eq_true rfl⟩, Nat.zero_le _, Nat.zero_le _⟩ 20 rfl [0, 3] rfl (by decide) 0 6 rfl rfl rfl (Nat.le_of_ble_eq_true rfl) rfl dX6_become_17 (fun r_17 w hq => ?_)
    obtain ⟨c_errors_17, h, rfl⟩ := hq
    refine st_wp (ws' := [(q_t, .inr (6, [.ref q_t_w, .ref q_t_k, .int c_images, .ref q_t_errors, .ref q_t_sheets, .ref q_t_r, .ref q_t_th, .ref q_t_sp])), (q_t_w, .inr (5, [.int w_people, .ref q_t_w_km, .ref q_t_w_father, .ref q_t_w_mother, .ref q_t_w_from, .ref q_t_w_spoons, .ref q_t_w_owed, .int w_year, .int w_z, .ref q_t_w_tape, .int w_bytes, .ref q_t_w_tx0, .ref q_t_w_tx1, .ref q_t_w_waiting, .int w_waits])), (q_t_w_km, .inl (g.X.cI, 8, .inl w_km)), (q_t_errors, .inl (g.X.cI, 7, .inl c_errors_17))]) 4 [1, 2] (by decide) rfl rfl (by rfl) [(q_t_w, .inr (5, [.int w_people, .ref q_t_w_km, .ref q_t_w_father, .ref q_t_w_mother, .ref q_t_w_from, .ref q_t_w_spoons, .ref q_t_w_owed, .int w_year, .int w_z, .ref q_t_w_tape, .int w_bytes, .ref q_t_w_tx0, .ref q_t_w_tx1, .ref q_t_w_waiting, .int w_waits])), (q_t_w_km, .inl (g.X.cI, 8, .inl w_km))] (by rfl) rfl ?_
    exact R _ _ _ _ dX6_become_20 (Nat.le_of_ble_eq_true rfl) ⟨_, _, h, rfl⟩
  have h := h.2 c
  refine st_iload_n G 9 rfl 2 rfl dX6_become_8 rfl ?_
  refine st_cSio G lk_X6_51 (c_X6_notKm g.l g.D g.X x2 _ h) ⟨rfl, rfl, ⟨Nat.le_of_ble_eq_true rfl, Nat.le_of_ble_eq_true rfl⟩, Nat.zero_le _, Nat.zero_le _⟩ 12 rfl [] rfl (by decide) rfl (Nat.le_of_ble_eq_true rfl) rfl dX6_become_9 (fun r_9 h => ?_)
  refine st_if_eq G 21 15 rfl dX6_become_12 rfl (fun c => ?_) (fun c => ?_)
  · have h := h.1 c
    refine st_aload_n G 22 rfl 0 rfl dX6_become_21 rfl ?_
    refine st_get G inX6 rfl 0 (by decide) wd_16 25 rfl 0 rfl rfl dX6_become_22 ?_
    refine st_iload_n G 26 rfl 1 rfl dX6_become_25 rfl ?_
    refine st_cVio G lk_X6_77 (c_X5_kindOf g.l g.D g.X q_t_w q_t_w_km q_t_w_father q_t_w_mother q_t_w_from q_t_w_spoons q_t_w_owed q_t_w_tape q_t_w_tx0 q_t_w_tx1 q_t_w_waiting w_people w_year w_z w_bytes w_waits w_km x1 _ h) ⟨rfl, rfl, ⟨Nat.le_of_ble_eq_true rfl, Nat.le_of_ble_eq_true rfl⟩, Nat.zero_le _, Nat.zero_le _⟩ 29 rfl [1, 2] rfl (by decide) 0 5 rfl rfl rfl (Nat.le_of_ble_eq_true rfl) rfl dX6_become_26 (fun r_26 h => ?_)
    refine st_istore_n G 30 rfl [(3, .int r_26), (0, .ref q_t), (1, .int x1), (2, .int x2)] dX6_become_29 rfl (by decide) rfl ?_
    refine st_aload_n G 31 rfl 1 rfl dX6_become_30 rfl ?_
    refine st_get G inX6 rfl 0 (by decide) wd_16 34 rfl 0 rfl rfl dX6_become_31 ?_
    refine st_get G inX5 rfl 1 (by decide) wd_283 37 rfl 1 rfl rfl dX6_become_34 ?_
    refine st_iload_n G 38 rfl 2 rfl dX6_become_37 rfl ?_
    refine st_iload_n G 39 rfl 3 rfl dX6_become_38 rfl ?_
    obtain ⟨hin, h⟩ := h
    obtain ⟨w_km_39, ew_km_39⟩ : ∃ y : Nat → Int32, y = upd w_km x1.toNatClampNeg x2 := ⟨_, rfl⟩
    have h := h w_km_39 ew_km_39
    refine st_iast G [(q_t, .inr (6, [.ref q_t_w, .ref q_t_k, .int c_images, .ref q_t_errors, .ref q_t_sheets, .ref q_t_r, .ref q_t_th, .ref q_t_sp])), (q_t_w, .inr (5, [.int w_people, .ref q_t_w_km, .ref q_t_w_father, .ref q_t_w_mother, .ref q_t_w_from, .ref q_t_w_spoons, .ref q_t_w_owed, .int w_year, .int w_z, .ref q_t_w_tape, .int w_bytes, .ref q_t_w_tx0, .ref q_t_w_tx1, .ref q_t_w_waiting, .int w_waits])), (q_t_w_km, .inl (g.X.cI, 8, .inl w_km_39)), (q_t_errors, .inl (g.X.cI, 7, .inl c_errors))] 40 rfl 2 rfl hin (by subst ew_km_39; rfl) dX6_become_39 ?_
    refine st_iload_n G 41 rfl 0 rfl dX6_become_40 rfl ?_
    exact R _ _ _ _ dX6_become_41 (Nat.le_of_ble_eq_true rfl) ⟨_, _, h, rfl⟩
  have h := h.2 c
  refine st_aload_n G 16 rfl 0 rfl dX6_become_15 rfl ?_
  refine st_iconst G 17 rfl (1 : Int32) (by decide) dX6_become_16 ?_
  refine st_cVi G lk_X6_55 (c_X6_error g.l g.D g.X q_t q_t_w q_t_k q_t_errors q_t_sheets q_t_r q_t_th q_t_sp c_images c_errors (1 : Int32) _ h) ⟨rfl, rfl, ⟨Nat.le_of_ble_eq_true rfl, Nat.le_of_ble_eq_true rfl⟩, Nat.zero_le _, Nat.zero_le _⟩ 20 rfl [0, 3] rfl (by decide) 0 6 rfl rfl rfl (Nat.le_of_ble_eq_true rfl) rfl dX6_become_17 (fun r_17 w hq => ?_)
  obtain ⟨c_errors_17, h, rfl⟩ := hq
  refine st_wp (ws' := [(q_t, .inr (6, [.ref q_t_w, .ref q_t_k, .int c_images, .ref q_t_errors, .ref q_t_sheets, .ref q_t_r, .ref q_t_th, .ref q_t_sp])), (q_t_w, .inr (5, [.int w_people, .ref q_t_w_km, .ref q_t_w_father, .ref q_t_w_mother, .ref q_t_w_from, .ref q_t_w_spoons, .ref q_t_w_owed, .int w_year, .int w_z, .ref q_t_w_tape, .int w_bytes, .ref q_t_w_tx0, .ref q_t_w_tx1, .ref q_t_w_waiting, .int w_waits])), (q_t_w_km, .inl (g.X.cI, 8, .inl w_km)), (q_t_errors, .inl (g.X.cI, 7, .inl c_errors_17))]) 4 [1, 2] (by decide) rfl rfl (by rfl) [(q_t_w, .inr (5, [.int w_people, .ref q_t_w_km, .ref q_t_w_father, .ref q_t_w_mother, .ref q_t_w_from, .ref q_t_w_spoons, .ref q_t_w_owed, .int w_year, .int w_z, .ref q_t_w_tape, .int w_bytes, .ref q_t_w_tx0, .ref q_t_w_tx1, .ref q_t_w_waiting, .int w_waits])), (q_t_w_km, .inl (g.X.cI, 8, .inl w_km))] (by rfl) rfl ?_
  exact R _ _ _ _ dX6_become_20 (Nat.le_of_ble_eq_true rfl) ⟨_, _, h, rfl⟩
set_option maxRecDepth 100000 in
set_option maxHeartbeats 4000000 in
theorem c_X6_become (l : Launch) (D : va_G) (X : XT) (q_t q_t_w q_t_w_km q_t_w_father q_t_w_mother q_t_w_from q_t_w_spoons q_t_w_owed q_t_w_tape q_t_w_tx0 q_t_w_tx1 q_t_w_waiting q_t_k q_t_errors q_t_sheets q_t_r q_t_th q_t_sp : Nat) (c_images : Int32) (w_people : Int32) (w_year : Int32) (w_z : Int32) (w_bytes : Int32) (w_waits : Int32) (w_km : Nat → Int32) (c_errors : Nat → Int32) (x1 : Int32) (x2 : Int32) (Q : Int32 → (Nat → Int32) → (Nat → Int32) → Prop) (h : wp_X6_become x1 x2 w_people w_km c_errors Q) : CTi l D X yX6_become cX6_become 4 .int rm_X6_become [.ref q_t, .int x1, .int x2] [(q_t, .inr (6, [.ref q_t_w, .ref q_t_k, .int c_images, .ref q_t_errors, .ref q_t_sheets, .ref q_t_r, .ref q_t_th, .ref q_t_sp])), (q_t_w, .inr (5, [.int w_people, .ref q_t_w_km, .ref q_t_w_father, .ref q_t_w_mother, .ref q_t_w_from, .ref q_t_w_spoons, .ref q_t_w_owed, .int w_year, .int w_z, .ref q_t_w_tape, .int w_bytes, .ref q_t_w_tx0, .ref q_t_w_tx1, .ref q_t_w_waiting, .int w_waits])), (q_t_w_km, .inl (X.cI, 8, .inl w_km)), (q_t_errors, .inl (X.cI, 7, .inl c_errors))] (fun (r : Int32) w => ∃ (w_km' : Nat → Int32) (c_errors' : Nat → Int32), Q r w_km' c_errors' ∧ w = [(q_t, .inr (6, [.ref q_t_w, .ref q_t_k, .int c_images, .ref q_t_errors, .ref q_t_sheets, .ref q_t_r, .ref q_t_th, .ref q_t_sp])), (q_t_w, .inr (5, [.int w_people, .ref q_t_w_km, .ref q_t_w_father, .ref q_t_w_mother, .ref q_t_w_from, .ref q_t_w_spoons, .ref q_t_w_owed, .int w_year, .int w_z, .ref q_t_w_tape, .int w_bytes, .ref q_t_w_tx0, .ref q_t_w_tx1, .ref q_t_w_waiting, .int w_waits])), (q_t_w_km, .inl (X.cI, 8, .inl w_km')), (q_t_errors, .inl (X.cI, 7, .inl c_errors'))]) :=
  ct_i (by decide) (Nat.le_of_ble_eq_true rfl) (fun g hl hD hX G R => by subst hl; subst hD; subst hX; exact b_X6_become_e G R h)
set_option maxRecDepth 100000 in
set_option maxHeartbeats 4000000 in
theorem b_X6_isUnder_4 {g : GT} (G : GOOD g RX6 cX6_isUnder 4 rm_X6_isUnder) {Q : Int32 → Prop} (R : RETz g cX6_isUnder 0 (fun (r : Int32) w => (Q r) ∧ w = [])) : ∀ (n : Nat) (x1 : Int32) (x2 : Int32) (x3 : Int32), wp_X6_isUnder_b4 Q n x1 x2 x3 → ST g 0 0 4 [(1, .int x1), (2, .int x2), (3, .int x3)] [] [] := by
  intro n
  induction n with
  | zero => intro x1 x2 x3 h; exact False.elim h
  | succ n hK4 =>
    intro x1 x2 x3 h
    unfold wp_X6_isUnder_b4 at h
    refine st_iload_n G 5 rfl 2 rfl dX6_isUnder_4 rfl ?_
    refine st_bipush G 7 rfl (7 : Int32) (by decide) dX6_isUnder_5 ?_
    refine st_icmp_ge G 33 10 rfl dX6_isUnder_7 rfl (fun c => ?_) (fun c => ?_)
    · have h := h.1 c
      refine st_iconst G 34 rfl (0 : Int32) (by decide) dX6_isUnder_33 ?_
      exact R _ _ _ _ dX6_isUnder_34 (Nat.le_of_ble_eq_true rfl) rfl ⟨h, rfl⟩
    have h := h.2 c
    refine st_iload_n G 11 rfl 1 rfl dX6_isUnder_10 rfl ?_
    refine st_if_lt G 33 14 rfl dX6_isUnder_11 rfl (fun c => ?_) (fun c => ?_)
    · have h := h.1 c
      refine st_iconst G 34 rfl (0 : Int32) (by decide) dX6_isUnder_33 ?_
      exact R _ _ _ _ dX6_isUnder_34 (Nat.le_of_ble_eq_true rfl) rfl ⟨h, rfl⟩
    have h := h.2 c
    refine st_iload_n G 15 rfl 1 rfl dX6_isUnder_14 rfl ?_
    refine st_iload_n G 16 rfl 0 rfl dX6_isUnder_15 rfl ?_
    refine st_icmp_ne G 21 19 rfl dX6_isUnder_16 rfl (fun c => ?_) (fun c => ?_)
    · have h := h.1 c
      refine st_getA G wd_299 24 rfl dX6_isUnder_21 ?_
      refine st_iload_n G 25 rfl 1 rfl dX6_isUnder_24 rfl ?_
      obtain ⟨hin, h⟩ := h
      refine st_aldA G 26 rfl hin dX6_isUnder_25 ?_
      refine st_topi (fun x2_26 ex2_26 => ?_)
      have h := h x2_26 ex2_26
      refine st_istore_n G 27 rfl [(2, .int x2_26), (1, .int x1), (3, .int x3)] dX6_isUnder_26 rfl (by decide) rfl ?_
      obtain ⟨x3_27, ex3_27⟩ : ∃ y : Int32, y = (x3 + (1 : Int32)) := ⟨_, rfl⟩
      have h := h x3_27 ex3_27
      refine st_iinc G 30 rfl [(3, .int x3_27), (2, .int x2_26), (1, .int x1)] x3_27 2 rfl (by rw [ex3_27]; rfl) dX6_isUnder_27 (by decide) rfl ?_
      refine st_goto G 4 dX6_isUnder_30 rfl ?_
      refine st_L (L' := [(1, .int x1), (2, .int x2_26), (3, .int x3_27)]) [2, 1, 0] rfl ?_
      exact hK4 _ _ _ h
    have h := h.2 c
    refine st_iconst G 20 rfl (1 : Int32) (by decide) dX6_isUnder_19 ?_
    exact R _ _ _ _ dX6_isUnder_20 (Nat.le_of_ble_eq_true rfl) rfl ⟨h, rfl⟩
set_option maxRecDepth 100000 in
set_option maxHeartbeats 4000000 in
theorem b_X6_isUnder_e {g : GT} (G : GOOD g RX6 cX6_isUnder 4 rm_X6_isUnder) {x0 : Int32} {x1 : Int32} {Q : Int32 → Prop} (R : RETz g cX6_isUnder 0 (fun (r : Int32) w => (Q r) ∧ w = [])) (h : wp_X6_isUnder x0 x1 Q) : ST g 0 0 0 [(0, .int x0), (1, .int x1)] [] [] := by
  unfold wp_X6_isUnder at h
  refine st_iload_n G 1 rfl 0 rfl dX6_isUnder_0 rfl ?_
  refine st_istore_n G 2 rfl [(2, .int x0), (0, .int x0), (1, .int x1)] dX6_isUnder_1 rfl (by decide) rfl ?_
  refine st_iconst G 3 rfl (0 : Int32) (by decide) dX6_isUnder_2 ?_
  refine st_istore_n G 4 rfl [(3, .int (0 : Int32)), (2, .int x0), (0, .int x0), (1, .int x1)] dX6_isUnder_3 rfl (by decide) rfl ?_
  refine st_L (L' := [(1, .int x1), (2, .int x0), (3, .int (0 : Int32))]) [3, 1, 0] rfl ?_
  obtain ⟨n, h⟩ := h
  exact b_X6_isUnder_4 G R n _ _ _ h
set_option maxRecDepth 100000 in
set_option maxHeartbeats 4000000 in
theorem c_X6_isUnder (l : Launch) (D : va_G) (X : XT) (x0 : Int32) (x1 : Int32) (Q : Int32 → Prop) (h : wp_X6_isUnder x0 x1 Q) : CTi l D X yX6_isUnder cX6_isUnder 4 .boolean rm_X6_isUnder [.int x0, .int x1] [] (fun (r : Int32) w => (Q r) ∧ w = []) :=
  ct_z (by decide) (Nat.le_of_ble_eq_true rfl) (fun g hl hD hX G R => by subst hl; subst hD; subst hX; exact b_X6_isUnder_e G R h)
set_option maxRecDepth 100000 in
set_option maxHeartbeats 4000000 in
theorem b_X6_as_e {g : GT} (G : GOOD g RX6 cX6_as 3 rm_X6_as) {q_t q_t_w q_t_w_km q_t_w_father q_t_w_mother q_t_w_from q_t_w_spoons q_t_w_owed q_t_w_tape q_t_w_tx0 q_t_w_tx1 q_t_w_waiting q_t_k q_t_errors q_t_sheets q_t_r q_t_th q_t_sp : Nat} {c_images : Int32} {w_people : Int32} {w_year : Int32} {w_z : Int32} {w_bytes : Int32} {w_waits : Int32} {w_km : Nat → Int32} {c_errors : Nat → Int32} {x1 : Int32} {x2 : Int32} {Q : Int32 → (Nat → Int32) → Prop} (R : RETi g cX6_as 4 (fun (r : Int32) w => ∃ (c_errors' : Nat → Int32), Q r c_errors' ∧ w = [(q_t, .inr (6, [.ref q_t_w, .ref q_t_k, .int c_images, .ref q_t_errors, .ref q_t_sheets, .ref q_t_r, .ref q_t_th, .ref q_t_sp])), (q_t_w, .inr (5, [.int w_people, .ref q_t_w_km, .ref q_t_w_father, .ref q_t_w_mother, .ref q_t_w_from, .ref q_t_w_spoons, .ref q_t_w_owed, .int w_year, .int w_z, .ref q_t_w_tape, .int w_bytes, .ref q_t_w_tx0, .ref q_t_w_tx1, .ref q_t_w_waiting, .int w_waits])), (q_t_w_km, .inl (g.X.cI, 8, .inl w_km)), (q_t_errors, .inl (g.X.cI, 7, .inl c_errors'))])) (h : wp_X6_as x1 x2 w_people w_km c_errors Q) : ST g 0 0 0 [(0, .ref q_t), (1, .int x1), (2, .int x2)] [] [(q_t, .inr (6, [.ref q_t_w, .ref q_t_k, .int c_images, .ref q_t_errors, .ref q_t_sheets, .ref q_t_r, .ref q_t_th, .ref q_t_sp])), (q_t_w, .inr (5, [.int w_people, .ref q_t_w_km, .ref q_t_w_father, .ref q_t_w_mother, .ref q_t_w_from, .ref q_t_w_spoons, .ref q_t_w_owed, .int w_year, .int w_z, .ref q_t_w_tape, .int w_bytes, .ref q_t_w_tx0, .ref q_t_w_tx1, .ref q_t_w_waiting, .int w_waits])), (q_t_w_km, .inl (g.X.cI, 8, .inl w_km)), (q_t_errors, .inl (g.X.cI, 7, .inl c_errors))] := by
  unfold wp_X6_as at h
  refine st_aload_n G 1 rfl 0 rfl dX6_as_0 rfl ?_
  refine st_iload_n G 2 rfl 1 rfl dX6_as_1 rfl ?_
  refine st_cVio G lk_X6_74 (c_X6_notOne g.l g.D g.X q_t q_t_w q_t_w_km q_t_w_father q_t_w_mother q_t_w_from q_t_w_spoons q_t_w_owed q_t_w_tape q_t_w_tx0 q_t_w_tx1 q_t_w_waiting q_t_k q_t_errors q_t_sheets q_t_r q_t_th q_t_sp c_images w_people w_year w_z w_bytes w_waits x1 _ h) ⟨rfl, rfl, ⟨Nat.le_of_ble_eq_true rfl, Nat.le_of_ble_eq_true rfl⟩, Nat.zero_le _, Nat.zero_le _⟩ 5 rfl [0, 1] rfl (by decide) 0 6 rfl rfl rfl (Nat.le_of_ble_eq_true rfl) rfl dX6_as_2 (fun r_2 h => ?_)
  refine st_if_ne G 18 8 rfl dX6_as_5 rfl (fun c => ?_) (fun c => ?_)
  · have h := h.1 c
    refine st_aload_n G 19 rfl 0 rfl dX6_as_18 rfl ?_
    refine st_iconst G 20 rfl (1 : Int32) (by decide) dX6_as_19 ?_
    refine st_cVi G lk_X6_55 (c_X6_error g.l g.D g.X q_t q_t_w q_t_k q_t_errors q_t_sheets q_t_r q_t_th q_t_sp c_images c_errors (1 : Int32) _ h) ⟨rfl, rfl, ⟨Nat.le_of_ble_eq_true rfl, Nat.le_of_ble_eq_true rfl⟩, Nat.zero_le _, Nat.zero_le _⟩ 23 rfl [0, 3] rfl (by decide) 0 6 rfl rfl rfl (Nat.le_of_ble_eq_true rfl) rfl dX6_as_20 (fun r_20 w hq => ?_)
    obtain ⟨c_errors_20, h, rfl⟩ := hq
    refine st_wp (ws' := [(q_t, .inr (6, [.ref q_t_w, .ref q_t_k, .int c_images, .ref q_t_errors, .ref q_t_sheets, .ref q_t_r, .ref q_t_th, .ref q_t_sp])), (q_t_w, .inr (5, [.int w_people, .ref q_t_w_km, .ref q_t_w_father, .ref q_t_w_mother, .ref q_t_w_from, .ref q_t_w_spoons, .ref q_t_w_owed, .int w_year, .int w_z, .ref q_t_w_tape, .int w_bytes, .ref q_t_w_tx0, .ref q_t_w_tx1, .ref q_t_w_waiting, .int w_waits])), (q_t_w_km, .inl (g.X.cI, 8, .inl w_km)), (q_t_errors, .inl (g.X.cI, 7, .inl c_errors_20))]) 4 [1, 2] (by decide) rfl rfl (by rfl) [(q_t_w, .inr (5, [.int w_people, .ref q_t_w_km, .ref q_t_w_father, .ref q_t_w_mother, .ref q_t_w_from, .ref q_t_w_spoons, .ref q_t_w_owed, .int w_year, .int w_z, .ref q_t_w_tape, .int w_bytes, .ref q_t_w_tx0, .ref q_t_w_tx1, .ref q_t_w_waiting, .int w_waits])), (q_t_w_km, .inl (g.X.cI, 8, .inl w_km))] (by rfl) rfl ?_
    exact R _ _ _ _ dX6_as_23 (Nat.le_of_ble_eq_true rfl) ⟨_, h, rfl⟩
  have h := h.2 c
  refine st_iload_n G 9 rfl 2 rfl dX6_as_8 rfl ?_
  refine st_if_lt G 18 12 rfl dX6_as_9 rfl (fun c => ?_) (fun c => ?_)
  · have h := h.1 c
    refine st_aload_n G 19 rfl 0 rfl dX6_as_18 rfl ?_
    refine st_iconst G 20 rfl (1 : Int32) (by decide) dX6_as_19 ?_
    refine st_cVi G lk_X6_55 (c_X6_error g.l g.D g.X q_t q_t_w q_t_k q_t_errors q_t_sheets q_t_r q_t_th q_t_sp c_images c_errors (1 : Int32) _ h) ⟨rfl, rfl, ⟨Nat.le_of_ble_eq_true rfl, Nat.le_of_ble_eq_true rfl⟩, Nat.zero_le _, Nat.zero_le _⟩ 23 rfl [0, 3] rfl (by decide) 0 6 rfl rfl rfl (Nat.le_of_ble_eq_true rfl) rfl dX6_as_20 (fun r_20 w hq => ?_)
    obtain ⟨c_errors_20, h, rfl⟩ := hq
    refine st_wp (ws' := [(q_t, .inr (6, [.ref q_t_w, .ref q_t_k, .int c_images, .ref q_t_errors, .ref q_t_sheets, .ref q_t_r, .ref q_t_th, .ref q_t_sp])), (q_t_w, .inr (5, [.int w_people, .ref q_t_w_km, .ref q_t_w_father, .ref q_t_w_mother, .ref q_t_w_from, .ref q_t_w_spoons, .ref q_t_w_owed, .int w_year, .int w_z, .ref q_t_w_tape, .int w_bytes, .ref q_t_w_tx0, .ref q_t_w_tx1, .ref q_t_w_waiting, .int w_waits])), (q_t_w_km, .inl (g.X.cI, 8, .inl w_km)), (q_t_errors, .inl (g.X.cI, 7, .inl c_errors_20))]) 4 [1, 2] (by decide) rfl rfl (by rfl) [(q_t_w, .inr (5, [.int w_people, .ref q_t_w_km, .ref q_t_w_father, .ref q_t_w_mother, .ref q_t_w_from, .ref q_t_w_spoons, .ref q_t_w_owed, .int w_year, .int w_z, .ref q_t_w_tape, .int w_bytes, .ref q_t_w_tx0, .ref q_t_w_tx1, .ref q_t_w_waiting, .int w_waits])), (q_t_w_km, .inl (g.X.cI, 8, .inl w_km))] (by rfl) rfl ?_
    exact R _ _ _ _ dX6_as_23 (Nat.le_of_ble_eq_true rfl) ⟨_, h, rfl⟩
  have h := h.2 c
  refine st_iload_n G 13 rfl 2 rfl dX6_as_12 rfl ?_
  refine st_bipush G 15 rfl (7 : Int32) (by decide) dX6_as_13 ?_
  refine st_icmp_lt G 24 18 rfl dX6_as_15 rfl (fun c => ?_) (fun c => ?_)
  · have h := h.1 c
    refine st_aload_n G 25 rfl 0 rfl dX6_as_24 rfl ?_
    refine st_get G inX6 rfl 0 (by decide) wd_16 28 rfl 0 rfl rfl dX6_as_25 ?_
    refine st_iload_n G 29 rfl 1 rfl dX6_as_28 rfl ?_
    refine st_cVio G lk_X6_77 (c_X5_kindOf g.l g.D g.X q_t_w q_t_w_km q_t_w_father q_t_w_mother q_t_w_from q_t_w_spoons q_t_w_owed q_t_w_tape q_t_w_tx0 q_t_w_tx1 q_t_w_waiting w_people w_year w_z w_bytes w_waits w_km x1 _ h) ⟨rfl, rfl, ⟨Nat.le_of_ble_eq_true rfl, Nat.le_of_ble_eq_true rfl⟩, Nat.zero_le _, Nat.zero_le _⟩ 32 rfl [1, 2] rfl (by decide) 0 5 rfl rfl rfl (Nat.le_of_ble_eq_true rfl) rfl dX6_as_29 (fun r_29 h => ?_)
    refine st_iload_n G 33 rfl 2 rfl dX6_as_32 rfl ?_
    refine st_cSio G lk_X6_105 (c_X6_isUnder g.l g.D g.X r_29 x2 _ h) ⟨rfl, rfl, ⟨Nat.le_of_ble_eq_true rfl, Nat.le_of_ble_eq_true rfl⟩, Nat.zero_le _, Nat.zero_le _⟩ 36 rfl [] rfl (by decide) rfl (Nat.le_of_ble_eq_true rfl) rfl dX6_as_33 (fun r_33 h => ?_)
    refine st_if_ne G 45 39 rfl dX6_as_36 rfl (fun c => ?_) (fun c => ?_)
    · have h := h.1 c
      refine st_aload_n G 46 rfl 0 rfl dX6_as_45 rfl ?_
      refine st_get G inX6 rfl 0 (by decide) wd_16 49 rfl 0 rfl rfl dX6_as_46 ?_
      refine st_iload_n G 50 rfl 1 rfl dX6_as_49 rfl ?_
      refine st_cVio G lk_X6_80 (c_X5_numberOf g.l g.D g.X q_t_w q_t_w_km q_t_w_father q_t_w_mother q_t_w_from q_t_w_spoons q_t_w_owed q_t_w_tape q_t_w_tx0 q_t_w_tx1 q_t_w_waiting w_people w_year w_z w_bytes w_waits w_km x1 _ h) ⟨rfl, rfl, ⟨Nat.le_of_ble_eq_true rfl, Nat.le_of_ble_eq_true rfl⟩, Nat.zero_le _, Nat.zero_le _⟩ 53 rfl [1, 2] rfl (by decide) 0 5 rfl rfl rfl (Nat.le_of_ble_eq_true rfl) rfl dX6_as_50 (fun r_50 h => ?_)
      exact R _ _ _ _ dX6_as_53 (Nat.le_of_ble_eq_true rfl) ⟨_, h, rfl⟩
    have h := h.2 c
    refine st_aload_n G 40 rfl 0 rfl dX6_as_39 rfl ?_
    refine st_iconst G 41 rfl (5 : Int32) (by decide) dX6_as_40 ?_
    refine st_cVi G lk_X6_55 (c_X6_error g.l g.D g.X q_t q_t_w q_t_k q_t_errors q_t_sheets q_t_r q_t_th q_t_sp c_images c_errors (5 : Int32) _ h) ⟨rfl, rfl, ⟨Nat.le_of_ble_eq_true rfl, Nat.le_of_ble_eq_true rfl⟩, Nat.zero_le _, Nat.zero_le _⟩ 44 rfl [0, 3] rfl (by decide) 0 6 rfl rfl rfl (Nat.le_of_ble_eq_true rfl) rfl dX6_as_41 (fun r_41 w hq => ?_)
    obtain ⟨c_errors_41, h, rfl⟩ := hq
    refine st_wp (ws' := [(q_t, .inr (6, [.ref q_t_w, .ref q_t_k, .int c_images, .ref q_t_errors, .ref q_t_sheets, .ref q_t_r, .ref q_t_th, .ref q_t_sp])), (q_t_w, .inr (5, [.int w_people, .ref q_t_w_km, .ref q_t_w_father, .ref q_t_w_mother, .ref q_t_w_from, .ref q_t_w_spoons, .ref q_t_w_owed, .int w_year, .int w_z, .ref q_t_w_tape, .int w_bytes, .ref q_t_w_tx0, .ref q_t_w_tx1, .ref q_t_w_waiting, .int w_waits])), (q_t_w_km, .inl (g.X.cI, 8, .inl w_km)), (q_t_errors, .inl (g.X.cI, 7, .inl c_errors_41))]) 4 [1, 2] (by decide) rfl rfl (by rfl) [(q_t_w, .inr (5, [.int w_people, .ref q_t_w_km, .ref q_t_w_father, .ref q_t_w_mother, .ref q_t_w_from, .ref q_t_w_spoons, .ref q_t_w_owed, .int w_year, .int w_z, .ref q_t_w_tape, .int w_bytes, .ref q_t_w_tx0, .ref q_t_w_tx1, .ref q_t_w_waiting, .int w_waits])), (q_t_w_km, .inl (g.X.cI, 8, .inl w_km))] (by rfl) rfl ?_
    exact R _ _ _ _ dX6_as_44 (Nat.le_of_ble_eq_true rfl) ⟨_, h, rfl⟩
  have h := h.2 c
  refine st_aload_n G 19 rfl 0 rfl dX6_as_18 rfl ?_
  refine st_iconst G 20 rfl (1 : Int32) (by decide) dX6_as_19 ?_
  refine st_cVi G lk_X6_55 (c_X6_error g.l g.D g.X q_t q_t_w q_t_k q_t_errors q_t_sheets q_t_r q_t_th q_t_sp c_images c_errors (1 : Int32) _ h) ⟨rfl, rfl, ⟨Nat.le_of_ble_eq_true rfl, Nat.le_of_ble_eq_true rfl⟩, Nat.zero_le _, Nat.zero_le _⟩ 23 rfl [0, 3] rfl (by decide) 0 6 rfl rfl rfl (Nat.le_of_ble_eq_true rfl) rfl dX6_as_20 (fun r_20 w hq => ?_)
  obtain ⟨c_errors_20, h, rfl⟩ := hq
  refine st_wp (ws' := [(q_t, .inr (6, [.ref q_t_w, .ref q_t_k, .int c_images, .ref q_t_errors, .ref q_t_sheets, .ref q_t_r, .ref q_t_th, .ref q_t_sp])), (q_t_w, .inr (5, [.int w_people, .ref q_t_w_km, .ref q_t_w_father, .ref q_t_w_mother, .ref q_t_w_from, .ref q_t_w_spoons, .ref q_t_w_owed, .int w_year, .int w_z, .ref q_t_w_tape, .int w_bytes, .ref q_t_w_tx0, .ref q_t_w_tx1, .ref q_t_w_waiting, .int w_waits])), (q_t_w_km, .inl (g.X.cI, 8, .inl w_km)), (q_t_errors, .inl (g.X.cI, 7, .inl c_errors_20))]) 4 [1, 2] (by decide) rfl rfl (by rfl) [(q_t_w, .inr (5, [.int w_people, .ref q_t_w_km, .ref q_t_w_father, .ref q_t_w_mother, .ref q_t_w_from, .ref q_t_w_spoons, .ref q_t_w_owed, .int w_year, .int w_z, .ref q_t_w_tape, .int w_bytes, .ref q_t_w_tx0, .ref q_t_w_tx1, .ref q_t_w_waiting, .int w_waits])), (q_t_w_km, .inl (g.X.cI, 8, .inl w_km))] (by rfl) rfl ?_
  exact R _ _ _ _ dX6_as_23 (Nat.le_of_ble_eq_true rfl) ⟨_, h, rfl⟩
set_option maxRecDepth 100000 in
set_option maxHeartbeats 4000000 in
theorem c_X6_as (l : Launch) (D : va_G) (X : XT) (q_t q_t_w q_t_w_km q_t_w_father q_t_w_mother q_t_w_from q_t_w_spoons q_t_w_owed q_t_w_tape q_t_w_tx0 q_t_w_tx1 q_t_w_waiting q_t_k q_t_errors q_t_sheets q_t_r q_t_th q_t_sp : Nat) (c_images : Int32) (w_people : Int32) (w_year : Int32) (w_z : Int32) (w_bytes : Int32) (w_waits : Int32) (w_km : Nat → Int32) (c_errors : Nat → Int32) (x1 : Int32) (x2 : Int32) (Q : Int32 → (Nat → Int32) → Prop) (h : wp_X6_as x1 x2 w_people w_km c_errors Q) : CTi l D X yX6_as cX6_as 3 .int rm_X6_as [.ref q_t, .int x1, .int x2] [(q_t, .inr (6, [.ref q_t_w, .ref q_t_k, .int c_images, .ref q_t_errors, .ref q_t_sheets, .ref q_t_r, .ref q_t_th, .ref q_t_sp])), (q_t_w, .inr (5, [.int w_people, .ref q_t_w_km, .ref q_t_w_father, .ref q_t_w_mother, .ref q_t_w_from, .ref q_t_w_spoons, .ref q_t_w_owed, .int w_year, .int w_z, .ref q_t_w_tape, .int w_bytes, .ref q_t_w_tx0, .ref q_t_w_tx1, .ref q_t_w_waiting, .int w_waits])), (q_t_w_km, .inl (X.cI, 8, .inl w_km)), (q_t_errors, .inl (X.cI, 7, .inl c_errors))] (fun (r : Int32) w => ∃ (c_errors' : Nat → Int32), Q r c_errors' ∧ w = [(q_t, .inr (6, [.ref q_t_w, .ref q_t_k, .int c_images, .ref q_t_errors, .ref q_t_sheets, .ref q_t_r, .ref q_t_th, .ref q_t_sp])), (q_t_w, .inr (5, [.int w_people, .ref q_t_w_km, .ref q_t_w_father, .ref q_t_w_mother, .ref q_t_w_from, .ref q_t_w_spoons, .ref q_t_w_owed, .int w_year, .int w_z, .ref q_t_w_tape, .int w_bytes, .ref q_t_w_tx0, .ref q_t_w_tx1, .ref q_t_w_waiting, .int w_waits])), (q_t_w_km, .inl (X.cI, 8, .inl w_km)), (q_t_errors, .inl (X.cI, 7, .inl c_errors'))]) :=
  ct_i (by decide) (Nat.le_of_ble_eq_true rfl) (fun g hl hD hX G R => by subst hl; subst hD; subst hX; exact b_X6_as_e G R h)
set_option maxRecDepth 100000 in
set_option maxHeartbeats 4000000 in
theorem b_X6_notSort_e {g : GT} (G : GOOD g RX6 cX6_notSort 1 rm_X6_notSort) {x0 : Int32} {Q : Int32 → Prop} (R : RETz g cX6_notSort 0 (fun (r : Int32) w => (Q r) ∧ w = [])) (h : wp_X6_notSort x0 Q) : ST g 0 0 0 [(0, .int x0)] [] [] := by
  unfold wp_X6_notSort at h
  refine st_iload_n G 1 rfl 0 rfl dX6_notSort_0 rfl ?_
  refine st_iconst G 2 rfl (0 : Int32) (by decide) dX6_notSort_1 ?_
  refine st_iconst G 3 rfl (4 : Int32) (by decide) dX6_notSort_2 ?_
  refine st_cSio G lk_X6_115 (c_X6_notWithin g.l g.D g.X x0 (0 : Int32) (4 : Int32) _ h) ⟨rfl, rfl, ⟨Nat.le_of_ble_eq_true rfl, Nat.le_of_ble_eq_true rfl⟩, Nat.zero_le _, Nat.zero_le _⟩ 6 rfl [] rfl (by decide) rfl (Nat.le_of_ble_eq_true rfl) rfl dX6_notSort_3 (fun r_3 h => ?_)
  obtain ⟨hbz, h⟩ := h
  exact R _ _ _ _ dX6_notSort_6 (Nat.le_of_ble_eq_true rfl) hbz ⟨h, rfl⟩
set_option maxRecDepth 100000 in
set_option maxHeartbeats 4000000 in
theorem c_X6_notSort (l : Launch) (D : va_G) (X : XT) (x0 : Int32) (Q : Int32 → Prop) (h : wp_X6_notSort x0 Q) : CTi l D X yX6_notSort cX6_notSort 1 .boolean rm_X6_notSort [.int x0] [] (fun (r : Int32) w => (Q r) ∧ w = []) :=
  ct_z (by decide) (Nat.le_of_ble_eq_true rfl) (fun g hl hD hX G R => by subst hl; subst hD; subst hX; exact b_X6_notSort_e G R h)
set_option maxRecDepth 100000 in
set_option maxHeartbeats 4000000 in
theorem b_X6_hold_e {g : GT} (G : GOOD g RX6 cX6_hold 3 rm_X6_hold) {q_t q_t_w q_t_w_km q_t_w_father q_t_w_mother q_t_w_from q_t_w_spoons q_t_w_owed q_t_w_tape q_t_w_tx0 q_t_w_tx1 q_t_w_waiting q_t_k q_t_errors q_t_sheets q_t_r q_t_th q_t_sp : Nat} {c_images : Int32} {w_people : Int32} {w_year : Int32} {w_z : Int32} {w_bytes : Int32} {w_waits : Int32} {w_spoons : Nat → Int32} {c_errors : Nat → Int32} {x1 : Int32} {x2 : Int32} {Q : Int32 → (Nat → Int32) → Prop} (R : RETi g cX6_hold 4 (fun (r : Int32) w => ∃ (c_errors' : Nat → Int32), Q r c_errors' ∧ w = [(q_t, .inr (6, [.ref q_t_w, .ref q_t_k, .int c_images, .ref q_t_errors, .ref q_t_sheets, .ref q_t_r, .ref q_t_th, .ref q_t_sp])), (q_t_w, .inr (5, [.int w_people, .ref q_t_w_km, .ref q_t_w_father, .ref q_t_w_mother, .ref q_t_w_from, .ref q_t_w_spoons, .ref q_t_w_owed, .int w_year, .int w_z, .ref q_t_w_tape, .int w_bytes, .ref q_t_w_tx0, .ref q_t_w_tx1, .ref q_t_w_waiting, .int w_waits])), (q_t_w_spoons, .inl (g.X.cI, 40, .inl w_spoons)), (q_t_errors, .inl (g.X.cI, 7, .inl c_errors'))])) (h : wp_X6_hold x1 x2 w_people w_spoons c_errors Q) : ST g 0 0 0 [(0, .ref q_t), (1, .int x1), (2, .int x2)] [] [(q_t, .inr (6, [.ref q_t_w, .ref q_t_k, .int c_images, .ref q_t_errors, .ref q_t_sheets, .ref q_t_r, .ref q_t_th, .ref q_t_sp])), (q_t_w, .inr (5, [.int w_people, .ref q_t_w_km, .ref q_t_w_father, .ref q_t_w_mother, .ref q_t_w_from, .ref q_t_w_spoons, .ref q_t_w_owed, .int w_year, .int w_z, .ref q_t_w_tape, .int w_bytes, .ref q_t_w_tx0, .ref q_t_w_tx1, .ref q_t_w_waiting, .int w_waits])), (q_t_w_spoons, .inl (g.X.cI, 40, .inl w_spoons)), (q_t_errors, .inl (g.X.cI, 7, .inl c_errors))] := by
  unfold wp_X6_hold at h
  refine st_aload_n G 1 rfl 0 rfl dX6_hold_0 rfl ?_
  refine st_iload_n G 2 rfl 1 rfl dX6_hold_1 rfl ?_
  refine st_cVio G lk_X6_74 (c_X6_notOne g.l g.D g.X q_t q_t_w q_t_w_km q_t_w_father q_t_w_mother q_t_w_from q_t_w_spoons q_t_w_owed q_t_w_tape q_t_w_tx0 q_t_w_tx1 q_t_w_waiting q_t_k q_t_errors q_t_sheets q_t_r q_t_th q_t_sp c_images w_people w_year w_z w_bytes w_waits x1 _ h) ⟨rfl, rfl, ⟨Nat.le_of_ble_eq_true rfl, Nat.le_of_ble_eq_true rfl⟩, Nat.zero_le _, Nat.zero_le _⟩ 5 rfl [0, 1] rfl (by decide) 0 6 rfl rfl rfl (Nat.le_of_ble_eq_true rfl) rfl dX6_hold_2 (fun r_2 h => ?_)
  refine st_if_ne G 15 8 rfl dX6_hold_5 rfl (fun c => ?_) (fun c => ?_)
  · have h := h.1 c
    refine st_aload_n G 16 rfl 0 rfl dX6_hold_15 rfl ?_
    refine st_iconst G 17 rfl (1 : Int32) (by decide) dX6_hold_16 ?_
    refine st_cVi G lk_X6_55 (c_X6_error g.l g.D g.X q_t q_t_w q_t_k q_t_errors q_t_sheets q_t_r q_t_th q_t_sp c_images c_errors (1 : Int32) _ h) ⟨rfl, rfl, ⟨Nat.le_of_ble_eq_true rfl, Nat.le_of_ble_eq_true rfl⟩, Nat.zero_le _, Nat.zero_le _⟩ 20 rfl [0, 3] rfl (by decide) 0 6 rfl rfl rfl (Nat.le_of_ble_eq_true rfl) rfl dX6_hold_17 (fun r_17 w hq => ?_)
    obtain ⟨c_errors_17, h, rfl⟩ := hq
    refine st_wp (ws' := [(q_t, .inr (6, [.ref q_t_w, .ref q_t_k, .int c_images, .ref q_t_errors, .ref q_t_sheets, .ref q_t_r, .ref q_t_th, .ref q_t_sp])), (q_t_w, .inr (5, [.int w_people, .ref q_t_w_km, .ref q_t_w_father, .ref q_t_w_mother, .ref q_t_w_from, .ref q_t_w_spoons, .ref q_t_w_owed, .int w_year, .int w_z, .ref q_t_w_tape, .int w_bytes, .ref q_t_w_tx0, .ref q_t_w_tx1, .ref q_t_w_waiting, .int w_waits])), (q_t_w_spoons, .inl (g.X.cI, 40, .inl w_spoons)), (q_t_errors, .inl (g.X.cI, 7, .inl c_errors_17))]) 4 [1, 2] (by decide) rfl rfl (by rfl) [(q_t_w, .inr (5, [.int w_people, .ref q_t_w_km, .ref q_t_w_father, .ref q_t_w_mother, .ref q_t_w_from, .ref q_t_w_spoons, .ref q_t_w_owed, .int w_year, .int w_z, .ref q_t_w_tape, .int w_bytes, .ref q_t_w_tx0, .ref q_t_w_tx1, .ref q_t_w_waiting, .int w_waits])), (q_t_w_spoons, .inl (g.X.cI, 40, .inl w_spoons))] (by rfl) rfl ?_
    exact R _ _ _ _ dX6_hold_20 (Nat.le_of_ble_eq_true rfl) ⟨_, h, rfl⟩
  have h := h.2 c
  refine st_iload_n G 9 rfl 2 rfl dX6_hold_8 rfl ?_
  refine st_cSio G lk_X6_108 (c_X6_notSort g.l g.D g.X x2 _ h) ⟨rfl, rfl, ⟨Nat.le_of_ble_eq_true rfl, Nat.le_of_ble_eq_true rfl⟩, Nat.zero_le _, Nat.zero_le _⟩ 12 rfl [] rfl (by decide) rfl (Nat.le_of_ble_eq_true rfl) rfl dX6_hold_9 (fun r_9 h => ?_)
  refine st_if_eq G 21 15 rfl dX6_hold_12 rfl (fun c => ?_) (fun c => ?_)
  · have h := h.1 c
    refine st_aload_n G 22 rfl 0 rfl dX6_hold_21 rfl ?_
    refine st_get G inX6 rfl 0 (by decide) wd_16 25 rfl 0 rfl rfl dX6_hold_22 ?_
    refine st_get G inX5 rfl 5 (by decide) wd_189 28 rfl 1 rfl rfl dX6_hold_25 ?_
    refine st_iload_n G 29 rfl 1 rfl dX6_hold_28 rfl ?_
    refine st_iload_n G 30 rfl 2 rfl dX6_hold_29 rfl ?_
    refine st_cSio G lk_X6_111 (c_X6_cell g.l g.D g.X x1 x2 _ h) ⟨rfl, rfl, ⟨Nat.le_of_ble_eq_true rfl, Nat.le_of_ble_eq_true rfl⟩, Nat.zero_le _, Nat.zero_le _⟩ 33 rfl [] rfl (by decide) rfl (Nat.le_of_ble_eq_true rfl) rfl dX6_hold_30 (fun r_30 h => ?_)
    obtain ⟨hin, h⟩ := h
    refine st_iald G 34 rfl 2 rfl hin dX6_hold_33 ?_
    exact R _ _ _ _ dX6_hold_34 (Nat.le_of_ble_eq_true rfl) ⟨_, h, rfl⟩
  have h := h.2 c
  refine st_aload_n G 16 rfl 0 rfl dX6_hold_15 rfl ?_
  refine st_iconst G 17 rfl (1 : Int32) (by decide) dX6_hold_16 ?_
  refine st_cVi G lk_X6_55 (c_X6_error g.l g.D g.X q_t q_t_w q_t_k q_t_errors q_t_sheets q_t_r q_t_th q_t_sp c_images c_errors (1 : Int32) _ h) ⟨rfl, rfl, ⟨Nat.le_of_ble_eq_true rfl, Nat.le_of_ble_eq_true rfl⟩, Nat.zero_le _, Nat.zero_le _⟩ 20 rfl [0, 3] rfl (by decide) 0 6 rfl rfl rfl (Nat.le_of_ble_eq_true rfl) rfl dX6_hold_17 (fun r_17 w hq => ?_)
  obtain ⟨c_errors_17, h, rfl⟩ := hq
  refine st_wp (ws' := [(q_t, .inr (6, [.ref q_t_w, .ref q_t_k, .int c_images, .ref q_t_errors, .ref q_t_sheets, .ref q_t_r, .ref q_t_th, .ref q_t_sp])), (q_t_w, .inr (5, [.int w_people, .ref q_t_w_km, .ref q_t_w_father, .ref q_t_w_mother, .ref q_t_w_from, .ref q_t_w_spoons, .ref q_t_w_owed, .int w_year, .int w_z, .ref q_t_w_tape, .int w_bytes, .ref q_t_w_tx0, .ref q_t_w_tx1, .ref q_t_w_waiting, .int w_waits])), (q_t_w_spoons, .inl (g.X.cI, 40, .inl w_spoons)), (q_t_errors, .inl (g.X.cI, 7, .inl c_errors_17))]) 4 [1, 2] (by decide) rfl rfl (by rfl) [(q_t_w, .inr (5, [.int w_people, .ref q_t_w_km, .ref q_t_w_father, .ref q_t_w_mother, .ref q_t_w_from, .ref q_t_w_spoons, .ref q_t_w_owed, .int w_year, .int w_z, .ref q_t_w_tape, .int w_bytes, .ref q_t_w_tx0, .ref q_t_w_tx1, .ref q_t_w_waiting, .int w_waits])), (q_t_w_spoons, .inl (g.X.cI, 40, .inl w_spoons))] (by rfl) rfl ?_
  exact R _ _ _ _ dX6_hold_20 (Nat.le_of_ble_eq_true rfl) ⟨_, h, rfl⟩
set_option maxRecDepth 100000 in
set_option maxHeartbeats 4000000 in
theorem c_X6_hold (l : Launch) (D : va_G) (X : XT) (q_t q_t_w q_t_w_km q_t_w_father q_t_w_mother q_t_w_from q_t_w_spoons q_t_w_owed q_t_w_tape q_t_w_tx0 q_t_w_tx1 q_t_w_waiting q_t_k q_t_errors q_t_sheets q_t_r q_t_th q_t_sp : Nat) (c_images : Int32) (w_people : Int32) (w_year : Int32) (w_z : Int32) (w_bytes : Int32) (w_waits : Int32) (w_spoons : Nat → Int32) (c_errors : Nat → Int32) (x1 : Int32) (x2 : Int32) (Q : Int32 → (Nat → Int32) → Prop) (h : wp_X6_hold x1 x2 w_people w_spoons c_errors Q) : CTi l D X yX6_hold cX6_hold 3 .int rm_X6_hold [.ref q_t, .int x1, .int x2] [(q_t, .inr (6, [.ref q_t_w, .ref q_t_k, .int c_images, .ref q_t_errors, .ref q_t_sheets, .ref q_t_r, .ref q_t_th, .ref q_t_sp])), (q_t_w, .inr (5, [.int w_people, .ref q_t_w_km, .ref q_t_w_father, .ref q_t_w_mother, .ref q_t_w_from, .ref q_t_w_spoons, .ref q_t_w_owed, .int w_year, .int w_z, .ref q_t_w_tape, .int w_bytes, .ref q_t_w_tx0, .ref q_t_w_tx1, .ref q_t_w_waiting, .int w_waits])), (q_t_w_spoons, .inl (X.cI, 40, .inl w_spoons)), (q_t_errors, .inl (X.cI, 7, .inl c_errors))] (fun (r : Int32) w => ∃ (c_errors' : Nat → Int32), Q r c_errors' ∧ w = [(q_t, .inr (6, [.ref q_t_w, .ref q_t_k, .int c_images, .ref q_t_errors, .ref q_t_sheets, .ref q_t_r, .ref q_t_th, .ref q_t_sp])), (q_t_w, .inr (5, [.int w_people, .ref q_t_w_km, .ref q_t_w_father, .ref q_t_w_mother, .ref q_t_w_from, .ref q_t_w_spoons, .ref q_t_w_owed, .int w_year, .int w_z, .ref q_t_w_tape, .int w_bytes, .ref q_t_w_tx0, .ref q_t_w_tx1, .ref q_t_w_waiting, .int w_waits])), (q_t_w_spoons, .inl (X.cI, 40, .inl w_spoons)), (q_t_errors, .inl (X.cI, 7, .inl c_errors'))]) :=
  ct_i (by decide) (Nat.le_of_ble_eq_true rfl) (fun g hl hD hX G R => by subst hl; subst hD; subst hX; exact b_X6_hold_e G R h)
set_option maxRecDepth 100000 in
set_option maxHeartbeats 4000000 in
theorem b_X6_spoon_e {g : GT} (G : GOOD g RX6 cX6_spoon 5 rm_X6_spoon) {q_t q_t_w q_t_w_km q_t_w_father q_t_w_mother q_t_w_from q_t_w_spoons q_t_w_owed q_t_w_tape q_t_w_tx0 q_t_w_tx1 q_t_w_waiting q_t_k q_t_errors q_t_sheets q_t_r q_t_th q_t_sp : Nat} {c_images : Int32} {w_people : Int32} {w_year : Int32} {w_z : Int32} {w_bytes : Int32} {w_waits : Int32} {w_spoons : Nat → Int32} {c_errors : Nat → Int32} {x1 : Int32} {x2 : Int32} {x3 : Int32} {Q : Int32 → (Nat → Int32) → (Nat → Int32) → Prop} (R : RETi g cX6_spoon 4 (fun (r : Int32) w => ∃ (w_spoons' : Nat → Int32) (c_errors' : Nat → Int32), Q r w_spoons' c_errors' ∧ w = [(q_t, .inr (6, [.ref q_t_w, .ref q_t_k, .int c_images, .ref q_t_errors, .ref q_t_sheets, .ref q_t_r, .ref q_t_th, .ref q_t_sp])), (q_t_w, .inr (5, [.int w_people, .ref q_t_w_km, .ref q_t_w_father, .ref q_t_w_mother, .ref q_t_w_from, .ref q_t_w_spoons, .ref q_t_w_owed, .int w_year, .int w_z, .ref q_t_w_tape, .int w_bytes, .ref q_t_w_tx0, .ref q_t_w_tx1, .ref q_t_w_waiting, .int w_waits])), (q_t_w_spoons, .inl (g.X.cI, 40, .inl w_spoons')), (q_t_errors, .inl (g.X.cI, 7, .inl c_errors'))])) (h : wp_X6_spoon x1 x2 x3 w_people w_spoons c_errors Q) : ST g 0 0 0 [(0, .ref q_t), (1, .int x1), (2, .int x2), (3, .int x3)] [] [(q_t, .inr (6, [.ref q_t_w, .ref q_t_k, .int c_images, .ref q_t_errors, .ref q_t_sheets, .ref q_t_r, .ref q_t_th, .ref q_t_sp])), (q_t_w, .inr (5, [.int w_people, .ref q_t_w_km, .ref q_t_w_father, .ref q_t_w_mother, .ref q_t_w_from, .ref q_t_w_spoons, .ref q_t_w_owed, .int w_year, .int w_z, .ref q_t_w_tape, .int w_bytes, .ref q_t_w_tx0, .ref q_t_w_tx1, .ref q_t_w_waiting, .int w_waits])), (q_t_w_spoons, .inl (g.X.cI, 40, .inl w_spoons)), (q_t_errors, .inl (g.X.cI, 7, .inl c_errors))] := by
  unfold wp_X6_spoon at h
  refine st_aload_n G 1 rfl 0 rfl dX6_spoon_0 rfl ?_
  refine st_iload_n G 2 rfl 1 rfl dX6_spoon_1 rfl ?_
  refine st_cVio G lk_X6_74 (c_X6_notOne g.l g.D g.X q_t q_t_w q_t_w_km q_t_w_father q_t_w_mother q_t_w_from q_t_w_spoons q_t_w_owed q_t_w_tape q_t_w_tx0 q_t_w_tx1 q_t_w_waiting q_t_k q_t_errors q_t_sheets q_t_r q_t_th q_t_sp c_images w_people w_year w_z w_bytes w_waits x1 _ h) ⟨rfl, rfl, ⟨Nat.le_of_ble_eq_true rfl, Nat.le_of_ble_eq_true rfl⟩, Nat.zero_le _, Nat.zero_le _⟩ 5 rfl [0, 1] rfl (by decide) 0 6 rfl rfl rfl (Nat.le_of_ble_eq_true rfl) rfl dX6_spoon_2 (fun r_2 h => ?_)
  refine st_if_ne G 25 8 rfl dX6_spoon_5 rfl (fun c => ?_) (fun c => ?_)
  · have h := h.1 c
    refine st_aload_n G 26 rfl 0 rfl dX6_spoon_25 rfl ?_
    refine st_iconst G 27 rfl (1 : Int32) (by decide) dX6_spoon_26 ?_
    refine st_cVi G lk_X6_55 (c_X6_error g.l g.D g.X q_t q_t_w q_t_k q_t_errors q_t_sheets q_t_r q_t_th q_t_sp c_images c_errors (1 : Int32) _ h) ⟨rfl, rfl, ⟨Nat.le_of_ble_eq_true rfl, Nat.le_of_ble_eq_true rfl⟩, Nat.zero_le _, Nat.zero_le _⟩ 30 rfl [0, 3] rfl (by decide) 0 6 rfl rfl rfl (Nat.le_of_ble_eq_true rfl) rfl dX6_spoon_27 (fun r_27 w hq => ?_)
    obtain ⟨c_errors_27, h, rfl⟩ := hq
    refine st_wp (ws' := [(q_t, .inr (6, [.ref q_t_w, .ref q_t_k, .int c_images, .ref q_t_errors, .ref q_t_sheets, .ref q_t_r, .ref q_t_th, .ref q_t_sp])), (q_t_w, .inr (5, [.int w_people, .ref q_t_w_km, .ref q_t_w_father, .ref q_t_w_mother, .ref q_t_w_from, .ref q_t_w_spoons, .ref q_t_w_owed, .int w_year, .int w_z, .ref q_t_w_tape, .int w_bytes, .ref q_t_w_tx0, .ref q_t_w_tx1, .ref q_t_w_waiting, .int w_waits])), (q_t_w_spoons, .inl (g.X.cI, 40, .inl w_spoons)), (q_t_errors, .inl (g.X.cI, 7, .inl c_errors_27))]) 4 [1, 2] (by decide) rfl rfl (by rfl) [(q_t_w, .inr (5, [.int w_people, .ref q_t_w_km, .ref q_t_w_father, .ref q_t_w_mother, .ref q_t_w_from, .ref q_t_w_spoons, .ref q_t_w_owed, .int w_year, .int w_z, .ref q_t_w_tape, .int w_bytes, .ref q_t_w_tx0, .ref q_t_w_tx1, .ref q_t_w_waiting, .int w_waits])), (q_t_w_spoons, .inl (g.X.cI, 40, .inl w_spoons))] (by rfl) rfl ?_
    exact R _ _ _ _ dX6_spoon_30 (Nat.le_of_ble_eq_true rfl) ⟨_, _, h, rfl⟩
  have h := h.2 c
  refine st_iload_n G 9 rfl 2 rfl dX6_spoon_8 rfl ?_
  refine st_cSio G lk_X6_108 (c_X6_notSort g.l g.D g.X x2 _ h) ⟨rfl, rfl, ⟨Nat.le_of_ble_eq_true rfl, Nat.le_of_ble_eq_true rfl⟩, Nat.zero_le _, Nat.zero_le _⟩ 12 rfl [] rfl (by decide) rfl (Nat.le_of_ble_eq_true rfl) rfl dX6_spoon_9 (fun r_9 h => ?_)
  refine st_if_ne G 25 15 rfl dX6_spoon_12 rfl (fun c => ?_) (fun c => ?_)
  · have h := h.1 c
    refine st_aload_n G 26 rfl 0 rfl dX6_spoon_25 rfl ?_
    refine st_iconst G 27 rfl (1 : Int32) (by decide) dX6_spoon_26 ?_
    refine st_cVi G lk_X6_55 (c_X6_error g.l g.D g.X q_t q_t_w q_t_k q_t_errors q_t_sheets q_t_r q_t_th q_t_sp c_images c_errors (1 : Int32) _ h) ⟨rfl, rfl, ⟨Nat.le_of_ble_eq_true rfl, Nat.le_of_ble_eq_true rfl⟩, Nat.zero_le _, Nat.zero_le _⟩ 30 rfl [0, 3] rfl (by decide) 0 6 rfl rfl rfl (Nat.le_of_ble_eq_true rfl) rfl dX6_spoon_27 (fun r_27 w hq => ?_)
    obtain ⟨c_errors_27, h, rfl⟩ := hq
    refine st_wp (ws' := [(q_t, .inr (6, [.ref q_t_w, .ref q_t_k, .int c_images, .ref q_t_errors, .ref q_t_sheets, .ref q_t_r, .ref q_t_th, .ref q_t_sp])), (q_t_w, .inr (5, [.int w_people, .ref q_t_w_km, .ref q_t_w_father, .ref q_t_w_mother, .ref q_t_w_from, .ref q_t_w_spoons, .ref q_t_w_owed, .int w_year, .int w_z, .ref q_t_w_tape, .int w_bytes, .ref q_t_w_tx0, .ref q_t_w_tx1, .ref q_t_w_waiting, .int w_waits])), (q_t_w_spoons, .inl (g.X.cI, 40, .inl w_spoons)), (q_t_errors, .inl (g.X.cI, 7, .inl c_errors_27))]) 4 [1, 2] (by decide) rfl rfl (by rfl) [(q_t_w, .inr (5, [.int w_people, .ref q_t_w_km, .ref q_t_w_father, .ref q_t_w_mother, .ref q_t_w_from, .ref q_t_w_spoons, .ref q_t_w_owed, .int w_year, .int w_z, .ref q_t_w_tape, .int w_bytes, .ref q_t_w_tx0, .ref q_t_w_tx1, .ref q_t_w_waiting, .int w_waits])), (q_t_w_spoons, .inl (g.X.cI, 40, .inl w_spoons))] (by rfl) rfl ?_
    exact R _ _ _ _ dX6_spoon_30 (Nat.le_of_ble_eq_true rfl) ⟨_, _, h, rfl⟩
  have h := h.2 c
  refine st_iload_n G 16 rfl 3 rfl dX6_spoon_15 rfl ?_
  refine st_iconst G 17 rfl (0 : Int32) (by decide) dX6_spoon_16 ?_
  refine st_bipush G 19 rfl (99 : Int32) (by decide) dX6_spoon_17 ?_
  refine st_cSio G lk_X6_115 (c_X6_notWithin g.l g.D g.X x3 (0 : Int32) (99 : Int32) _ h) ⟨rfl, rfl, ⟨Nat.le_of_ble_eq_true rfl, Nat.le_of_ble_eq_true rfl⟩, Nat.zero_le _, Nat.zero_le _⟩ 22 rfl [] rfl (by decide) rfl (Nat.le_of_ble_eq_true rfl) rfl dX6_spoon_19 (fun r_19 h => ?_)
  refine st_if_eq G 31 25 rfl dX6_spoon_22 rfl (fun c => ?_) (fun c => ?_)
  · have h := h.1 c
    refine st_aload_n G 32 rfl 0 rfl dX6_spoon_31 rfl ?_
    refine st_get G inX6 rfl 0 (by decide) wd_16 35 rfl 0 rfl rfl dX6_spoon_32 ?_
    refine st_get G inX5 rfl 5 (by decide) wd_189 38 rfl 1 rfl rfl dX6_spoon_35 ?_
    refine st_iload_n G 39 rfl 1 rfl dX6_spoon_38 rfl ?_
    refine st_iload_n G 40 rfl 2 rfl dX6_spoon_39 rfl ?_
    refine st_cSio G lk_X6_111 (c_X6_cell g.l g.D g.X x1 x2 _ h) ⟨rfl, rfl, ⟨Nat.le_of_ble_eq_true rfl, Nat.le_of_ble_eq_true rfl⟩, Nat.zero_le _, Nat.zero_le _⟩ 43 rfl [] rfl (by decide) rfl (Nat.le_of_ble_eq_true rfl) rfl dX6_spoon_40 (fun r_40 h => ?_)
    obtain ⟨hin, h⟩ := h
    refine st_iald G 44 rfl 2 rfl hin dX6_spoon_43 ?_
    refine st_topi (fun x4_44 ex4_44 => ?_)
    have h := h x4_44 ex4_44
    refine st_istore G 46 rfl [(4, .int x4_44), (0, .ref q_t), (1, .int x1), (2, .int x2), (3, .int x3)] dX6_spoon_44 (by decide) rfl ?_
    refine st_aload_n G 47 rfl 1 rfl dX6_spoon_46 rfl ?_
    refine st_get G inX6 rfl 0 (by decide) wd_16 50 rfl 0 rfl rfl dX6_spoon_47 ?_
    refine st_get G inX5 rfl 5 (by decide) wd_189 53 rfl 1 rfl rfl dX6_spoon_50 ?_
    refine st_iload_n G 54 rfl 2 rfl dX6_spoon_53 rfl ?_
    refine st_iload_n G 55 rfl 3 rfl dX6_spoon_54 rfl ?_
    refine st_cSio G lk_X6_111 (c_X6_cell g.l g.D g.X x1 x2 _ h) ⟨rfl, rfl, ⟨Nat.le_of_ble_eq_true rfl, Nat.le_of_ble_eq_true rfl⟩, Nat.zero_le _, Nat.zero_le _⟩ 58 rfl [] rfl (by decide) rfl (Nat.le_of_ble_eq_true rfl) rfl dX6_spoon_55 (fun r_55 h => ?_)
    refine st_iload_n G 59 rfl 4 rfl dX6_spoon_58 rfl ?_
    obtain ⟨hin, h⟩ := h
    obtain ⟨w_spoons_59, ew_spoons_59⟩ : ∃ y : Nat → Int32, y = upd w_spoons r_55.toNatClampNeg x3 := ⟨_, rfl⟩
    have h := h w_spoons_59 ew_spoons_59
    refine st_iast G [(q_t, .inr (6, [.ref q_t_w, .ref q_t_k, .int c_images, .ref q_t_errors, .ref q_t_sheets, .ref q_t_r, .ref q_t_th, .ref q_t_sp])), (q_t_w, .inr (5, [.int w_people, .ref q_t_w_km, .ref q_t_w_father, .ref q_t_w_mother, .ref q_t_w_from, .ref q_t_w_spoons, .ref q_t_w_owed, .int w_year, .int w_z, .ref q_t_w_tape, .int w_bytes, .ref q_t_w_tx0, .ref q_t_w_tx1, .ref q_t_w_waiting, .int w_waits])), (q_t_w_spoons, .inl (g.X.cI, 40, .inl w_spoons_59)), (q_t_errors, .inl (g.X.cI, 7, .inl c_errors))] 60 rfl 2 rfl hin (by subst ew_spoons_59; rfl) dX6_spoon_59 ?_
    refine st_iload G 62 rfl 0 rfl dX6_spoon_60 ?_
    exact R _ _ _ _ dX6_spoon_62 (Nat.le_of_ble_eq_true rfl) ⟨_, _, h, rfl⟩
  have h := h.2 c
  refine st_aload_n G 26 rfl 0 rfl dX6_spoon_25 rfl ?_
  refine st_iconst G 27 rfl (1 : Int32) (by decide) dX6_spoon_26 ?_
  refine st_cVi G lk_X6_55 (c_X6_error g.l g.D g.X q_t q_t_w q_t_k q_t_errors q_t_sheets q_t_r q_t_th q_t_sp c_images c_errors (1 : Int32) _ h) ⟨rfl, rfl, ⟨Nat.le_of_ble_eq_true rfl, Nat.le_of_ble_eq_true rfl⟩, Nat.zero_le _, Nat.zero_le _⟩ 30 rfl [0, 3] rfl (by decide) 0 6 rfl rfl rfl (Nat.le_of_ble_eq_true rfl) rfl dX6_spoon_27 (fun r_27 w hq => ?_)
  obtain ⟨c_errors_27, h, rfl⟩ := hq
  refine st_wp (ws' := [(q_t, .inr (6, [.ref q_t_w, .ref q_t_k, .int c_images, .ref q_t_errors, .ref q_t_sheets, .ref q_t_r, .ref q_t_th, .ref q_t_sp])), (q_t_w, .inr (5, [.int w_people, .ref q_t_w_km, .ref q_t_w_father, .ref q_t_w_mother, .ref q_t_w_from, .ref q_t_w_spoons, .ref q_t_w_owed, .int w_year, .int w_z, .ref q_t_w_tape, .int w_bytes, .ref q_t_w_tx0, .ref q_t_w_tx1, .ref q_t_w_waiting, .int w_waits])), (q_t_w_spoons, .inl (g.X.cI, 40, .inl w_spoons)), (q_t_errors, .inl (g.X.cI, 7, .inl c_errors_27))]) 4 [1, 2] (by decide) rfl rfl (by rfl) [(q_t_w, .inr (5, [.int w_people, .ref q_t_w_km, .ref q_t_w_father, .ref q_t_w_mother, .ref q_t_w_from, .ref q_t_w_spoons, .ref q_t_w_owed, .int w_year, .int w_z, .ref q_t_w_tape, .int w_bytes, .ref q_t_w_tx0, .ref q_t_w_tx1, .ref q_t_w_waiting, .int w_waits])), (q_t_w_spoons, .inl (g.X.cI, 40, .inl w_spoons))] (by rfl) rfl ?_
  exact R _ _ _ _ dX6_spoon_30 (Nat.le_of_ble_eq_true rfl) ⟨_, _, h, rfl⟩
set_option maxRecDepth 100000 in
set_option maxHeartbeats 4000000 in
theorem c_X6_spoon (l : Launch) (D : va_G) (X : XT) (q_t q_t_w q_t_w_km q_t_w_father q_t_w_mother q_t_w_from q_t_w_spoons q_t_w_owed q_t_w_tape q_t_w_tx0 q_t_w_tx1 q_t_w_waiting q_t_k q_t_errors q_t_sheets q_t_r q_t_th q_t_sp : Nat) (c_images : Int32) (w_people : Int32) (w_year : Int32) (w_z : Int32) (w_bytes : Int32) (w_waits : Int32) (w_spoons : Nat → Int32) (c_errors : Nat → Int32) (x1 : Int32) (x2 : Int32) (x3 : Int32) (Q : Int32 → (Nat → Int32) → (Nat → Int32) → Prop) (h : wp_X6_spoon x1 x2 x3 w_people w_spoons c_errors Q) : CTi l D X yX6_spoon cX6_spoon 5 .int rm_X6_spoon [.ref q_t, .int x1, .int x2, .int x3] [(q_t, .inr (6, [.ref q_t_w, .ref q_t_k, .int c_images, .ref q_t_errors, .ref q_t_sheets, .ref q_t_r, .ref q_t_th, .ref q_t_sp])), (q_t_w, .inr (5, [.int w_people, .ref q_t_w_km, .ref q_t_w_father, .ref q_t_w_mother, .ref q_t_w_from, .ref q_t_w_spoons, .ref q_t_w_owed, .int w_year, .int w_z, .ref q_t_w_tape, .int w_bytes, .ref q_t_w_tx0, .ref q_t_w_tx1, .ref q_t_w_waiting, .int w_waits])), (q_t_w_spoons, .inl (X.cI, 40, .inl w_spoons)), (q_t_errors, .inl (X.cI, 7, .inl c_errors))] (fun (r : Int32) w => ∃ (w_spoons' : Nat → Int32) (c_errors' : Nat → Int32), Q r w_spoons' c_errors' ∧ w = [(q_t, .inr (6, [.ref q_t_w, .ref q_t_k, .int c_images, .ref q_t_errors, .ref q_t_sheets, .ref q_t_r, .ref q_t_th, .ref q_t_sp])), (q_t_w, .inr (5, [.int w_people, .ref q_t_w_km, .ref q_t_w_father, .ref q_t_w_mother, .ref q_t_w_from, .ref q_t_w_spoons, .ref q_t_w_owed, .int w_year, .int w_z, .ref q_t_w_tape, .int w_bytes, .ref q_t_w_tx0, .ref q_t_w_tx1, .ref q_t_w_waiting, .int w_waits])), (q_t_w_spoons, .inl (X.cI, 40, .inl w_spoons')), (q_t_errors, .inl (X.cI, 7, .inl c_errors'))]) :=
  ct_i (by decide) (Nat.le_of_ble_eq_true rfl) (fun g hl hD hX G R => by subst hl; subst hD; subst hX; exact b_X6_spoon_e G R h)
set_option maxRecDepth 100000 in
set_option maxHeartbeats 4000000 in
theorem b_X5_gets_35 {g : GT} (G : GOOD g RX5 cX5_gets 8 rm_X5_gets) {q_t q_t_km q_t_father q_t_mother q_t_from q_t_spoons q_t_owed q_t_tape q_t_tx0 q_t_tx1 q_t_waiting : Nat} {c_people : Int32} {c_year : Int32} {c_z : Int32} {c_bytes : Int32} {c_waits : Int32} {c_km : Nat → Int32} {Q : Int32 → Prop} (R : RETi g cX5_gets 2 (fun (r : Int32) w => (Q r) ∧ w = [(q_t, .inr (5, [.int c_people, .ref q_t_km, .ref q_t_father, .ref q_t_mother, .ref q_t_from, .ref q_t_spoons, .ref q_t_owed, .int c_year, .int c_z, .ref q_t_tape, .int c_bytes, .ref q_t_tx0, .ref q_t_tx1, .ref q_t_waiting, .int c_waits])), (q_t_km, .inl (g.X.cI, 8, .inl c_km))])) {x1 : Int32} {x2 : Int32} {x3 : Int32} {x4 : Int32} {x5 : Int32} {x6 : Int32} {s0 : Int32} (h : wp_X5_gets_b35 Q c_km x1 x2 x3 x4 x5 x6 s0) : ST g 0 0 35 [(0, .ref q_t), (1, .int x1), (2, .int x2), (3, .int x3), (4, .int x4), (5, .int x5), (6, .int x6)] [.int s0] [(q_t, .inr (5, [.int c_people, .ref q_t_km, .ref q_t_father, .ref q_t_mother, .ref q_t_from, .ref q_t_spoons, .ref q_t_owed, .int c_year, .int c_z, .ref q_t_tape, .int c_bytes, .ref q_t_tx0, .ref q_t_tx1, .ref q_t_waiting, .int c_waits])), (q_t_km, .inl (g.X.cI, 8, .inl c_km))] := by
  unfold wp_X5_gets_b35 at h
  refine st_istore G 37 rfl [(7, .int s0), (0, .ref q_t), (1, .int x1), (2, .int x2), (3, .int x3), (4, .int x4), (5, .int x5), (6, .int x6)] dX5_gets_35 (by decide) rfl ?_
  refine st_aload_n G 38 rfl 1 rfl dX5_gets_37 rfl ?_
  refine st_iload_n G 39 rfl 2 rfl dX5_gets_38 rfl ?_
  refine st_cVio G lk_X5_93 (c_X5_kindOf g.l g.D g.X q_t q_t_km q_t_father q_t_mother q_t_from q_t_spoons q_t_owed q_t_tape q_t_tx0 q_t_tx1 q_t_waiting c_people c_year c_z c_bytes c_waits c_km x1 _ h) ⟨rfl, rfl, ⟨Nat.le_of_ble_eq_true rfl, Nat.le_of_ble_eq_true rfl⟩, Nat.zero_le _, Nat.zero_le _⟩ 42 rfl [0, 1] rfl (by decide) 0 5 rfl rfl rfl (Nat.le_of_ble_eq_true rfl) rfl dX5_gets_39 (fun r_39 h => ?_)
  by_cases c0 : r_39 = (1 : Int32)
  · have h := h.1 c0
    refine st_tableIn G 80 (off := 38) dX5_gets_42 (by rw [c0]; decide) (by rw [c0]; decide) (by rw [c0]; rfl) rfl ?_
    refine st_iload G 82 rfl 0 rfl dX5_gets_80 ?_
    exact R _ _ _ _ dX5_gets_82 (Nat.le_of_ble_eq_true rfl) ⟨h, rfl⟩
  by_cases c1 : r_39 = (2 : Int32)
  · have h := h.2.1 c1
    refine st_tableIn G 83 (off := 41) dX5_gets_42 (by rw [c1]; decide) (by rw [c1]; decide) (by rw [c1]; rfl) rfl ?_
    refine st_iconst G 84 rfl (3 : Int32) (by decide) dX5_gets_83 ?_
    refine st_iload G 86 rfl 7 rfl dX5_gets_84 ?_
    refine st_imul G 87 rfl dX5_gets_86 ?_
    exact R _ _ _ _ dX5_gets_87 (Nat.le_of_ble_eq_true rfl) ⟨h, rfl⟩
  by_cases c2 : r_39 = (3 : Int32)
  · have h := h.2.2.1 c2
    refine st_tableIn G 88 (off := 46) dX5_gets_42 (by rw [c2]; decide) (by rw [c2]; decide) (by rw [c2]; rfl) rfl ?_
    refine st_iload_n G 89 rfl 3 rfl dX5_gets_88 rfl ?_
    refine st_iconst G 90 rfl (4 : Int32) (by decide) dX5_gets_89 ?_
    refine st_icmp_ne G 98 93 rfl dX5_gets_90 rfl (fun c => ?_) (fun c => ?_)
    · have h := h.1 c
      refine st_iload G 100 rfl 7 rfl dX5_gets_98 ?_
      exact R _ _ _ _ dX5_gets_100 (Nat.le_of_ble_eq_true rfl) ⟨h, rfl⟩
    have h := h.2 c
    refine st_iload G 95 rfl 6 rfl dX5_gets_93 ?_
    refine st_goto G 100 dX5_gets_95 rfl ?_
    exact R _ _ _ _ dX5_gets_100 (Nat.le_of_ble_eq_true rfl) ⟨h, rfl⟩
  by_cases c3 : r_39 = (4 : Int32)
  · have h := h.2.2.2.1 c3
    refine st_tableIn G 101 (off := 59) dX5_gets_42 (by rw [c3]; decide) (by rw [c3]; decide) (by rw [c3]; rfl) rfl ?_
    refine st_iload G 103 rfl 0 rfl dX5_gets_101 ?_
    refine st_iload_n G 104 rfl 4 rfl dX5_gets_103 rfl ?_
    refine st_bipush G 106 rfl (10 : Int32) (by decide) dX5_gets_104 ?_
    refine st_idiv G 107 rfl (by decide) dX5_gets_106 ?_
    refine st_iadd G 108 rfl dX5_gets_107 ?_
    exact R _ _ _ _ dX5_gets_108 (Nat.le_of_ble_eq_true rfl) ⟨h, rfl⟩
  by_cases c4 : r_39 = (5 : Int32)
  · have h := h.2.2.2.2.1 c4
    refine st_tableIn G 109 (off := 67) dX5_gets_42 (by rw [c4]; decide) (by rw [c4]; decide) (by rw [c4]; rfl) rfl ?_
    refine st_iconst G 110 rfl (3 : Int32) (by decide) dX5_gets_109 ?_
    refine st_iload G 112 rfl 7 rfl dX5_gets_110 ?_
    refine st_imul G 113 rfl dX5_gets_112 ?_
    refine st_iconst G 114 rfl (1 : Int32) (by decide) dX5_gets_113 ?_
    refine st_isub G 115 rfl dX5_gets_114 ?_
    exact R _ _ _ _ dX5_gets_115 (Nat.le_of_ble_eq_true rfl) ⟨h, rfl⟩
  by_cases c5 : r_39 = (6 : Int32)
  · have h := h.2.2.2.2.2.1 c5
    refine st_tableIn G 116 (off := 74) dX5_gets_42 (by rw [c5]; decide) (by rw [c5]; decide) (by rw [c5]; rfl) rfl ?_
    refine st_iload G 118 rfl 5 rfl dX5_gets_116 ?_
    refine st_iconst G 119 rfl (2 : Int32) (by decide) dX5_gets_118 ?_
    refine st_irem G 120 rfl (by decide) dX5_gets_119 ?_
    refine st_if_ne G 128 123 rfl dX5_gets_120 rfl (fun c => ?_) (fun c => ?_)
    · have h := h.1 c
      refine st_iconst G 129 rfl (0 : Int32) (by decide) dX5_gets_128 ?_
      exact R _ _ _ _ dX5_gets_129 (Nat.le_of_ble_eq_true rfl) ⟨h, rfl⟩
    have h := h.2 c
    refine st_iload G 125 rfl 7 rfl dX5_gets_123 ?_
    refine st_goto G 129 dX5_gets_125 rfl ?_
    exact R _ _ _ _ dX5_gets_129 (Nat.le_of_ble_eq_true rfl) ⟨h, rfl⟩
  have h := h.2.2.2.2.2.2 c0 c1 c2 c3 c4 c5
  refine st_tableOut G 130 dX5_gets_42 (by have w0 := ne_toInt (n := 1) c0; have w1 := ne_toInt (n := 2) c1; have w2 := ne_toInt (n := 3) c2; have w3 := ne_toInt (n := 4) c3; have w4 := ne_toInt (n := 5) c4; have w5 := ne_toInt (n := 6) c5; omega) rfl ?_
  refine st_iload G 132 rfl 7 rfl dX5_gets_130 ?_
  exact R _ _ _ _ dX5_gets_132 (Nat.le_of_ble_eq_true rfl) ⟨h, rfl⟩
set_option maxRecDepth 100000 in
set_option maxHeartbeats 4000000 in
theorem b_X5_gets_e {g : GT} (G : GOOD g RX5 cX5_gets 8 rm_X5_gets) {q_t q_t_km q_t_father q_t_mother q_t_from q_t_spoons q_t_owed q_t_tape q_t_tx0 q_t_tx1 q_t_waiting : Nat} {c_people : Int32} {c_year : Int32} {c_z : Int32} {c_bytes : Int32} {c_waits : Int32} {c_km : Nat → Int32} {x1 : Int32} {x2 : Int32} {x3 : Int32} {x4 : Int32} {Q : Int32 → Prop} (R : RETi g cX5_gets 2 (fun (r : Int32) w => (Q r) ∧ w = [(q_t, .inr (5, [.int c_people, .ref q_t_km, .ref q_t_father, .ref q_t_mother, .ref q_t_from, .ref q_t_spoons, .ref q_t_owed, .int c_year, .int c_z, .ref q_t_tape, .int c_bytes, .ref q_t_tx0, .ref q_t_tx1, .ref q_t_waiting, .int c_waits])), (q_t_km, .inl (g.X.cI, 8, .inl c_km))])) (h : wp_X5_gets x1 x2 x3 x4 c_km Q) : ST g 0 0 0 [(0, .ref q_t), (1, .int x1), (2, .int x2), (3, .int x3), (4, .int x4)] [] [(q_t, .inr (5, [.int c_people, .ref q_t_km, .ref q_t_father, .ref q_t_mother, .ref q_t_from, .ref q_t_spoons, .ref q_t_owed, .int c_year, .int c_z, .ref q_t_tape, .int c_bytes, .ref q_t_tx0, .ref q_t_tx1, .ref q_t_waiting, .int c_waits])), (q_t_km, .inl (g.X.cI, 8, .inl c_km))] := by
  unfold wp_X5_gets at h
  refine st_aload_n G 1 rfl 0 rfl dX5_gets_0 rfl ?_
  refine st_iload_n G 2 rfl 1 rfl dX5_gets_1 rfl ?_
  refine st_cVio G lk_X5_90 (c_X5_numberOf g.l g.D g.X q_t q_t_km q_t_father q_t_mother q_t_from q_t_spoons q_t_owed q_t_tape q_t_tx0 q_t_tx1 q_t_waiting c_people c_year c_z c_bytes c_waits c_km x1 _ h) ⟨rfl, rfl, ⟨Nat.le_of_ble_eq_true rfl, Nat.le_of_ble_eq_true rfl⟩, Nat.zero_le _, Nat.zero_le _⟩ 5 rfl [0, 1] rfl (by decide) 0 5 rfl rfl rfl (Nat.le_of_ble_eq_true rfl) rfl dX5_gets_2 (fun r_2 h => ?_)
  refine st_istore G 7 rfl [(5, .int r_2), (0, .ref q_t), (1, .int x1), (2, .int x2), (3, .int x3), (4, .int x4)] dX5_gets_5 (by decide) rfl ?_
  refine st_iload G 9 rfl 0 rfl dX5_gets_7 ?_
  refine st_iconst G 10 rfl (5 : Int32) (by decide) dX5_gets_9 ?_
  refine st_irem G 11 rfl (by decide) dX5_gets_10 ?_
  refine st_iload_n G 12 rfl 3 rfl dX5_gets_11 rfl ?_
  refine st_icmp_ne G 19 15 rfl dX5_gets_12 rfl (fun c => ?_) (fun c => ?_)
  · have h := h.1 c
    refine st_iconst G 20 rfl (0 : Int32) (by decide) dX5_gets_19 ?_
    refine st_istore G 22 rfl [(6, .int (0 : Int32)), (5, .int r_2), (0, .ref q_t), (1, .int x1), (2, .int x2), (3, .int x3), (4, .int x4)] dX5_gets_20 (by decide) rfl ?_
    refine st_iload_n G 23 rfl 4 rfl dX5_gets_22 rfl ?_
    refine st_if_ne G 33 26 rfl dX5_gets_23 rfl (fun c => ?_) (fun c => ?_)
    · have h := h.1 c
      refine st_iload G 35 rfl 0 rfl dX5_gets_33 ?_
      refine st_L (L' := [(0, .ref q_t), (1, .int x1), (2, .int x2), (3, .int x3), (4, .int x4), (5, .int r_2), (6, .int (0 : Int32))]) [2, 3, 4, 5, 6, 1, 0] rfl ?_
      exact b_X5_gets_35 G R h
    have h := h.2 c
    refine st_iload G 28 rfl 0 rfl dX5_gets_26 ?_
    refine st_iconst G 29 rfl (2 : Int32) (by decide) dX5_gets_28 ?_
    refine st_iadd G 30 rfl dX5_gets_29 ?_
    refine st_goto G 35 dX5_gets_30 rfl ?_
    refine st_L (L' := [(0, .ref q_t), (1, .int x1), (2, .int x2), (3, .int x3), (4, .int x4), (5, .int r_2), (6, .int (0 : Int32))]) [2, 3, 4, 5, 6, 1, 0] rfl ?_
    exact b_X5_gets_35 G R h
  have h := h.2 c
  refine st_iconst G 16 rfl (1 : Int32) (by decide) dX5_gets_15 ?_
  refine st_goto G 20 dX5_gets_16 rfl ?_
  refine st_istore G 22 rfl [(6, .int (1 : Int32)), (5, .int r_2), (0, .ref q_t), (1, .int x1), (2, .int x2), (3, .int x3), (4, .int x4)] dX5_gets_20 (by decide) rfl ?_
  refine st_iload_n G 23 rfl 4 rfl dX5_gets_22 rfl ?_
  refine st_if_ne G 33 26 rfl dX5_gets_23 rfl (fun c => ?_) (fun c => ?_)
  · have h := h.1 c
    refine st_iload G 35 rfl 0 rfl dX5_gets_33 ?_
    refine st_L (L' := [(0, .ref q_t), (1, .int x1), (2, .int x2), (3, .int x3), (4, .int x4), (5, .int r_2), (6, .int (1 : Int32))]) [2, 3, 4, 5, 6, 1, 0] rfl ?_
    exact b_X5_gets_35 G R h
  have h := h.2 c
  refine st_iload G 28 rfl 0 rfl dX5_gets_26 ?_
  refine st_iconst G 29 rfl (2 : Int32) (by decide) dX5_gets_28 ?_
  refine st_iadd G 30 rfl dX5_gets_29 ?_
  refine st_goto G 35 dX5_gets_30 rfl ?_
  refine st_L (L' := [(0, .ref q_t), (1, .int x1), (2, .int x2), (3, .int x3), (4, .int x4), (5, .int r_2), (6, .int (1 : Int32))]) [2, 3, 4, 5, 6, 1, 0] rfl ?_
  exact b_X5_gets_35 G R h
set_option maxRecDepth 100000 in
set_option maxHeartbeats 4000000 in
theorem c_X5_gets (l : Launch) (D : va_G) (X : XT) (q_t q_t_km q_t_father q_t_mother q_t_from q_t_spoons q_t_owed q_t_tape q_t_tx0 q_t_tx1 q_t_waiting : Nat) (c_people : Int32) (c_year : Int32) (c_z : Int32) (c_bytes : Int32) (c_waits : Int32) (c_km : Nat → Int32) (x1 : Int32) (x2 : Int32) (x3 : Int32) (x4 : Int32) (Q : Int32 → Prop) (h : wp_X5_gets x1 x2 x3 x4 c_km Q) : CTi l D X yX5_gets cX5_gets 8 .int rm_X5_gets [.ref q_t, .int x1, .int x2, .int x3, .int x4] [(q_t, .inr (5, [.int c_people, .ref q_t_km, .ref q_t_father, .ref q_t_mother, .ref q_t_from, .ref q_t_spoons, .ref q_t_owed, .int c_year, .int c_z, .ref q_t_tape, .int c_bytes, .ref q_t_tx0, .ref q_t_tx1, .ref q_t_waiting, .int c_waits])), (q_t_km, .inl (X.cI, 8, .inl c_km))] (fun (r : Int32) w => (Q r) ∧ w = [(q_t, .inr (5, [.int c_people, .ref q_t_km, .ref q_t_father, .ref q_t_mother, .ref q_t_from, .ref q_t_spoons, .ref q_t_owed, .int c_year, .int c_z, .ref q_t_tape, .int c_bytes, .ref q_t_tx0, .ref q_t_tx1, .ref q_t_waiting, .int c_waits])), (q_t_km, .inl (X.cI, 8, .inl c_km))]) :=
  ct_i (by decide) (Nat.le_of_ble_eq_true rfl) (fun g hl hD hX G R => by subst hl; subst hD; subst hX; exact b_X5_gets_e G R h)
set_option maxRecDepth 100000 in
set_option maxHeartbeats 4000000 in
theorem b_X5_gainOf_e {g : GT} (G : GOOD g RX5 cX5_gainOf 5 rm_X5_gainOf) {q_t q_t_km q_t_father q_t_mother q_t_from q_t_spoons q_t_owed q_t_tape q_t_tx0 q_t_tx0_parts q_t_tx0_stack q_t_tx1 q_t_tx1_parts q_t_tx1_stack q_t_waiting : Nat} {c_people : Int32} {c_year : Int32} {c_z : Int32} {c_bytes : Int32} {c_waits : Int32} {c_km : Nat → Int32} {c_tx_size : Nat → Int32} {c_tx_parts : Nat → Nat → Int32} {c_tx_stack : Nat → Nat → Int32} {x1 : Int32} {x2 : Int32} {x3 : Int32} {x4 : Int32} {Q : Int32 → (Nat → Nat → Int32) → Prop} (R : RETi g cX5_gainOf 8 (fun (r : Int32) w => ∃ (c_tx_stack' : Nat → Nat → Int32), Q r c_tx_stack' ∧ w = [(q_t, .inr (5, [.int c_people, .ref q_t_km, .ref q_t_father, .ref q_t_mother, .ref q_t_from, .ref q_t_spoons, .ref q_t_owed, .int c_year, .int c_z, .ref q_t_tape, .int c_bytes, .ref q_t_tx0, .ref q_t_tx1, .ref q_t_waiting, .int c_waits])), (q_t_km, .inl (g.X.cI, 8, .inl c_km)), (q_t_tx0, .inr (3, [.ref q_t_tx0_parts, .ref q_t_tx0_stack, .int (c_tx_size 0)])), (q_t_tx0_parts, .inl (g.X.cI, 60, .inl (c_tx_parts 0))), (q_t_tx0_stack, .inl (g.X.cI, 60, .inl (c_tx_stack' 0))), (q_t_tx1, .inr (3, [.ref q_t_tx1_parts, .ref q_t_tx1_stack, .int (c_tx_size 1)])), (q_t_tx1_parts, .inl (g.X.cI, 60, .inl (c_tx_parts 1))), (q_t_tx1_stack, .inl (g.X.cI, 60, .inl (c_tx_stack' 1)))])) (h : wp_X5_gainOf x1 x2 x3 x4 c_km c_tx_size c_tx_parts c_tx_stack Q) : ST g 0 0 0 [(0, .ref q_t), (1, .int x1), (2, .int x2), (3, .int x3), (4, .int x4)] [] [(q_t, .inr (5, [.int c_people, .ref q_t_km, .ref q_t_father, .ref q_t_mother, .ref q_t_from, .ref q_t_spoons, .ref q_t_owed, .int c_year, .int c_z, .ref q_t_tape, .int c_bytes, .ref q_t_tx0, .ref q_t_tx1, .ref q_t_waiting, .int c_waits])), (q_t_km, .inl (g.X.cI, 8, .inl c_km)), (q_t_tx0, .inr (3, [.ref q_t_tx0_parts, .ref q_t_tx0_stack, .int (c_tx_size 0)])), (q_t_tx0_parts, .inl (g.X.cI, 60, .inl (c_tx_parts 0))), (q_t_tx0_stack, .inl (g.X.cI, 60, .inl (c_tx_stack 0))), (q_t_tx1, .inr (3, [.ref q_t_tx1_parts, .ref q_t_tx1_stack, .int (c_tx_size 1)])), (q_t_tx1_parts, .inl (g.X.cI, 60, .inl (c_tx_parts 1))), (q_t_tx1_stack, .inl (g.X.cI, 60, .inl (c_tx_stack 1)))] := by
  unfold wp_X5_gainOf at h
  refine st_aload_n G 1 rfl 0 rfl dX5_gainOf_0 rfl ?_
  refine st_iconst G 2 rfl (0 : Int32) (by decide) dX5_gainOf_1 ?_
  refine st_aload_n G 3 rfl 0 rfl dX5_gainOf_2 rfl ?_
  refine st_iload_n G 4 rfl 1 rfl dX5_gainOf_3 rfl ?_
  refine st_iload_n G 5 rfl 2 rfl dX5_gainOf_4 rfl ?_
  refine st_iload_n G 6 rfl 3 rfl dX5_gainOf_5 rfl ?_
  refine st_iload G 8 rfl 4 rfl dX5_gainOf_6 ?_
  refine st_cVio G lk_X5_96 (c_X5_gets g.l g.D g.X q_t q_t_km q_t_father q_t_mother q_t_from q_t_spoons q_t_owed q_t_tape q_t_tx0 q_t_tx1 q_t_waiting c_people c_year c_z c_bytes c_waits c_km x1 x2 x3 x4 _ h) ⟨rfl, rfl, ⟨Nat.le_of_ble_eq_true rfl, Nat.le_of_ble_eq_true rfl⟩, Nat.zero_le _, Nat.zero_le _⟩ 11 rfl [0, 1] rfl (by decide) 0 5 rfl rfl rfl (Nat.le_of_ble_eq_true rfl) rfl dX5_gainOf_8 (fun r_8 h => ?_)
  refine st_iload_n G 12 rfl 2 rfl dX5_gainOf_11 rfl ?_
  refine st_iload G 14 rfl 4 rfl dX5_gainOf_12 ?_
  refine st_cVi G lk_X5_100 (c_X5_given g.l g.D g.X q_t q_t_km q_t_father q_t_mother q_t_from q_t_spoons q_t_owed q_t_tape q_t_tx0 q_t_tx0_parts q_t_tx0_stack q_t_tx1 q_t_tx1_parts q_t_tx1_stack q_t_waiting c_people c_year c_z c_bytes c_waits c_tx_size c_tx_parts c_tx_stack (0 : Int32) r_8 x2 x4 _ h) ⟨rfl, rfl, ⟨Nat.le_of_ble_eq_true rfl, Nat.le_of_ble_eq_true rfl⟩, Nat.zero_le _, Nat.zero_le _⟩ 17 rfl [0, 2, 3, 4, 5, 6, 7] rfl (by decide) 0 5 rfl rfl rfl (Nat.le_of_ble_eq_true rfl) rfl dX5_gainOf_14 (fun r_14 w hq => ?_)
  obtain ⟨c_tx_stack_14, h, rfl⟩ := hq
  refine st_wp (ws' := [(q_t, .inr (5, [.int c_people, .ref q_t_km, .ref q_t_father, .ref q_t_mother, .ref q_t_from, .ref q_t_spoons, .ref q_t_owed, .int c_year, .int c_z, .ref q_t_tape, .int c_bytes, .ref q_t_tx0, .ref q_t_tx1, .ref q_t_waiting, .int c_waits])), (q_t_km, .inl (g.X.cI, 8, .inl c_km)), (q_t_tx0, .inr (3, [.ref q_t_tx0_parts, .ref q_t_tx0_stack, .int (c_tx_size 0)])), (q_t_tx0_parts, .inl (g.X.cI, 60, .inl (c_tx_parts 0))), (q_t_tx0_stack, .inl (g.X.cI, 60, .inl (c_tx_stack_14 0))), (q_t_tx1, .inr (3, [.ref q_t_tx1_parts, .ref q_t_tx1_stack, .int (c_tx_size 1)])), (q_t_tx1_parts, .inl (g.X.cI, 60, .inl (c_tx_parts 1))), (q_t_tx1_stack, .inl (g.X.cI, 60, .inl (c_tx_stack_14 1)))]) 8 [1] (by decide) rfl rfl (by rfl) [(q_t_km, .inl (g.X.cI, 8, .inl c_km))] (by rfl) rfl ?_
  exact R _ _ _ _ dX5_gainOf_17 (Nat.le_of_ble_eq_true rfl) ⟨_, h, rfl⟩
set_option maxRecDepth 100000 in
set_option maxHeartbeats 4000000 in
theorem c_X5_gainOf (l : Launch) (D : va_G) (X : XT) (q_t q_t_km q_t_father q_t_mother q_t_from q_t_spoons q_t_owed q_t_tape q_t_tx0 q_t_tx0_parts q_t_tx0_stack q_t_tx1 q_t_tx1_parts q_t_tx1_stack q_t_waiting : Nat) (c_people : Int32) (c_year : Int32) (c_z : Int32) (c_bytes : Int32) (c_waits : Int32) (c_km : Nat → Int32) (c_tx_size : Nat → Int32) (c_tx_parts : Nat → Nat → Int32) (c_tx_stack : Nat → Nat → Int32) (x1 : Int32) (x2 : Int32) (x3 : Int32) (x4 : Int32) (Q : Int32 → (Nat → Nat → Int32) → Prop) (h : wp_X5_gainOf x1 x2 x3 x4 c_km c_tx_size c_tx_parts c_tx_stack Q) : CTi l D X yX5_gainOf cX5_gainOf 5 .int rm_X5_gainOf [.ref q_t, .int x1, .int x2, .int x3, .int x4] [(q_t, .inr (5, [.int c_people, .ref q_t_km, .ref q_t_father, .ref q_t_mother, .ref q_t_from, .ref q_t_spoons, .ref q_t_owed, .int c_year, .int c_z, .ref q_t_tape, .int c_bytes, .ref q_t_tx0, .ref q_t_tx1, .ref q_t_waiting, .int c_waits])), (q_t_km, .inl (X.cI, 8, .inl c_km)), (q_t_tx0, .inr (3, [.ref q_t_tx0_parts, .ref q_t_tx0_stack, .int (c_tx_size 0)])), (q_t_tx0_parts, .inl (X.cI, 60, .inl (c_tx_parts 0))), (q_t_tx0_stack, .inl (X.cI, 60, .inl (c_tx_stack 0))), (q_t_tx1, .inr (3, [.ref q_t_tx1_parts, .ref q_t_tx1_stack, .int (c_tx_size 1)])), (q_t_tx1_parts, .inl (X.cI, 60, .inl (c_tx_parts 1))), (q_t_tx1_stack, .inl (X.cI, 60, .inl (c_tx_stack 1)))] (fun (r : Int32) w => ∃ (c_tx_stack' : Nat → Nat → Int32), Q r c_tx_stack' ∧ w = [(q_t, .inr (5, [.int c_people, .ref q_t_km, .ref q_t_father, .ref q_t_mother, .ref q_t_from, .ref q_t_spoons, .ref q_t_owed, .int c_year, .int c_z, .ref q_t_tape, .int c_bytes, .ref q_t_tx0, .ref q_t_tx1, .ref q_t_waiting, .int c_waits])), (q_t_km, .inl (X.cI, 8, .inl c_km)), (q_t_tx0, .inr (3, [.ref q_t_tx0_parts, .ref q_t_tx0_stack, .int (c_tx_size 0)])), (q_t_tx0_parts, .inl (X.cI, 60, .inl (c_tx_parts 0))), (q_t_tx0_stack, .inl (X.cI, 60, .inl (c_tx_stack' 0))), (q_t_tx1, .inr (3, [.ref q_t_tx1_parts, .ref q_t_tx1_stack, .int (c_tx_size 1)])), (q_t_tx1_parts, .inl (X.cI, 60, .inl (c_tx_parts 1))), (q_t_tx1_stack, .inl (X.cI, 60, .inl (c_tx_stack' 1)))]) :=
  ct_i (by decide) (Nat.le_of_ble_eq_true rfl) (fun g hl hD hX G R => by subst hl; subst hD; subst hX; exact b_X5_gainOf_e G R h)
set_option maxRecDepth 100000 in
set_option maxHeartbeats 4000000 in
theorem b_X6_gain_e {g : GT} (G : GOOD g RX6 cX6_gain 3 rm_X6_gain) {q_t q_t_w q_t_w_km q_t_w_father q_t_w_mother q_t_w_from q_t_w_spoons q_t_w_owed q_t_w_tape q_t_w_tx0 q_t_w_tx0_parts q_t_w_tx0_stack q_t_w_tx1 q_t_w_tx1_parts q_t_w_tx1_stack q_t_w_waiting q_t_k q_t_errors q_t_sheets q_t_r q_t_th q_t_sp : Nat} {c_images : Int32} {w_people : Int32} {w_year : Int32} {w_z : Int32} {w_bytes : Int32} {w_waits : Int32} {w_km : Nat → Int32} {w_spoons : Nat → Int32} {w_tx_size : Nat → Int32} {w_tx_parts : Nat → Nat → Int32} {w_tx_stack : Nat → Nat → Int32} {c_errors : Nat → Int32} {x1 : Int32} {x2 : Int32} {Q : Int32 → (Nat → Nat → Int32) → (Nat → Int32) → Prop} (R : RETi g cX6_gain 11 (fun (r : Int32) w => ∃ (w_tx_stack' : Nat → Nat → Int32) (c_errors' : Nat → Int32), Q r w_tx_stack' c_errors' ∧ w = [(q_t, .inr (6, [.ref q_t_w, .ref q_t_k, .int c_images, .ref q_t_errors, .ref q_t_sheets, .ref q_t_r, .ref q_t_th, .ref q_t_sp])), (q_t_w, .inr (5, [.int w_people, .ref q_t_w_km, .ref q_t_w_father, .ref q_t_w_mother, .ref q_t_w_from, .ref q_t_w_spoons, .ref q_t_w_owed, .int w_year, .int w_z, .ref q_t_w_tape, .int w_bytes, .ref q_t_w_tx0, .ref q_t_w_tx1, .ref q_t_w_waiting, .int w_waits])), (q_t_w_km, .inl (g.X.cI, 8, .inl w_km)), (q_t_w_spoons, .inl (g.X.cI, 40, .inl w_spoons)), (q_t_w_tx0, .inr (3, [.ref q_t_w_tx0_parts, .ref q_t_w_tx0_stack, .int (w_tx_size 0)])), (q_t_w_tx0_parts, .inl (g.X.cI, 60, .inl (w_tx_parts 0))), (q_t_w_tx0_stack, .inl (g.X.cI, 60, .inl (w_tx_stack' 0))), (q_t_w_tx1, .inr (3, [.ref q_t_w_tx1_parts, .ref q_t_w_tx1_stack, .int (w_tx_size 1)])), (q_t_w_tx1_parts, .inl (g.X.cI, 60, .inl (w_tx_parts 1))), (q_t_w_tx1_stack, .inl (g.X.cI, 60, .inl (w_tx_stack' 1))), (q_t_errors, .inl (g.X.cI, 7, .inl c_errors'))])) (h : wp_X6_gain x1 x2 w_people w_year w_km w_spoons w_tx_size w_tx_parts w_tx_stack c_errors Q) : ST g 0 0 0 [(0, .ref q_t), (1, .int x1), (2, .int x2)] [] [(q_t, .inr (6, [.ref q_t_w, .ref q_t_k, .int c_images, .ref q_t_errors, .ref q_t_sheets, .ref q_t_r, .ref q_t_th, .ref q_t_sp])), (q_t_w, .inr (5, [.int w_people, .ref q_t_w_km, .ref q_t_w_father, .ref q_t_w_mother, .ref q_t_w_from, .ref q_t_w_spoons, .ref q_t_w_owed, .int w_year, .int w_z, .ref q_t_w_tape, .int w_bytes, .ref q_t_w_tx0, .ref q_t_w_tx1, .ref q_t_w_waiting, .int w_waits])), (q_t_w_km, .inl (g.X.cI, 8, .inl w_km)), (q_t_w_spoons, .inl (g.X.cI, 40, .inl w_spoons)), (q_t_w_tx0, .inr (3, [.ref q_t_w_tx0_parts, .ref q_t_w_tx0_stack, .int (w_tx_size 0)])), (q_t_w_tx0_parts, .inl (g.X.cI, 60, .inl (w_tx_parts 0))), (q_t_w_tx0_stack, .inl (g.X.cI, 60, .inl (w_tx_stack 0))), (q_t_w_tx1, .inr (3, [.ref q_t_w_tx1_parts, .ref q_t_w_tx1_stack, .int (w_tx_size 1)])), (q_t_w_tx1_parts, .inl (g.X.cI, 60, .inl (w_tx_parts 1))), (q_t_w_tx1_stack, .inl (g.X.cI, 60, .inl (w_tx_stack 1))), (q_t_errors, .inl (g.X.cI, 7, .inl c_errors))] := by
  unfold wp_X6_gain at h
  refine st_aload_n G 1 rfl 0 rfl dX6_gain_0 rfl ?_
  refine st_iload_n G 2 rfl 1 rfl dX6_gain_1 rfl ?_
  refine st_cVio G lk_X6_74 (c_X6_notOne g.l g.D g.X q_t q_t_w q_t_w_km q_t_w_father q_t_w_mother q_t_w_from q_t_w_spoons q_t_w_owed q_t_w_tape q_t_w_tx0 q_t_w_tx1 q_t_w_waiting q_t_k q_t_errors q_t_sheets q_t_r q_t_th q_t_sp c_images w_people w_year w_z w_bytes w_waits x1 _ h) ⟨rfl, rfl, ⟨Nat.le_of_ble_eq_true rfl, Nat.le_of_ble_eq_true rfl⟩, Nat.zero_le _, Nat.zero_le _⟩ 5 rfl [0, 1] rfl (by decide) 0 6 rfl rfl rfl (Nat.le_of_ble_eq_true rfl) rfl dX6_gain_2 (fun r_2 h => ?_)
  refine st_if_ne G 15 8 rfl dX6_gain_5 rfl (fun c => ?_) (fun c => ?_)
  · have h := h.1 c
    refine st_aload_n G 16 rfl 0 rfl dX6_gain_15 rfl ?_
    refine st_iconst G 17 rfl (1 : Int32) (by decide) dX6_gain_16 ?_
    refine st_cVi G lk_X6_55 (c_X6_error g.l g.D g.X q_t q_t_w q_t_k q_t_errors q_t_sheets q_t_r q_t_th q_t_sp c_images c_errors (1 : Int32) _ h) ⟨rfl, rfl, ⟨Nat.le_of_ble_eq_true rfl, Nat.le_of_ble_eq_true rfl⟩, Nat.zero_le _, Nat.zero_le _⟩ 20 rfl [0, 10] rfl (by decide) 0 6 rfl rfl rfl (Nat.le_of_ble_eq_true rfl) rfl dX6_gain_17 (fun r_17 w hq => ?_)
    obtain ⟨c_errors_17, h, rfl⟩ := hq
    refine st_wp (ws' := [(q_t, .inr (6, [.ref q_t_w, .ref q_t_k, .int c_images, .ref q_t_errors, .ref q_t_sheets, .ref q_t_r, .ref q_t_th, .ref q_t_sp])), (q_t_w, .inr (5, [.int w_people, .ref q_t_w_km, .ref q_t_w_father, .ref q_t_w_mother, .ref q_t_w_from, .ref q_t_w_spoons, .ref q_t_w_owed, .int w_year, .int w_z, .ref q_t_w_tape, .int w_bytes, .ref q_t_w_tx0, .ref q_t_w_tx1, .ref q_t_w_waiting, .int w_waits])), (q_t_w_km, .inl (g.X.cI, 8, .inl w_km)), (q_t_w_spoons, .inl (g.X.cI, 40, .inl w_spoons)), (q_t_w_tx0, .inr (3, [.ref q_t_w_tx0_parts, .ref q_t_w_tx0_stack, .int (w_tx_size 0)])), (q_t_w_tx0_parts, .inl (g.X.cI, 60, .inl (w_tx_parts 0))), (q_t_w_tx0_stack, .inl (g.X.cI, 60, .inl (w_tx_stack 0))), (q_t_w_tx1, .inr (3, [.ref q_t_w_tx1_parts, .ref q_t_w_tx1_stack, .int (w_tx_size 1)])), (q_t_w_tx1_parts, .inl (g.X.cI, 60, .inl (w_tx_parts 1))), (q_t_w_tx1_stack, .inl (g.X.cI, 60, .inl (w_tx_stack 1))), (q_t_errors, .inl (g.X.cI, 7, .inl c_errors_17))]) 11 [1, 2, 3, 4, 5, 6, 7, 8, 9] (by decide) rfl rfl (by rfl) [(q_t_w, .inr (5, [.int w_people, .ref q_t_w_km, .ref q_t_w_father, .ref q_t_w_mother, .ref q_t_w_from, .ref q_t_w_spoons, .ref q_t_w_owed, .int w_year, .int w_z, .ref q_t_w_tape, .int w_bytes, .ref q_t_w_tx0, .ref q_t_w_tx1, .ref q_t_w_waiting, .int w_waits])), (q_t_w_km, .inl (g.X.cI, 8, .inl w_km)), (q_t_w_spoons, .inl (g.X.cI, 40, .inl w_spoons)), (q_t_w_tx0, .inr (3, [.ref q_t_w_tx0_parts, .ref q_t_w_tx0_stack, .int (w_tx_size 0)])), (q_t_w_tx0_parts, .inl (g.X.cI, 60, .inl (w_tx_parts 0))), (q_t_w_tx0_stack, .inl (g.X.cI, 60, .inl (w_tx_stack 0))), (q_t_w_tx1, .inr (3, [.ref q_t_w_tx1_parts, .ref q_t_w_tx1_stack, .int (w_tx_size 1)])), (q_t_w_tx1_parts, .inl (g.X.cI, 60, .inl (w_tx_parts 1))), (q_t_w_tx1_stack, .inl (g.X.cI, 60, .inl (w_tx_stack 1)))] (by rfl) rfl ?_
    exact R _ _ _ _ dX6_gain_20 (Nat.le_of_ble_eq_true rfl) ⟨_, _, h, rfl⟩
  have h := h.2 c
  refine st_iload_n G 9 rfl 2 rfl dX6_gain_8 rfl ?_
  refine st_cSio G lk_X6_108 (c_X6_notSort g.l g.D g.X x2 _ h) ⟨rfl, rfl, ⟨Nat.le_of_ble_eq_true rfl, Nat.le_of_ble_eq_true rfl⟩, Nat.zero_le _, Nat.zero_le _⟩ 12 rfl [] rfl (by decide) rfl (Nat.le_of_ble_eq_true rfl) rfl dX6_gain_9 (fun r_9 h => ?_)
  refine st_if_eq G 21 15 rfl dX6_gain_12 rfl (fun c => ?_) (fun c => ?_)
  · have h := h.1 c
    refine st_aload_n G 22 rfl 0 rfl dX6_gain_21 rfl ?_
    refine st_get G inX6 rfl 0 (by decide) wd_16 25 rfl 0 rfl rfl dX6_gain_22 ?_
    refine st_iload_n G 26 rfl 1 rfl dX6_gain_25 rfl ?_
    refine st_iload_n G 27 rfl 2 rfl dX6_gain_26 rfl ?_
    refine st_aload_n G 28 rfl 0 rfl dX6_gain_27 rfl ?_
    refine st_get G inX6 rfl 0 (by decide) wd_16 31 rfl 0 rfl rfl dX6_gain_28 ?_
    refine st_get G inX5 rfl 5 (by decide) wd_189 34 rfl 1 rfl rfl dX6_gain_31 ?_
    refine st_iload_n G 35 rfl 1 rfl dX6_gain_34 rfl ?_
    refine st_iload_n G 36 rfl 2 rfl dX6_gain_35 rfl ?_
    refine st_cSio G lk_X6_111 (c_X6_cell g.l g.D g.X x1 x2 _ h) ⟨rfl, rfl, ⟨Nat.le_of_ble_eq_true rfl, Nat.le_of_ble_eq_true rfl⟩, Nat.zero_le _, Nat.zero_le _⟩ 39 rfl [] rfl (by decide) rfl (Nat.le_of_ble_eq_true rfl) rfl dX6_gain_36 (fun r_36 h => ?_)
    obtain ⟨hin, h⟩ := h
    refine st_iald G 40 rfl 3 rfl hin dX6_gain_39 ?_
    refine st_aload_n G 41 rfl 0 rfl dX6_gain_40 rfl ?_
    refine st_get G inX6 rfl 0 (by decide) wd_16 44 rfl 0 rfl rfl dX6_gain_41 ?_
    refine st_get G inX5 rfl 7 (by decide) wd_333 47 rfl 1 rfl rfl dX6_gain_44 ?_
    refine st_cVi G lk_X6_122 (c_X5_gainOf g.l g.D g.X q_t_w q_t_w_km q_t_w_father q_t_w_mother q_t_w_from q_t_w_spoons q_t_w_owed q_t_w_tape q_t_w_tx0 q_t_w_tx0_parts q_t_w_tx0_stack q_t_w_tx1 q_t_w_tx1_parts q_t_w_tx1_stack q_t_w_waiting w_people w_year w_z w_bytes w_waits w_km w_tx_size w_tx_parts w_tx_stack x1 x2 (w_spoons r_36.toNatClampNeg) w_year _ h) ⟨rfl, rfl, ⟨Nat.le_of_ble_eq_true rfl, Nat.le_of_ble_eq_true rfl⟩, Nat.zero_le _, Nat.zero_le _⟩ 50 rfl [1, 2, 4, 5, 6, 7, 8, 9] rfl (by decide) 0 5 rfl rfl rfl (Nat.le_of_ble_eq_true rfl) rfl dX6_gain_47 (fun r_47 w hq => ?_)
    obtain ⟨w_tx_stack_47, h, rfl⟩ := hq
    refine st_wp (ws' := [(q_t, .inr (6, [.ref q_t_w, .ref q_t_k, .int c_images, .ref q_t_errors, .ref q_t_sheets, .ref q_t_r, .ref q_t_th, .ref q_t_sp])), (q_t_w, .inr (5, [.int w_people, .ref q_t_w_km, .ref q_t_w_father, .ref q_t_w_mother, .ref q_t_w_from, .ref q_t_w_spoons, .ref q_t_w_owed, .int w_year, .int w_z, .ref q_t_w_tape, .int w_bytes, .ref q_t_w_tx0, .ref q_t_w_tx1, .ref q_t_w_waiting, .int w_waits])), (q_t_w_km, .inl (g.X.cI, 8, .inl w_km)), (q_t_w_spoons, .inl (g.X.cI, 40, .inl w_spoons)), (q_t_w_tx0, .inr (3, [.ref q_t_w_tx0_parts, .ref q_t_w_tx0_stack, .int (w_tx_size 0)])), (q_t_w_tx0_parts, .inl (g.X.cI, 60, .inl (w_tx_parts 0))), (q_t_w_tx0_stack, .inl (g.X.cI, 60, .inl (w_tx_stack_47 0))), (q_t_w_tx1, .inr (3, [.ref q_t_w_tx1_parts, .ref q_t_w_tx1_stack, .int (w_tx_size 1)])), (q_t_w_tx1_parts, .inl (g.X.cI, 60, .inl (w_tx_parts 1))), (q_t_w_tx1_stack, .inl (g.X.cI, 60, .inl (w_tx_stack_47 1))), (q_t_errors, .inl (g.X.cI, 7, .inl c_errors))]) 11 [0, 3, 10] (by decide) rfl rfl (by rfl) [(q_t, .inr (6, [.ref q_t_w, .ref q_t_k, .int c_images, .ref q_t_errors, .ref q_t_sheets, .ref q_t_r, .ref q_t_th, .ref q_t_sp])), (q_t_w_spoons, .inl (g.X.cI, 40, .inl w_spoons)), (q_t_errors, .inl (g.X.cI, 7, .inl c_errors))] (by rfl) rfl ?_
    exact R _ _ _ _ dX6_gain_50 (Nat.le_of_ble_eq_true rfl) ⟨_, _, h, rfl⟩
  have h := h.2 c
  refine st_aload_n G 16 rfl 0 rfl dX6_gain_15 rfl ?_
  refine st_iconst G 17 rfl (1 : Int32) (by decide) dX6_gain_16 ?_
  refine st_cVi G lk_X6_55 (c_X6_error g.l g.D g.X q_t q_t_w q_t_k q_t_errors q_t_sheets q_t_r q_t_th q_t_sp c_images c_errors (1 : Int32) _ h) ⟨rfl, rfl, ⟨Nat.le_of_ble_eq_true rfl, Nat.le_of_ble_eq_true rfl⟩, Nat.zero_le _, Nat.zero_le _⟩ 20 rfl [0, 10] rfl (by decide) 0 6 rfl rfl rfl (Nat.le_of_ble_eq_true rfl) rfl dX6_gain_17 (fun r_17 w hq => ?_)
  obtain ⟨c_errors_17, h, rfl⟩ := hq
  refine st_wp (ws' := [(q_t, .inr (6, [.ref q_t_w, .ref q_t_k, .int c_images, .ref q_t_errors, .ref q_t_sheets, .ref q_t_r, .ref q_t_th, .ref q_t_sp])), (q_t_w, .inr (5, [.int w_people, .ref q_t_w_km, .ref q_t_w_father, .ref q_t_w_mother, .ref q_t_w_from, .ref q_t_w_spoons, .ref q_t_w_owed, .int w_year, .int w_z, .ref q_t_w_tape, .int w_bytes, .ref q_t_w_tx0, .ref q_t_w_tx1, .ref q_t_w_waiting, .int w_waits])), (q_t_w_km, .inl (g.X.cI, 8, .inl w_km)), (q_t_w_spoons, .inl (g.X.cI, 40, .inl w_spoons)), (q_t_w_tx0, .inr (3, [.ref q_t_w_tx0_parts, .ref q_t_w_tx0_stack, .int (w_tx_size 0)])), (q_t_w_tx0_parts, .inl (g.X.cI, 60, .inl (w_tx_parts 0))), (q_t_w_tx0_stack, .inl (g.X.cI, 60, .inl (w_tx_stack 0))), (q_t_w_tx1, .inr (3, [.ref q_t_w_tx1_parts, .ref q_t_w_tx1_stack, .int (w_tx_size 1)])), (q_t_w_tx1_parts, .inl (g.X.cI, 60, .inl (w_tx_parts 1))), (q_t_w_tx1_stack, .inl (g.X.cI, 60, .inl (w_tx_stack 1))), (q_t_errors, .inl (g.X.cI, 7, .inl c_errors_17))]) 11 [1, 2, 3, 4, 5, 6, 7, 8, 9] (by decide) rfl rfl (by rfl) [(q_t_w, .inr (5, [.int w_people, .ref q_t_w_km, .ref q_t_w_father, .ref q_t_w_mother, .ref q_t_w_from, .ref q_t_w_spoons, .ref q_t_w_owed, .int w_year, .int w_z, .ref q_t_w_tape, .int w_bytes, .ref q_t_w_tx0, .ref q_t_w_tx1, .ref q_t_w_waiting, .int w_waits])), (q_t_w_km, .inl (g.X.cI, 8, .inl w_km)), (q_t_w_spoons, .inl (g.X.cI, 40, .inl w_spoons)), (q_t_w_tx0, .inr (3, [.ref q_t_w_tx0_parts, .ref q_t_w_tx0_stack, .int (w_tx_size 0)])), (q_t_w_tx0_parts, .inl (g.X.cI, 60, .inl (w_tx_parts 0))), (q_t_w_tx0_stack, .inl (g.X.cI, 60, .inl (w_tx_stack 0))), (q_t_w_tx1, .inr (3, [.ref q_t_w_tx1_parts, .ref q_t_w_tx1_stack, .int (w_tx_size 1)])), (q_t_w_tx1_parts, .inl (g.X.cI, 60, .inl (w_tx_parts 1))), (q_t_w_tx1_stack, .inl (g.X.cI, 60, .inl (w_tx_stack 1)))] (by rfl) rfl ?_
  exact R _ _ _ _ dX6_gain_20 (Nat.le_of_ble_eq_true rfl) ⟨_, _, h, rfl⟩
set_option maxRecDepth 100000 in
set_option maxHeartbeats 4000000 in
theorem c_X6_gain (l : Launch) (D : va_G) (X : XT) (q_t q_t_w q_t_w_km q_t_w_father q_t_w_mother q_t_w_from q_t_w_spoons q_t_w_owed q_t_w_tape q_t_w_tx0 q_t_w_tx0_parts q_t_w_tx0_stack q_t_w_tx1 q_t_w_tx1_parts q_t_w_tx1_stack q_t_w_waiting q_t_k q_t_errors q_t_sheets q_t_r q_t_th q_t_sp : Nat) (c_images : Int32) (w_people : Int32) (w_year : Int32) (w_z : Int32) (w_bytes : Int32) (w_waits : Int32) (w_km : Nat → Int32) (w_spoons : Nat → Int32) (w_tx_size : Nat → Int32) (w_tx_parts : Nat → Nat → Int32) (w_tx_stack : Nat → Nat → Int32) (c_errors : Nat → Int32) (x1 : Int32) (x2 : Int32) (Q : Int32 → (Nat → Nat → Int32) → (Nat → Int32) → Prop) (h : wp_X6_gain x1 x2 w_people w_year w_km w_spoons w_tx_size w_tx_parts w_tx_stack c_errors Q) : CTi l D X yX6_gain cX6_gain 3 .int rm_X6_gain [.ref q_t, .int x1, .int x2] [(q_t, .inr (6, [.ref q_t_w, .ref q_t_k, .int c_images, .ref q_t_errors, .ref q_t_sheets, .ref q_t_r, .ref q_t_th, .ref q_t_sp])), (q_t_w, .inr (5, [.int w_people, .ref q_t_w_km, .ref q_t_w_father, .ref q_t_w_mother, .ref q_t_w_from, .ref q_t_w_spoons, .ref q_t_w_owed, .int w_year, .int w_z, .ref q_t_w_tape, .int w_bytes, .ref q_t_w_tx0, .ref q_t_w_tx1, .ref q_t_w_waiting, .int w_waits])), (q_t_w_km, .inl (X.cI, 8, .inl w_km)), (q_t_w_spoons, .inl (X.cI, 40, .inl w_spoons)), (q_t_w_tx0, .inr (3, [.ref q_t_w_tx0_parts, .ref q_t_w_tx0_stack, .int (w_tx_size 0)])), (q_t_w_tx0_parts, .inl (X.cI, 60, .inl (w_tx_parts 0))), (q_t_w_tx0_stack, .inl (X.cI, 60, .inl (w_tx_stack 0))), (q_t_w_tx1, .inr (3, [.ref q_t_w_tx1_parts, .ref q_t_w_tx1_stack, .int (w_tx_size 1)])), (q_t_w_tx1_parts, .inl (X.cI, 60, .inl (w_tx_parts 1))), (q_t_w_tx1_stack, .inl (X.cI, 60, .inl (w_tx_stack 1))), (q_t_errors, .inl (X.cI, 7, .inl c_errors))] (fun (r : Int32) w => ∃ (w_tx_stack' : Nat → Nat → Int32) (c_errors' : Nat → Int32), Q r w_tx_stack' c_errors' ∧ w = [(q_t, .inr (6, [.ref q_t_w, .ref q_t_k, .int c_images, .ref q_t_errors, .ref q_t_sheets, .ref q_t_r, .ref q_t_th, .ref q_t_sp])), (q_t_w, .inr (5, [.int w_people, .ref q_t_w_km, .ref q_t_w_father, .ref q_t_w_mother, .ref q_t_w_from, .ref q_t_w_spoons, .ref q_t_w_owed, .int w_year, .int w_z, .ref q_t_w_tape, .int w_bytes, .ref q_t_w_tx0, .ref q_t_w_tx1, .ref q_t_w_waiting, .int w_waits])), (q_t_w_km, .inl (X.cI, 8, .inl w_km)), (q_t_w_spoons, .inl (X.cI, 40, .inl w_spoons)), (q_t_w_tx0, .inr (3, [.ref q_t_w_tx0_parts, .ref q_t_w_tx0_stack, .int (w_tx_size 0)])), (q_t_w_tx0_parts, .inl (X.cI, 60, .inl (w_tx_parts 0))), (q_t_w_tx0_stack, .inl (X.cI, 60, .inl (w_tx_stack' 0))), (q_t_w_tx1, .inr (3, [.ref q_t_w_tx1_parts, .ref q_t_w_tx1_stack, .int (w_tx_size 1)])), (q_t_w_tx1_parts, .inl (X.cI, 60, .inl (w_tx_parts 1))), (q_t_w_tx1_stack, .inl (X.cI, 60, .inl (w_tx_stack' 1))), (q_t_errors, .inl (X.cI, 7, .inl c_errors'))]) :=
  ct_i (by decide) (Nat.le_of_ble_eq_true rfl) (fun g hl hD hX G R => by subst hl; subst hD; subst hX; exact b_X6_gain_e G R h)
set_option maxRecDepth 100000 in
set_option maxHeartbeats 4000000 in
theorem b_X6_pair_e {g : GT} (G : GOOD g RX6 cX6_pair 2 rm_X6_pair) {x0 : Int32} {x1 : Int32} {Q : Int32 → Prop} (R : RETi g cX6_pair 0 (fun (r : Int32) w => (Q r) ∧ w = [])) (h : wp_X6_pair x0 x1 Q) : ST g 0 0 0 [(0, .int x0), (1, .int x1)] [] [] := by
  unfold wp_X6_pair at h
  refine st_iload_n G 1 rfl 0 rfl dX6_pair_0 rfl ?_
  refine st_bipush G 3 rfl (8 : Int32) (by decide) dX6_pair_1 ?_
  refine st_imul G 4 rfl dX6_pair_3 ?_
  refine st_iload_n G 5 rfl 1 rfl dX6_pair_4 rfl ?_
  refine st_iadd G 6 rfl dX6_pair_5 ?_
  exact R _ _ _ _ dX6_pair_6 (Nat.le_of_ble_eq_true rfl) ⟨h, rfl⟩
set_option maxRecDepth 100000 in
set_option maxHeartbeats 4000000 in
theorem c_X6_pair (l : Launch) (D : va_G) (X : XT) (x0 : Int32) (x1 : Int32) (Q : Int32 → Prop) (h : wp_X6_pair x0 x1 Q) : CTi l D X yX6_pair cX6_pair 2 .int rm_X6_pair [.int x0, .int x1] [] (fun (r : Int32) w => (Q r) ∧ w = []) :=
  ct_i (by decide) (Nat.le_of_ble_eq_true rfl) (fun g hl hD hX G R => by subst hl; subst hD; subst hX; exact b_X6_pair_e G R h)
set_option maxRecDepth 100000 in
set_option maxHeartbeats 4000000 in
theorem b_X5_canGo_e {g : GT} (G : GOOD g RX5 cX5_canGo 5 rm_X5_canGo) {q_t q_t_km q_t_father q_t_mother q_t_from q_t_spoons q_t_owed q_t_tape q_t_tx0 q_t_tx1 q_t_waiting : Nat} {c_people : Int32} {c_year : Int32} {c_z : Int32} {c_bytes : Int32} {c_waits : Int32} {c_spoons : Nat → Int32} {x1 : Int32} {x2 : Int32} {x3 : Int32} {x4 : Int32} {Q : Int32 → Prop} (R : RETz g cX5_canGo 2 (fun (r : Int32) w => (Q r) ∧ w = [(q_t, .inr (5, [.int c_people, .ref q_t_km, .ref q_t_father, .ref q_t_mother, .ref q_t_from, .ref q_t_spoons, .ref q_t_owed, .int c_year, .int c_z, .ref q_t_tape, .int c_bytes, .ref q_t_tx0, .ref q_t_tx1, .ref q_t_waiting, .int c_waits])), (q_t_spoons, .inl (g.X.cI, 40, .inl c_spoons))])) (h : wp_X5_canGo x1 x2 x3 x4 c_spoons Q) : ST g 0 0 0 [(0, .ref q_t), (1, .int x1), (2, .int x2), (3, .int x3), (4, .int x4)] [] [(q_t, .inr (5, [.int c_people, .ref q_t_km, .ref q_t_father, .ref q_t_mother, .ref q_t_from, .ref q_t_spoons, .ref q_t_owed, .int c_year, .int c_z, .ref q_t_tape, .int c_bytes, .ref q_t_tx0, .ref q_t_tx1, .ref q_t_waiting, .int c_waits])), (q_t_spoons, .inl (g.X.cI, 40, .inl c_spoons))] := by
  unfold wp_X5_canGo at h
  refine st_aload_n G 1 rfl 0 rfl dX5_canGo_0 rfl ?_
  refine st_get G inX5 rfl 5 (by decide) wd_43 4 rfl 0 rfl rfl dX5_canGo_1 ?_
  refine st_iload_n G 5 rfl 1 rfl dX5_canGo_4 rfl ?_
  refine st_iload_n G 6 rfl 3 rfl dX5_canGo_5 rfl ?_
  refine st_cNio G lk_X5_79 (c_X6_cell g.l g.D g.X x1 x3 _ h) ⟨rfl, rfl, ⟨Nat.le_of_ble_eq_true rfl, Nat.le_of_ble_eq_true rfl⟩, Nat.zero_le _, Nat.zero_le _⟩ 9 rfl [] rfl (by decide) rfl (Nat.le_of_ble_eq_true rfl) rfl dX5_canGo_6 (fun r_6 h => ?_)
  obtain ⟨hin, h⟩ := h
  refine st_iald G 10 rfl 1 rfl hin dX5_canGo_9 ?_
  refine st_iload G 12 rfl 4 rfl dX5_canGo_10 ?_
  refine st_icmp_lt G 37 15 rfl dX5_canGo_12 rfl (fun c => ?_) (fun c => ?_)
  · have h := h.1 c
    refine st_iconst G 38 rfl (0 : Int32) (by decide) dX5_canGo_37 ?_
    exact R _ _ _ _ dX5_canGo_38 (Nat.le_of_ble_eq_true rfl) rfl ⟨h, rfl⟩
  have h := h.2 c
  refine st_aload_n G 16 rfl 0 rfl dX5_canGo_15 rfl ?_
  refine st_get G inX5 rfl 5 (by decide) wd_43 19 rfl 0 rfl rfl dX5_canGo_16 ?_
  refine st_iload_n G 20 rfl 2 rfl dX5_canGo_19 rfl ?_
  refine st_iload_n G 21 rfl 3 rfl dX5_canGo_20 rfl ?_
  refine st_cNio G lk_X5_79 (c_X6_cell g.l g.D g.X x2 x3 _ h) ⟨rfl, rfl, ⟨Nat.le_of_ble_eq_true rfl, Nat.le_of_ble_eq_true rfl⟩, Nat.zero_le _, Nat.zero_le _⟩ 24 rfl [] rfl (by decide) rfl (Nat.le_of_ble_eq_true rfl) rfl dX5_canGo_21 (fun r_21 h => ?_)
  obtain ⟨hin, h⟩ := h
  refine st_iald G 25 rfl 1 rfl hin dX5_canGo_24 ?_
  refine st_iload G 27 rfl 4 rfl dX5_canGo_25 ?_
  refine st_iadd G 28 rfl dX5_canGo_27 ?_
  refine st_bipush G 30 rfl (99 : Int32) (by decide) dX5_canGo_28 ?_
  refine st_icmp_gt G 37 33 rfl dX5_canGo_30 rfl (fun c => ?_) (fun c => ?_)
  · have h := h.1 c
    refine st_iconst G 38 rfl (0 : Int32) (by decide) dX5_canGo_37 ?_
    exact R _ _ _ _ dX5_canGo_38 (Nat.le_of_ble_eq_true rfl) rfl ⟨h, rfl⟩
  have h := h.2 c
  refine st_iconst G 34 rfl (1 : Int32) (by decide) dX5_canGo_33 ?_
  refine st_goto G 38 dX5_canGo_34 rfl ?_
  exact R _ _ _ _ dX5_canGo_38 (Nat.le_of_ble_eq_true rfl) rfl ⟨h, rfl⟩
set_option maxRecDepth 100000 in
set_option maxHeartbeats 4000000 in
theorem c_X5_canGo (l : Launch) (D : va_G) (X : XT) (q_t q_t_km q_t_father q_t_mother q_t_from q_t_spoons q_t_owed q_t_tape q_t_tx0 q_t_tx1 q_t_waiting : Nat) (c_people : Int32) (c_year : Int32) (c_z : Int32) (c_bytes : Int32) (c_waits : Int32) (c_spoons : Nat → Int32) (x1 : Int32) (x2 : Int32) (x3 : Int32) (x4 : Int32) (Q : Int32 → Prop) (h : wp_X5_canGo x1 x2 x3 x4 c_spoons Q) : CTi l D X yX5_canGo cX5_canGo 5 .boolean rm_X5_canGo [.ref q_t, .int x1, .int x2, .int x3, .int x4] [(q_t, .inr (5, [.int c_people, .ref q_t_km, .ref q_t_father, .ref q_t_mother, .ref q_t_from, .ref q_t_spoons, .ref q_t_owed, .int c_year, .int c_z, .ref q_t_tape, .int c_bytes, .ref q_t_tx0, .ref q_t_tx1, .ref q_t_waiting, .int c_waits])), (q_t_spoons, .inl (X.cI, 40, .inl c_spoons))] (fun (r : Int32) w => (Q r) ∧ w = [(q_t, .inr (5, [.int c_people, .ref q_t_km, .ref q_t_father, .ref q_t_mother, .ref q_t_from, .ref q_t_spoons, .ref q_t_owed, .int c_year, .int c_z, .ref q_t_tape, .int c_bytes, .ref q_t_tx0, .ref q_t_tx1, .ref q_t_waiting, .int c_waits])), (q_t_spoons, .inl (X.cI, 40, .inl c_spoons))]) :=
  ct_z (by decide) (Nat.le_of_ble_eq_true rfl) (fun g hl hD hX G R => by subst hl; subst hD; subst hX; exact b_X5_canGo_e G R h)
set_option maxRecDepth 100000 in
set_option maxHeartbeats 4000000 in
theorem b_X5_go_e {g : GT} (G : GOOD g RX5 cX5_go 5 rm_X5_go) {q_t q_t_km q_t_father q_t_mother q_t_from q_t_spoons q_t_owed q_t_tape q_t_tx0 q_t_tx1 q_t_waiting : Nat} {c_people : Int32} {c_year : Int32} {c_z : Int32} {c_bytes : Int32} {c_waits : Int32} {c_spoons : Nat → Int32} {x1 : Int32} {x2 : Int32} {x3 : Int32} {x4 : Int32} {Q : (Nat → Int32) → Prop} (R : RETv g cX5_go 0 0 2 (fun w => ∃ (c_spoons' : Nat → Int32), Q c_spoons' ∧ w = [(q_t, .inr (5, [.int c_people, .ref q_t_km, .ref q_t_father, .ref q_t_mother, .ref q_t_from, .ref q_t_spoons, .ref q_t_owed, .int c_year, .int c_z, .ref q_t_tape, .int c_bytes, .ref q_t_tx0, .ref q_t_tx1, .ref q_t_waiting, .int c_waits])), (q_t_spoons, .inl (g.X.cI, 40, .inl c_spoons'))])) (h : wp_X5_go x1 x2 x3 x4 c_spoons Q) : ST g 0 0 0 [(0, .ref q_t), (1, .int x1), (2, .int x2), (3, .int x3), (4, .int x4)] [] [(q_t, .inr (5, [.int c_people, .ref q_t_km, .ref q_t_father, .ref q_t_mother, .ref q_t_from, .ref q_t_spoons, .ref q_t_owed, .int c_year, .int c_z, .ref q_t_tape, .int c_bytes, .ref q_t_tx0, .ref q_t_tx1, .ref q_t_waiting, .int c_waits])), (q_t_spoons, .inl (g.X.cI, 40, .inl c_spoons))] := by
  unfold wp_X5_go at h
  refine st_aload_n G 1 rfl 0 rfl dX5_go_0 rfl ?_
  refine st_get G inX5 rfl 5 (by decide) wd_43 4 rfl 0 rfl rfl dX5_go_1 ?_
  refine st_iload_n G 5 rfl 1 rfl dX5_go_4 rfl ?_
  refine st_iload_n G 6 rfl 3 rfl dX5_go_5 rfl ?_
  refine st_cNio G lk_X5_79 (c_X6_cell g.l g.D g.X x1 x3 _ h) ⟨rfl, rfl, ⟨Nat.le_of_ble_eq_true rfl, Nat.le_of_ble_eq_true rfl⟩, Nat.zero_le _, Nat.zero_le _⟩ 9 rfl [] rfl (by decide) rfl (Nat.le_of_ble_eq_true rfl) rfl dX5_go_6 (fun r_6 h => ?_)
  refine st_dup2 G 10 rfl dX5_go_9 rfl rfl ?_
  obtain ⟨hin, h⟩ := h
  refine st_iald G 11 rfl 1 rfl hin dX5_go_10 ?_
  refine st_iload G 13 rfl 4 rfl dX5_go_11 ?_
  refine st_isub G 14 rfl dX5_go_13 ?_
  obtain ⟨hin, h⟩ := h
  obtain ⟨c_spoons_14, ec_spoons_14⟩ : ∃ y : Nat → Int32, y = upd c_spoons r_6.toNatClampNeg ((c_spoons r_6.toNatClampNeg) - x4) := ⟨_, rfl⟩
  have h := h c_spoons_14 ec_spoons_14
  refine st_iast G [(q_t, .inr (5, [.int c_people, .ref q_t_km, .ref q_t_father, .ref q_t_mother, .ref q_t_from, .ref q_t_spoons, .ref q_t_owed, .int c_year, .int c_z, .ref q_t_tape, .int c_bytes, .ref q_t_tx0, .ref q_t_tx1, .ref q_t_waiting, .int c_waits])), (q_t_spoons, .inl (g.X.cI, 40, .inl c_spoons_14))] 15 rfl 1 rfl hin (by subst ec_spoons_14; rfl) dX5_go_14 ?_
  refine st_aload_n G 16 rfl 0 rfl dX5_go_15 rfl ?_
  refine st_get G inX5 rfl 5 (by decide) wd_43 19 rfl 0 rfl rfl dX5_go_16 ?_
  refine st_iload_n G 20 rfl 2 rfl dX5_go_19 rfl ?_
  refine st_iload_n G 21 rfl 3 rfl dX5_go_20 rfl ?_
  refine st_cNio G lk_X5_79 (c_X6_cell g.l g.D g.X x2 x3 _ h) ⟨rfl, rfl, ⟨Nat.le_of_ble_eq_true rfl, Nat.le_of_ble_eq_true rfl⟩, Nat.zero_le _, Nat.zero_le _⟩ 24 rfl [] rfl (by decide) rfl (Nat.le_of_ble_eq_true rfl) rfl dX5_go_21 (fun r_21 h => ?_)
  refine st_dup2 G 25 rfl dX5_go_24 rfl rfl ?_
  obtain ⟨hin, h⟩ := h
  refine st_iald G 26 rfl 1 rfl hin dX5_go_25 ?_
  refine st_iload G 28 rfl 4 rfl dX5_go_26 ?_
  refine st_iadd G 29 rfl dX5_go_28 ?_
  obtain ⟨hin, h⟩ := h
  obtain ⟨c_spoons_29, ec_spoons_29⟩ : ∃ y : Nat → Int32, y = upd c_spoons_14 r_21.toNatClampNeg ((c_spoons_14 r_21.toNatClampNeg) + x4) := ⟨_, rfl⟩
  have h := h c_spoons_29 ec_spoons_29
  refine st_iast G [(q_t, .inr (5, [.int c_people, .ref q_t_km, .ref q_t_father, .ref q_t_mother, .ref q_t_from, .ref q_t_spoons, .ref q_t_owed, .int c_year, .int c_z, .ref q_t_tape, .int c_bytes, .ref q_t_tx0, .ref q_t_tx1, .ref q_t_waiting, .int c_waits])), (q_t_spoons, .inl (g.X.cI, 40, .inl c_spoons_29))] 30 rfl 1 rfl hin (by subst ec_spoons_29; rfl) dX5_go_29 ?_
  exact R _ _ _ dX5_go_30 (Nat.le_of_ble_eq_true rfl) ⟨_, h, rfl⟩
set_option maxRecDepth 100000 in
set_option maxHeartbeats 4000000 in
theorem c_X5_go (l : Launch) (D : va_G) (X : XT) (q_t q_t_km q_t_father q_t_mother q_t_from q_t_spoons q_t_owed q_t_tape q_t_tx0 q_t_tx1 q_t_waiting : Nat) (c_people : Int32) (c_year : Int32) (c_z : Int32) (c_bytes : Int32) (c_waits : Int32) (c_spoons : Nat → Int32) (x1 : Int32) (x2 : Int32) (x3 : Int32) (x4 : Int32) (Q : (Nat → Int32) → Prop) (h : wp_X5_go x1 x2 x3 x4 c_spoons Q) : CTv l D X yX5_go cX5_go 5 rm_X5_go 0 0 [.ref q_t, .int x1, .int x2, .int x3, .int x4] [(q_t, .inr (5, [.int c_people, .ref q_t_km, .ref q_t_father, .ref q_t_mother, .ref q_t_from, .ref q_t_spoons, .ref q_t_owed, .int c_year, .int c_z, .ref q_t_tape, .int c_bytes, .ref q_t_tx0, .ref q_t_tx1, .ref q_t_waiting, .int c_waits])), (q_t_spoons, .inl (X.cI, 40, .inl c_spoons))] (fun w => ∃ (c_spoons' : Nat → Int32), Q c_spoons' ∧ w = [(q_t, .inr (5, [.int c_people, .ref q_t_km, .ref q_t_father, .ref q_t_mother, .ref q_t_from, .ref q_t_spoons, .ref q_t_owed, .int c_year, .int c_z, .ref q_t_tape, .int c_bytes, .ref q_t_tx0, .ref q_t_tx1, .ref q_t_waiting, .int c_waits])), (q_t_spoons, .inl (X.cI, 40, .inl c_spoons'))]) :=
  ct_v (by decide) (Nat.le_of_ble_eq_true rfl) (fun g hl hD hX G _ R => by subst hl; subst hD; subst hX; exact b_X5_go_e G R h)
set_option maxRecDepth 100000 in
set_option maxHeartbeats 4000000 in
theorem b_X6_lend_e {g : GT} (G : GOOD g RX6 cX6_lend 6 rm_X6_lend) {q_t q_t_w q_t_w_km q_t_w_father q_t_w_mother q_t_w_from q_t_w_spoons q_t_w_owed q_t_w_tape q_t_w_tx0 q_t_w_tx1 q_t_w_waiting q_t_k q_t_errors q_t_sheets q_t_r q_t_th q_t_sp : Nat} {c_images : Int32} {w_people : Int32} {w_year : Int32} {w_z : Int32} {w_bytes : Int32} {w_waits : Int32} {w_spoons : Nat → Int32} {w_owed : Nat → Int32} {c_errors : Nat → Int32} {x1 : Int32} {x2 : Int32} {x3 : Int32} {x4 : Int32} {Q : Int32 → (Nat → Int32) → (Nat → Int32) → (Nat → Int32) → Prop} (R : RETi g cX6_lend 5 (fun (r : Int32) w => ∃ (w_spoons' : Nat → Int32) (w_owed' : Nat → Int32) (c_errors' : Nat → Int32), Q r w_spoons' w_owed' c_errors' ∧ w = [(q_t, .inr (6, [.ref q_t_w, .ref q_t_k, .int c_images, .ref q_t_errors, .ref q_t_sheets, .ref q_t_r, .ref q_t_th, .ref q_t_sp])), (q_t_w, .inr (5, [.int w_people, .ref q_t_w_km, .ref q_t_w_father, .ref q_t_w_mother, .ref q_t_w_from, .ref q_t_w_spoons, .ref q_t_w_owed, .int w_year, .int w_z, .ref q_t_w_tape, .int w_bytes, .ref q_t_w_tx0, .ref q_t_w_tx1, .ref q_t_w_waiting, .int w_waits])), (q_t_w_spoons, .inl (g.X.cI, 40, .inl w_spoons')), (q_t_w_owed, .inl (g.X.cI, 64, .inl w_owed')), (q_t_errors, .inl (g.X.cI, 7, .inl c_errors'))])) (h : wp_X6_lend x1 x2 x3 x4 w_people w_spoons w_owed c_errors Q) : ST g 0 0 0 [(0, .ref q_t), (1, .int x1), (2, .int x2), (3, .int x3), (4, .int x4)] [] [(q_t, .inr (6, [.ref q_t_w, .ref q_t_k, .int c_images, .ref q_t_errors, .ref q_t_sheets, .ref q_t_r, .ref q_t_th, .ref q_t_sp])), (q_t_w, .inr (5, [.int w_people, .ref q_t_w_km, .ref q_t_w_father, .ref q_t_w_mother, .ref q_t_w_from, .ref q_t_w_spoons, .ref q_t_w_owed, .int w_year, .int w_z, .ref q_t_w_tape, .int w_bytes, .ref q_t_w_tx0, .ref q_t_w_tx1, .ref q_t_w_waiting, .int w_waits])), (q_t_w_spoons, .inl (g.X.cI, 40, .inl w_spoons)), (q_t_w_owed, .inl (g.X.cI, 64, .inl w_owed)), (q_t_errors, .inl (g.X.cI, 7, .inl c_errors))] := by
  unfold wp_X6_lend at h
  refine st_aload_n G 1 rfl 0 rfl dX6_lend_0 rfl ?_
  refine st_iload_n G 2 rfl 1 rfl dX6_lend_1 rfl ?_
  refine st_iload_n G 3 rfl 2 rfl dX6_lend_2 rfl ?_
  refine st_cVio G lk_X6_66 (c_X6_notTwo g.l g.D g.X q_t q_t_w q_t_w_km q_t_w_father q_t_w_mother q_t_w_from q_t_w_spoons q_t_w_owed q_t_w_tape q_t_w_tx0 q_t_w_tx1 q_t_w_waiting q_t_k q_t_errors q_t_sheets q_t_r q_t_th q_t_sp c_images w_people w_year w_z w_bytes w_waits x1 x2 _ h) ⟨rfl, rfl, ⟨Nat.le_of_ble_eq_true rfl, Nat.le_of_ble_eq_true rfl⟩, Nat.zero_le _, Nat.zero_le _⟩ 6 rfl [0, 1] rfl (by decide) 0 6 rfl rfl rfl (Nat.le_of_ble_eq_true rfl) rfl dX6_lend_3 (fun r_3 h => ?_)
  refine st_if_ne G 27 9 rfl dX6_lend_6 rfl (fun c => ?_) (fun c => ?_)
  · have h := h.1 c
    refine st_aload_n G 28 rfl 0 rfl dX6_lend_27 rfl ?_
    refine st_iconst G 29 rfl (1 : Int32) (by decide) dX6_lend_28 ?_
    refine st_cVi G lk_X6_55 (c_X6_error g.l g.D g.X q_t q_t_w q_t_k q_t_errors q_t_sheets q_t_r q_t_th q_t_sp c_images c_errors (1 : Int32) _ h) ⟨rfl, rfl, ⟨Nat.le_of_ble_eq_true rfl, Nat.le_of_ble_eq_true rfl⟩, Nat.zero_le _, Nat.zero_le _⟩ 32 rfl [0, 4] rfl (by decide) 0 6 rfl rfl rfl (Nat.le_of_ble_eq_true rfl) rfl dX6_lend_29 (fun r_29 w hq => ?_)
    obtain ⟨c_errors_29, h, rfl⟩ := hq
    refine st_wp (ws' := [(q_t, .inr (6, [.ref q_t_w, .ref q_t_k, .int c_images, .ref q_t_errors, .ref q_t_sheets, .ref q_t_r, .ref q_t_th, .ref q_t_sp])), (q_t_w, .inr (5, [.int w_people, .ref q_t_w_km, .ref q_t_w_father, .ref q_t_w_mother, .ref q_t_w_from, .ref q_t_w_spoons, .ref q_t_w_owed, .int w_year, .int w_z, .ref q_t_w_tape, .int w_bytes, .ref q_t_w_tx0, .ref q_t_w_tx1, .ref q_t_w_waiting, .int w_waits])), (q_t_w_spoons, .inl (g.X.cI, 40, .inl w_spoons)), (q_t_w_owed, .inl (g.X.cI, 64, .inl w_owed)), (q_t_errors, .inl (g.X.cI, 7, .inl c_errors_29))]) 5 [1, 2, 3] (by decide) rfl rfl (by rfl) [(q_t_w, .inr (5, [.int w_people, .ref q_t_w_km, .ref q_t_w_father, .ref q_t_w_mother, .ref q_t_w_from, .ref q_t_w_spoons, .ref q_t_w_owed, .int w_year, .int w_z, .ref q_t_w_tape, .int w_bytes, .ref q_t_w_tx0, .ref q_t_w_tx1, .ref q_t_w_waiting, .int w_waits])), (q_t_w_spoons, .inl (g.X.cI, 40, .inl w_spoons)), (q_t_w_owed, .inl (g.X.cI, 64, .inl w_owed))] (by rfl) rfl ?_
    exact R _ _ _ _ dX6_lend_32 (Nat.le_of_ble_eq_true rfl) ⟨_, _, _, h, rfl⟩
  have h := h.2 c
  refine st_iload_n G 10 rfl 3 rfl dX6_lend_9 rfl ?_
  refine st_cSio G lk_X6_108 (c_X6_notSort g.l g.D g.X x3 _ h) ⟨rfl, rfl, ⟨Nat.le_of_ble_eq_true rfl, Nat.le_of_ble_eq_true rfl⟩, Nat.zero_le _, Nat.zero_le _⟩ 13 rfl [] rfl (by decide) rfl (Nat.le_of_ble_eq_true rfl) rfl dX6_lend_10 (fun r_10 h => ?_)
  refine st_if_ne G 27 16 rfl dX6_lend_13 rfl (fun c => ?_) (fun c => ?_)
  · have h := h.1 c
    refine st_aload_n G 28 rfl 0 rfl dX6_lend_27 rfl ?_
    refine st_iconst G 29 rfl (1 : Int32) (by decide) dX6_lend_28 ?_
    refine st_cVi G lk_X6_55 (c_X6_error g.l g.D g.X q_t q_t_w q_t_k q_t_errors q_t_sheets q_t_r q_t_th q_t_sp c_images c_errors (1 : Int32) _ h) ⟨rfl, rfl, ⟨Nat.le_of_ble_eq_true rfl, Nat.le_of_ble_eq_true rfl⟩, Nat.zero_le _, Nat.zero_le _⟩ 32 rfl [0, 4] rfl (by decide) 0 6 rfl rfl rfl (Nat.le_of_ble_eq_true rfl) rfl dX6_lend_29 (fun r_29 w hq => ?_)
    obtain ⟨c_errors_29, h, rfl⟩ := hq
    refine st_wp (ws' := [(q_t, .inr (6, [.ref q_t_w, .ref q_t_k, .int c_images, .ref q_t_errors, .ref q_t_sheets, .ref q_t_r, .ref q_t_th, .ref q_t_sp])), (q_t_w, .inr (5, [.int w_people, .ref q_t_w_km, .ref q_t_w_father, .ref q_t_w_mother, .ref q_t_w_from, .ref q_t_w_spoons, .ref q_t_w_owed, .int w_year, .int w_z, .ref q_t_w_tape, .int w_bytes, .ref q_t_w_tx0, .ref q_t_w_tx1, .ref q_t_w_waiting, .int w_waits])), (q_t_w_spoons, .inl (g.X.cI, 40, .inl w_spoons)), (q_t_w_owed, .inl (g.X.cI, 64, .inl w_owed)), (q_t_errors, .inl (g.X.cI, 7, .inl c_errors_29))]) 5 [1, 2, 3] (by decide) rfl rfl (by rfl) [(q_t_w, .inr (5, [.int w_people, .ref q_t_w_km, .ref q_t_w_father, .ref q_t_w_mother, .ref q_t_w_from, .ref q_t_w_spoons, .ref q_t_w_owed, .int w_year, .int w_z, .ref q_t_w_tape, .int w_bytes, .ref q_t_w_tx0, .ref q_t_w_tx1, .ref q_t_w_waiting, .int w_waits])), (q_t_w_spoons, .inl (g.X.cI, 40, .inl w_spoons)), (q_t_w_owed, .inl (g.X.cI, 64, .inl w_owed))] (by rfl) rfl ?_
    exact R _ _ _ _ dX6_lend_32 (Nat.le_of_ble_eq_true rfl) ⟨_, _, _, h, rfl⟩
  have h := h.2 c
  refine st_iload G 18 rfl 4 rfl dX6_lend_16 ?_
  refine st_iconst G 19 rfl (1 : Int32) (by decide) dX6_lend_18 ?_
  refine st_bipush G 21 rfl (99 : Int32) (by decide) dX6_lend_19 ?_
  refine st_cSio G lk_X6_115 (c_X6_notWithin g.l g.D g.X x4 (1 : Int32) (99 : Int32) _ h) ⟨rfl, rfl, ⟨Nat.le_of_ble_eq_true rfl, Nat.le_of_ble_eq_true rfl⟩, Nat.zero_le _, Nat.zero_le _⟩ 24 rfl [] rfl (by decide) rfl (Nat.le_of_ble_eq_true rfl) rfl dX6_lend_21 (fun r_21 h => ?_)
  refine st_if_eq G 33 27 rfl dX6_lend_24 rfl (fun c => ?_) (fun c => ?_)
  · have h := h.1 c
    refine st_iload_n G 34 rfl 2 rfl dX6_lend_33 rfl ?_
    refine st_iload_n G 35 rfl 1 rfl dX6_lend_34 rfl ?_
    refine st_cSio G lk_X6_126 (c_X6_pair g.l g.D g.X x2 x1 _ h) ⟨rfl, rfl, ⟨Nat.le_of_ble_eq_true rfl, Nat.le_of_ble_eq_true rfl⟩, Nat.zero_le _, Nat.zero_le _⟩ 38 rfl [] rfl (by decide) rfl (Nat.le_of_ble_eq_true rfl) rfl dX6_lend_35 (fun r_35 h => ?_)
    refine st_istore G 40 rfl [(5, .int r_35), (0, .ref q_t), (1, .int x1), (2, .int x2), (3, .int x3), (4, .int x4)] dX6_lend_38 (by decide) rfl ?_
    refine st_aload_n G 41 rfl 1 rfl dX6_lend_40 rfl ?_
    refine st_get G inX6 rfl 0 (by decide) wd_16 44 rfl 0 rfl rfl dX6_lend_41 ?_
    refine st_iload_n G 45 rfl 2 rfl dX6_lend_44 rfl ?_
    refine st_iload_n G 46 rfl 3 rfl dX6_lend_45 rfl ?_
    refine st_iload_n G 47 rfl 4 rfl dX6_lend_46 rfl ?_
    refine st_iload G 49 rfl 5 rfl dX6_lend_47 ?_
    refine st_cVio G lk_X6_129 (c_X5_canGo g.l g.D g.X q_t_w q_t_w_km q_t_w_father q_t_w_mother q_t_w_from q_t_w_spoons q_t_w_owed q_t_w_tape q_t_w_tx0 q_t_w_tx1 q_t_w_waiting w_people w_year w_z w_bytes w_waits w_spoons x1 x2 x3 x4 _ h) ⟨rfl, rfl, ⟨Nat.le_of_ble_eq_true rfl, Nat.le_of_ble_eq_true rfl⟩, Nat.zero_le _, Nat.zero_le _⟩ 52 rfl [1, 2] rfl (by decide) 0 5 rfl rfl rfl (Nat.le_of_ble_eq_true rfl) rfl dX6_lend_49 (fun r_49 h => ?_)
    refine st_if_eq G 74 55 rfl dX6_lend_52 rfl (fun c => ?_) (fun c => ?_)
    · have h := h.1 c
      refine st_aload_n G 75 rfl 1 rfl dX6_lend_74 rfl ?_
      refine st_iconst G 76 rfl (3 : Int32) (by decide) dX6_lend_75 ?_
      refine st_cVi G lk_X6_55 (c_X6_error g.l g.D g.X q_t q_t_w q_t_k q_t_errors q_t_sheets q_t_r q_t_th q_t_sp c_images c_errors (3 : Int32) _ h) ⟨rfl, rfl, ⟨Nat.le_of_ble_eq_true rfl, Nat.le_of_ble_eq_true rfl⟩, Nat.zero_le _, Nat.zero_le _⟩ 79 rfl [0, 4] rfl (by decide) 0 6 rfl rfl rfl (Nat.le_of_ble_eq_true rfl) rfl dX6_lend_76 (fun r_76 w hq => ?_)
      obtain ⟨c_errors_76, h, rfl⟩ := hq
      refine st_wp (ws' := [(q_t, .inr (6, [.ref q_t_w, .ref q_t_k, .int c_images, .ref q_t_errors, .ref q_t_sheets, .ref q_t_r, .ref q_t_th, .ref q_t_sp])), (q_t_w, .inr (5, [.int w_people, .ref q_t_w_km, .ref q_t_w_father, .ref q_t_w_mother, .ref q_t_w_from, .ref q_t_w_spoons, .ref q_t_w_owed, .int w_year, .int w_z, .ref q_t_w_tape, .int w_bytes, .ref q_t_w_tx0, .ref q_t_w_tx1, .ref q_t_w_waiting, .int w_waits])), (q_t_w_spoons, .inl (g.X.cI, 40, .inl w_spoons)), (q_t_w_owed, .inl (g.X.cI, 64, .inl w_owed)), (q_t_errors, .inl (g.X.cI, 7, .inl c_errors_76))]) 5 [1, 2, 3] (by decide) rfl rfl (by rfl) [(q_t_w, .inr (5, [.int w_people, .ref q_t_w_km, .ref q_t_w_father, .ref q_t_w_mother, .ref q_t_w_from, .ref q_t_w_spoons, .ref q_t_w_owed, .int w_year, .int w_z, .ref q_t_w_tape, .int w_bytes, .ref q_t_w_tx0, .ref q_t_w_tx1, .ref q_t_w_waiting, .int w_waits])), (q_t_w_spoons, .inl (g.X.cI, 40, .inl w_spoons)), (q_t_w_owed, .inl (g.X.cI, 64, .inl w_owed))] (by rfl) rfl ?_
      exact R _ _ _ _ dX6_lend_79 (Nat.le_of_ble_eq_true rfl) ⟨_, _, _, h, rfl⟩
    have h := h.2 c
    refine st_aload_n G 56 rfl 1 rfl dX6_lend_55 rfl ?_
    refine st_get G inX6 rfl 0 (by decide) wd_16 59 rfl 0 rfl rfl dX6_lend_56 ?_
    refine st_get G inX5 rfl 6 (by decide) wd_364 62 rfl 1 rfl rfl dX6_lend_59 ?_
    refine st_iload G 64 rfl 0 rfl dX6_lend_62 ?_
    obtain ⟨hin, h⟩ := h
    refine st_iald G 65 rfl 3 rfl hin dX6_lend_64 ?_
    refine st_iload G 67 rfl 5 rfl dX6_lend_65 ?_
    refine st_iadd G 68 rfl dX6_lend_67 ?_
    refine st_sipush G 71 rfl (999 : Int32) (by decide) dX6_lend_68 ?_
    refine st_icmp_le G 80 74 rfl dX6_lend_71 rfl (fun c => ?_) (fun c => ?_)
    · have h := h.1 c
      refine st_aload_n G 81 rfl 1 rfl dX6_lend_80 rfl ?_
      refine st_get G inX6 rfl 0 (by decide) wd_16 84 rfl 0 rfl rfl dX6_lend_81 ?_
      refine st_iload_n G 85 rfl 2 rfl dX6_lend_84 rfl ?_
      refine st_iload_n G 86 rfl 3 rfl dX6_lend_85 rfl ?_
      refine st_iload_n G 87 rfl 4 rfl dX6_lend_86 rfl ?_
      refine st_iload G 89 rfl 5 rfl dX6_lend_87 ?_
      refine st_cVv G lk_X6_136 (c_X5_go g.l g.D g.X q_t_w q_t_w_km q_t_w_father q_t_w_mother q_t_w_from q_t_w_spoons q_t_w_owed q_t_w_tape q_t_w_tx0 q_t_w_tx1 q_t_w_waiting w_people w_year w_z w_bytes w_waits w_spoons x1 x2 x3 x4 _ h) ⟨rfl, rfl, ⟨Nat.le_of_ble_eq_true rfl, Nat.le_of_ble_eq_true rfl⟩, Nat.zero_le _, Nat.zero_le _⟩ 92 rfl [1, 2] rfl (by decide) 0 5 rfl rfl rfl (Nat.le_of_ble_eq_true rfl) rfl dX6_lend_89 (fun w hq => ?_)
      obtain ⟨w_spoons_89, h, rfl⟩ := hq
      refine st_wp (ws' := [(q_t, .inr (6, [.ref q_t_w, .ref q_t_k, .int c_images, .ref q_t_errors, .ref q_t_sheets, .ref q_t_r, .ref q_t_th, .ref q_t_sp])), (q_t_w, .inr (5, [.int w_people, .ref q_t_w_km, .ref q_t_w_father, .ref q_t_w_mother, .ref q_t_w_from, .ref q_t_w_spoons, .ref q_t_w_owed, .int w_year, .int w_z, .ref q_t_w_tape, .int w_bytes, .ref q_t_w_tx0, .ref q_t_w_tx1, .ref q_t_w_waiting, .int w_waits])), (q_t_w_spoons, .inl (g.X.cI, 40, .inl w_spoons_89)), (q_t_w_owed, .inl (g.X.cI, 64, .inl w_owed)), (q_t_errors, .inl (g.X.cI, 7, .inl c_errors))]) 5 [0, 3, 4] (by decide) rfl rfl (by rfl) [(q_t, .inr (6, [.ref q_t_w, .ref q_t_k, .int c_images, .ref q_t_errors, .ref q_t_sheets, .ref q_t_r, .ref q_t_th, .ref q_t_sp])), (q_t_w_owed, .inl (g.X.cI, 64, .inl w_owed)), (q_t_errors, .inl (g.X.cI, 7, .inl c_errors))] (by rfl) rfl ?_
      refine st_aload_n G 93 rfl 1 rfl dX6_lend_92 rfl ?_
      refine st_get G inX6 rfl 0 (by decide) wd_16 96 rfl 0 rfl rfl dX6_lend_93 ?_
      refine st_get G inX5 rfl 6 (by decide) wd_364 99 rfl 1 rfl rfl dX6_lend_96 ?_
      refine st_iload G 101 rfl 0 rfl dX6_lend_99 ?_
      refine st_dup2 G 102 rfl dX6_lend_101 rfl rfl ?_
      obtain ⟨hin, h⟩ := h
      refine st_iald G 103 rfl 3 rfl hin dX6_lend_102 ?_
      refine st_iload G 105 rfl 5 rfl dX6_lend_103 ?_
      refine st_iadd G 106 rfl dX6_lend_105 ?_
      obtain ⟨hin, h⟩ := h
      obtain ⟨w_owed_106, ew_owed_106⟩ : ∃ y : Nat → Int32, y = upd w_owed r_35.toNatClampNeg ((w_owed r_35.toNatClampNeg) + x4) := ⟨_, rfl⟩
      have h := h w_owed_106 ew_owed_106
      refine st_iast G [(q_t, .inr (6, [.ref q_t_w, .ref q_t_k, .int c_images, .ref q_t_errors, .ref q_t_sheets, .ref q_t_r, .ref q_t_th, .ref q_t_sp])), (q_t_w, .inr (5, [.int w_people, .ref q_t_w_km, .ref q_t_w_father, .ref q_t_w_mother, .ref q_t_w_from, .ref q_t_w_spoons, .ref q_t_w_owed, .int w_year, .int w_z, .ref q_t_w_tape, .int w_bytes, .ref q_t_w_tx0, .ref q_t_w_tx1, .ref q_t_w_waiting, .int w_waits])), (q_t_w_spoons, .inl (g.X.cI, 40, .inl w_spoons_89)), (q_t_w_owed, .inl (g.X.cI, 64, .inl w_owed_106)), (q_t_errors, .inl (g.X.cI, 7, .inl c_errors))] 107 rfl 3 rfl hin (by subst ew_owed_106; rfl) dX6_lend_106 ?_
      refine st_aload_n G 108 rfl 1 rfl dX6_lend_107 rfl ?_
      refine st_get G inX6 rfl 0 (by decide) wd_16 111 rfl 0 rfl rfl dX6_lend_108 ?_
      refine st_get G inX5 rfl 6 (by decide) wd_364 114 rfl 1 rfl rfl dX6_lend_111 ?_
      refine st_iload G 116 rfl 0 rfl dX6_lend_114 ?_
      obtain ⟨hin, h⟩ := h
      refine st_iald G 117 rfl 3 rfl hin dX6_lend_116 ?_
      exact R _ _ _ _ dX6_lend_117 (Nat.le_of_ble_eq_true rfl) ⟨_, _, _, h, rfl⟩
    have h := h.2 c
    refine st_aload_n G 75 rfl 1 rfl dX6_lend_74 rfl ?_
    refine st_iconst G 76 rfl (3 : Int32) (by decide) dX6_lend_75 ?_
    refine st_cVi G lk_X6_55 (c_X6_error g.l g.D g.X q_t q_t_w q_t_k q_t_errors q_t_sheets q_t_r q_t_th q_t_sp c_images c_errors (3 : Int32) _ h) ⟨rfl, rfl, ⟨Nat.le_of_ble_eq_true rfl, Nat.le_of_ble_eq_true rfl⟩, Nat.zero_le _, Nat.zero_le _⟩ 79 rfl [0, 4] rfl (by decide) 0 6 rfl rfl rfl (Nat.le_of_ble_eq_true rfl) rfl dX6_lend_76 (fun r_76 w hq => ?_)
    obtain ⟨c_errors_76, h, rfl⟩ := hq
    refine st_wp (ws' := [(q_t, .inr (6, [.ref q_t_w, .ref q_t_k, .int c_images, .ref q_t_errors, .ref q_t_sheets, .ref q_t_r, .ref q_t_th, .ref q_t_sp])), (q_t_w, .inr (5, [.int w_people, .ref q_t_w_km, .ref q_t_w_father, .ref q_t_w_mother, .ref q_t_w_from, .ref q_t_w_spoons, .ref q_t_w_owed, .int w_year, .int w_z, .ref q_t_w_tape, .int w_bytes, .ref q_t_w_tx0, .ref q_t_w_tx1, .ref q_t_w_waiting, .int w_waits])), (q_t_w_spoons, .inl (g.X.cI, 40, .inl w_spoons)), (q_t_w_owed, .inl (g.X.cI, 64, .inl w_owed)), (q_t_errors, .inl (g.X.cI, 7, .inl c_errors_76))]) 5 [1, 2, 3] (by decide) rfl rfl (by rfl) [(q_t_w, .inr (5, [.int w_people, .ref q_t_w_km, .ref q_t_w_father, .ref q_t_w_mother, .ref q_t_w_from, .ref q_t_w_spoons, .ref q_t_w_owed, .int w_year, .int w_z, .ref q_t_w_tape, .int w_bytes, .ref q_t_w_tx0, .ref q_t_w_tx1, .ref q_t_w_waiting, .int w_waits])), (q_t_w_spoons, .inl (g.X.cI, 40, .inl w_spoons)), (q_t_w_owed, .inl (g.X.cI, 64, .inl w_owed))] (by rfl) rfl ?_
    exact R _ _ _ _ dX6_lend_79 (Nat.le_of_ble_eq_true rfl) ⟨_, _, _, h, rfl⟩
  have h := h.2 c
  refine st_aload_n G 28 rfl 0 rfl dX6_lend_27 rfl ?_
  refine st_iconst G 29 rfl (1 : Int32) (by decide) dX6_lend_28 ?_
  refine st_cVi G lk_X6_55 (c_X6_error g.l g.D g.X q_t q_t_w q_t_k q_t_errors q_t_sheets q_t_r q_t_th q_t_sp c_images c_errors (1 : Int32) _ h) ⟨rfl, rfl, ⟨Nat.le_of_ble_eq_true rfl, Nat.le_of_ble_eq_true rfl⟩, Nat.zero_le _, Nat.zero_le _⟩ 32 rfl [0, 4] rfl (by decide) 0 6 rfl rfl rfl (Nat.le_of_ble_eq_true rfl) rfl dX6_lend_29 (fun r_29 w hq => ?_)
  obtain ⟨c_errors_29, h, rfl⟩ := hq
  refine st_wp (ws' := [(q_t, .inr (6, [.ref q_t_w, .ref q_t_k, .int c_images, .ref q_t_errors, .ref q_t_sheets, .ref q_t_r, .ref q_t_th, .ref q_t_sp])), (q_t_w, .inr (5, [.int w_people, .ref q_t_w_km, .ref q_t_w_father, .ref q_t_w_mother, .ref q_t_w_from, .ref q_t_w_spoons, .ref q_t_w_owed, .int w_year, .int w_z, .ref q_t_w_tape, .int w_bytes, .ref q_t_w_tx0, .ref q_t_w_tx1, .ref q_t_w_waiting, .int w_waits])), (q_t_w_spoons, .inl (g.X.cI, 40, .inl w_spoons)), (q_t_w_owed, .inl (g.X.cI, 64, .inl w_owed)), (q_t_errors, .inl (g.X.cI, 7, .inl c_errors_29))]) 5 [1, 2, 3] (by decide) rfl rfl (by rfl) [(q_t_w, .inr (5, [.int w_people, .ref q_t_w_km, .ref q_t_w_father, .ref q_t_w_mother, .ref q_t_w_from, .ref q_t_w_spoons, .ref q_t_w_owed, .int w_year, .int w_z, .ref q_t_w_tape, .int w_bytes, .ref q_t_w_tx0, .ref q_t_w_tx1, .ref q_t_w_waiting, .int w_waits])), (q_t_w_spoons, .inl (g.X.cI, 40, .inl w_spoons)), (q_t_w_owed, .inl (g.X.cI, 64, .inl w_owed))] (by rfl) rfl ?_
  exact R _ _ _ _ dX6_lend_32 (Nat.le_of_ble_eq_true rfl) ⟨_, _, _, h, rfl⟩
set_option maxRecDepth 100000 in
set_option maxHeartbeats 4000000 in
theorem c_X6_lend (l : Launch) (D : va_G) (X : XT) (q_t q_t_w q_t_w_km q_t_w_father q_t_w_mother q_t_w_from q_t_w_spoons q_t_w_owed q_t_w_tape q_t_w_tx0 q_t_w_tx1 q_t_w_waiting q_t_k q_t_errors q_t_sheets q_t_r q_t_th q_t_sp : Nat) (c_images : Int32) (w_people : Int32) (w_year : Int32) (w_z : Int32) (w_bytes : Int32) (w_waits : Int32) (w_spoons : Nat → Int32) (w_owed : Nat → Int32) (c_errors : Nat → Int32) (x1 : Int32) (x2 : Int32) (x3 : Int32) (x4 : Int32) (Q : Int32 → (Nat → Int32) → (Nat → Int32) → (Nat → Int32) → Prop) (h : wp_X6_lend x1 x2 x3 x4 w_people w_spoons w_owed c_errors Q) : CTi l D X yX6_lend cX6_lend 6 .int rm_X6_lend [.ref q_t, .int x1, .int x2, .int x3, .int x4] [(q_t, .inr (6, [.ref q_t_w, .ref q_t_k, .int c_images, .ref q_t_errors, .ref q_t_sheets, .ref q_t_r, .ref q_t_th, .ref q_t_sp])), (q_t_w, .inr (5, [.int w_people, .ref q_t_w_km, .ref q_t_w_father, .ref q_t_w_mother, .ref q_t_w_from, .ref q_t_w_spoons, .ref q_t_w_owed, .int w_year, .int w_z, .ref q_t_w_tape, .int w_bytes, .ref q_t_w_tx0, .ref q_t_w_tx1, .ref q_t_w_waiting, .int w_waits])), (q_t_w_spoons, .inl (X.cI, 40, .inl w_spoons)), (q_t_w_owed, .inl (X.cI, 64, .inl w_owed)), (q_t_errors, .inl (X.cI, 7, .inl c_errors))] (fun (r : Int32) w => ∃ (w_spoons' : Nat → Int32) (w_owed' : Nat → Int32) (c_errors' : Nat → Int32), Q r w_spoons' w_owed' c_errors' ∧ w = [(q_t, .inr (6, [.ref q_t_w, .ref q_t_k, .int c_images, .ref q_t_errors, .ref q_t_sheets, .ref q_t_r, .ref q_t_th, .ref q_t_sp])), (q_t_w, .inr (5, [.int w_people, .ref q_t_w_km, .ref q_t_w_father, .ref q_t_w_mother, .ref q_t_w_from, .ref q_t_w_spoons, .ref q_t_w_owed, .int w_year, .int w_z, .ref q_t_w_tape, .int w_bytes, .ref q_t_w_tx0, .ref q_t_w_tx1, .ref q_t_w_waiting, .int w_waits])), (q_t_w_spoons, .inl (X.cI, 40, .inl w_spoons')), (q_t_w_owed, .inl (X.cI, 64, .inl w_owed')), (q_t_errors, .inl (X.cI, 7, .inl c_errors'))]) :=
  ct_i (by decide) (Nat.le_of_ble_eq_true rfl) (fun g hl hD hX G R => by subst hl; subst hD; subst hX; exact b_X6_lend_e G R h)
set_option maxRecDepth 100000 in
set_option maxHeartbeats 4000000 in
theorem b_X6_repay_e {g : GT} (G : GOOD g RX6 cX6_repay 6 rm_X6_repay) {q_t q_t_w q_t_w_km q_t_w_father q_t_w_mother q_t_w_from q_t_w_spoons q_t_w_owed q_t_w_tape q_t_w_tx0 q_t_w_tx1 q_t_w_waiting q_t_k q_t_errors q_t_sheets q_t_r q_t_th q_t_sp : Nat} {c_images : Int32} {w_people : Int32} {w_year : Int32} {w_z : Int32} {w_bytes : Int32} {w_waits : Int32} {w_spoons : Nat → Int32} {w_owed : Nat → Int32} {c_errors : Nat → Int32} {x1 : Int32} {x2 : Int32} {x3 : Int32} {x4 : Int32} {Q : Int32 → (Nat → Int32) → (Nat → Int32) → (Nat → Int32) → Prop} (R : RETi g cX6_repay 5 (fun (r : Int32) w => ∃ (w_spoons' : Nat → Int32) (w_owed' : Nat → Int32) (c_errors' : Nat → Int32), Q r w_spoons' w_owed' c_errors' ∧ w = [(q_t, .inr (6, [.ref q_t_w, .ref q_t_k, .int c_images, .ref q_t_errors, .ref q_t_sheets, .ref q_t_r, .ref q_t_th, .ref q_t_sp])), (q_t_w, .inr (5, [.int w_people, .ref q_t_w_km, .ref q_t_w_father, .ref q_t_w_mother, .ref q_t_w_from, .ref q_t_w_spoons, .ref q_t_w_owed, .int w_year, .int w_z, .ref q_t_w_tape, .int w_bytes, .ref q_t_w_tx0, .ref q_t_w_tx1, .ref q_t_w_waiting, .int w_waits])), (q_t_w_spoons, .inl (g.X.cI, 40, .inl w_spoons')), (q_t_w_owed, .inl (g.X.cI, 64, .inl w_owed')), (q_t_errors, .inl (g.X.cI, 7, .inl c_errors'))])) (h : wp_X6_repay x1 x2 x3 x4 w_people w_spoons w_owed c_errors Q) : ST g 0 0 0 [(0, .ref q_t), (1, .int x1), (2, .int x2), (3, .int x3), (4, .int x4)] [] [(q_t, .inr (6, [.ref q_t_w, .ref q_t_k, .int c_images, .ref q_t_errors, .ref q_t_sheets, .ref q_t_r, .ref q_t_th, .ref q_t_sp])), (q_t_w, .inr (5, [.int w_people, .ref q_t_w_km, .ref q_t_w_father, .ref q_t_w_mother, .ref q_t_w_from, .ref q_t_w_spoons, .ref q_t_w_owed, .int w_year, .int w_z, .ref q_t_w_tape, .int w_bytes, .ref q_t_w_tx0, .ref q_t_w_tx1, .ref q_t_w_waiting, .int w_waits])), (q_t_w_spoons, .inl (g.X.cI, 40, .inl w_spoons)), (q_t_w_owed, .inl (g.X.cI, 64, .inl w_owed)), (q_t_errors, .inl (g.X.cI, 7, .inl c_errors))] := by
  unfold wp_X6_repay at h
  refine st_aload_n G 1 rfl 0 rfl dX6_repay_0 rfl ?_
  refine st_iload_n G 2 rfl 1 rfl dX6_repay_1 rfl ?_
  refine st_iload_n G 3 rfl 2 rfl dX6_repay_2 rfl ?_
  refine st_cVio G lk_X6_66 (c_X6_notTwo g.l g.D g.X q_t q_t_w q_t_w_km q_t_w_father q_t_w_mother q_t_w_from q_t_w_spoons q_t_w_owed q_t_w_tape q_t_w_tx0 q_t_w_tx1 q_t_w_waiting q_t_k q_t_errors q_t_sheets q_t_r q_t_th q_t_sp c_images w_people w_year w_z w_bytes w_waits x1 x2 _ h) ⟨rfl, rfl, ⟨Nat.le_of_ble_eq_true rfl, Nat.le_of_ble_eq_true rfl⟩, Nat.zero_le _, Nat.zero_le _⟩ 6 rfl [0, 1] rfl (by decide) 0 6 rfl rfl rfl (Nat.le_of_ble_eq_true rfl) rfl dX6_repay_3 (fun r_3 h => ?_)
  refine st_if_ne G 27 9 rfl dX6_repay_6 rfl (fun c => ?_) (fun c => ?_)
  · have h := h.1 c
    refine st_aload_n G 28 rfl 0 rfl dX6_repay_27 rfl ?_
    refine st_iconst G 29 rfl (1 : Int32) (by decide) dX6_repay_28 ?_
    refine st_cVi G lk_X6_55 (c_X6_error g.l g.D g.X q_t q_t_w q_t_k q_t_errors q_t_sheets q_t_r q_t_th q_t_sp c_images c_errors (1 : Int32) _ h) ⟨rfl, rfl, ⟨Nat.le_of_ble_eq_true rfl, Nat.le_of_ble_eq_true rfl⟩, Nat.zero_le _, Nat.zero_le _⟩ 32 rfl [0, 4] rfl (by decide) 0 6 rfl rfl rfl (Nat.le_of_ble_eq_true rfl) rfl dX6_repay_29 (fun r_29 w hq => ?_)
    obtain ⟨c_errors_29, h, rfl⟩ := hq
    refine st_wp (ws' := [(q_t, .inr (6, [.ref q_t_w, .ref q_t_k, .int c_images, .ref q_t_errors, .ref q_t_sheets, .ref q_t_r, .ref q_t_th, .ref q_t_sp])), (q_t_w, .inr (5, [.int w_people, .ref q_t_w_km, .ref q_t_w_father, .ref q_t_w_mother, .ref q_t_w_from, .ref q_t_w_spoons, .ref q_t_w_owed, .int w_year, .int w_z, .ref q_t_w_tape, .int w_bytes, .ref q_t_w_tx0, .ref q_t_w_tx1, .ref q_t_w_waiting, .int w_waits])), (q_t_w_spoons, .inl (g.X.cI, 40, .inl w_spoons)), (q_t_w_owed, .inl (g.X.cI, 64, .inl w_owed)), (q_t_errors, .inl (g.X.cI, 7, .inl c_errors_29))]) 5 [1, 2, 3] (by decide) rfl rfl (by rfl) [(q_t_w, .inr (5, [.int w_people, .ref q_t_w_km, .ref q_t_w_father, .ref q_t_w_mother, .ref q_t_w_from, .ref q_t_w_spoons, .ref q_t_w_owed, .int w_year, .int w_z, .ref q_t_w_tape, .int w_bytes, .ref q_t_w_tx0, .ref q_t_w_tx1, .ref q_t_w_waiting, .int w_waits])), (q_t_w_spoons, .inl (g.X.cI, 40, .inl w_spoons)), (q_t_w_owed, .inl (g.X.cI, 64, .inl w_owed))] (by rfl) rfl ?_
    exact R _ _ _ _ dX6_repay_32 (Nat.le_of_ble_eq_true rfl) ⟨_, _, _, h, rfl⟩
  have h := h.2 c
  refine st_iload_n G 10 rfl 3 rfl dX6_repay_9 rfl ?_
  refine st_cSio G lk_X6_108 (c_X6_notSort g.l g.D g.X x3 _ h) ⟨rfl, rfl, ⟨Nat.le_of_ble_eq_true rfl, Nat.le_of_ble_eq_true rfl⟩, Nat.zero_le _, Nat.zero_le _⟩ 13 rfl [] rfl (by decide) rfl (Nat.le_of_ble_eq_true rfl) rfl dX6_repay_10 (fun r_10 h => ?_)
  refine st_if_ne G 27 16 rfl dX6_repay_13 rfl (fun c => ?_) (fun c => ?_)
  · have h := h.1 c
    refine st_aload_n G 28 rfl 0 rfl dX6_repay_27 rfl ?_
    refine st_iconst G 29 rfl (1 : Int32) (by decide) dX6_repay_28 ?_
    refine st_cVi G lk_X6_55 (c_X6_error g.l g.D g.X q_t q_t_w q_t_k q_t_errors q_t_sheets q_t_r q_t_th q_t_sp c_images c_errors (1 : Int32) _ h) ⟨rfl, rfl, ⟨Nat.le_of_ble_eq_true rfl, Nat.le_of_ble_eq_true rfl⟩, Nat.zero_le _, Nat.zero_le _⟩ 32 rfl [0, 4] rfl (by decide) 0 6 rfl rfl rfl (Nat.le_of_ble_eq_true rfl) rfl dX6_repay_29 (fun r_29 w hq => ?_)
    obtain ⟨c_errors_29, h, rfl⟩ := hq
    refine st_wp (ws' := [(q_t, .inr (6, [.ref q_t_w, .ref q_t_k, .int c_images, .ref q_t_errors, .ref q_t_sheets, .ref q_t_r, .ref q_t_th, .ref q_t_sp])), (q_t_w, .inr (5, [.int w_people, .ref q_t_w_km, .ref q_t_w_father, .ref q_t_w_mother, .ref q_t_w_from, .ref q_t_w_spoons, .ref q_t_w_owed, .int w_year, .int w_z, .ref q_t_w_tape, .int w_bytes, .ref q_t_w_tx0, .ref q_t_w_tx1, .ref q_t_w_waiting, .int w_waits])), (q_t_w_spoons, .inl (g.X.cI, 40, .inl w_spoons)), (q_t_w_owed, .inl (g.X.cI, 64, .inl w_owed)), (q_t_errors, .inl (g.X.cI, 7, .inl c_errors_29))]) 5 [1, 2, 3] (by decide) rfl rfl (by rfl) [(q_t_w, .inr (5, [.int w_people, .ref q_t_w_km, .ref q_t_w_father, .ref q_t_w_mother, .ref q_t_w_from, .ref q_t_w_spoons, .ref q_t_w_owed, .int w_year, .int w_z, .ref q_t_w_tape, .int w_bytes, .ref q_t_w_tx0, .ref q_t_w_tx1, .ref q_t_w_waiting, .int w_waits])), (q_t_w_spoons, .inl (g.X.cI, 40, .inl w_spoons)), (q_t_w_owed, .inl (g.X.cI, 64, .inl w_owed))] (by rfl) rfl ?_
    exact R _ _ _ _ dX6_repay_32 (Nat.le_of_ble_eq_true rfl) ⟨_, _, _, h, rfl⟩
  have h := h.2 c
  refine st_iload G 18 rfl 4 rfl dX6_repay_16 ?_
  refine st_iconst G 19 rfl (1 : Int32) (by decide) dX6_repay_18 ?_
  refine st_bipush G 21 rfl (99 : Int32) (by decide) dX6_repay_19 ?_
  refine st_cSio G lk_X6_115 (c_X6_notWithin g.l g.D g.X x4 (1 : Int32) (99 : Int32) _ h) ⟨rfl, rfl, ⟨Nat.le_of_ble_eq_true rfl, Nat.le_of_ble_eq_true rfl⟩, Nat.zero_le _, Nat.zero_le _⟩ 24 rfl [] rfl (by decide) rfl (Nat.le_of_ble_eq_true rfl) rfl dX6_repay_21 (fun r_21 h => ?_)
  refine st_if_eq G 33 27 rfl dX6_repay_24 rfl (fun c => ?_) (fun c => ?_)
  · have h := h.1 c
    refine st_iload_n G 34 rfl 1 rfl dX6_repay_33 rfl ?_
    refine st_iload_n G 35 rfl 2 rfl dX6_repay_34 rfl ?_
    refine st_cSio G lk_X6_126 (c_X6_pair g.l g.D g.X x1 x2 _ h) ⟨rfl, rfl, ⟨Nat.le_of_ble_eq_true rfl, Nat.le_of_ble_eq_true rfl⟩, Nat.zero_le _, Nat.zero_le _⟩ 38 rfl [] rfl (by decide) rfl (Nat.le_of_ble_eq_true rfl) rfl dX6_repay_35 (fun r_35 h => ?_)
    refine st_istore G 40 rfl [(5, .int r_35), (0, .ref q_t), (1, .int x1), (2, .int x2), (3, .int x3), (4, .int x4)] dX6_repay_38 (by decide) rfl ?_
    refine st_aload_n G 41 rfl 1 rfl dX6_repay_40 rfl ?_
    refine st_get G inX6 rfl 0 (by decide) wd_16 44 rfl 0 rfl rfl dX6_repay_41 ?_
    refine st_iload_n G 45 rfl 2 rfl dX6_repay_44 rfl ?_
    refine st_iload_n G 46 rfl 3 rfl dX6_repay_45 rfl ?_
    refine st_iload_n G 47 rfl 4 rfl dX6_repay_46 rfl ?_
    refine st_iload G 49 rfl 5 rfl dX6_repay_47 ?_
    refine st_cVio G lk_X6_129 (c_X5_canGo g.l g.D g.X q_t_w q_t_w_km q_t_w_father q_t_w_mother q_t_w_from q_t_w_spoons q_t_w_owed q_t_w_tape q_t_w_tx0 q_t_w_tx1 q_t_w_waiting w_people w_year w_z w_bytes w_waits w_spoons x1 x2 x3 x4 _ h) ⟨rfl, rfl, ⟨Nat.le_of_ble_eq_true rfl, Nat.le_of_ble_eq_true rfl⟩, Nat.zero_le _, Nat.zero_le _⟩ 52 rfl [1, 2] rfl (by decide) 0 5 rfl rfl rfl (Nat.le_of_ble_eq_true rfl) rfl dX6_repay_49 (fun r_49 h => ?_)
    refine st_if_eq G 70 55 rfl dX6_repay_52 rfl (fun c => ?_) (fun c => ?_)
    · have h := h.1 c
      refine st_aload_n G 71 rfl 1 rfl dX6_repay_70 rfl ?_
      refine st_iconst G 72 rfl (3 : Int32) (by decide) dX6_repay_71 ?_
      refine st_cVi G lk_X6_55 (c_X6_error g.l g.D g.X q_t q_t_w q_t_k q_t_errors q_t_sheets q_t_r q_t_th q_t_sp c_images c_errors (3 : Int32) _ h) ⟨rfl, rfl, ⟨Nat.le_of_ble_eq_true rfl, Nat.le_of_ble_eq_true rfl⟩, Nat.zero_le _, Nat.zero_le _⟩ 75 rfl [0, 4] rfl (by decide) 0 6 rfl rfl rfl (Nat.le_of_ble_eq_true rfl) rfl dX6_repay_72 (fun r_72 w hq => ?_)
      obtain ⟨c_errors_72, h, rfl⟩ := hq
      refine st_wp (ws' := [(q_t, .inr (6, [.ref q_t_w, .ref q_t_k, .int c_images, .ref q_t_errors, .ref q_t_sheets, .ref q_t_r, .ref q_t_th, .ref q_t_sp])), (q_t_w, .inr (5, [.int w_people, .ref q_t_w_km, .ref q_t_w_father, .ref q_t_w_mother, .ref q_t_w_from, .ref q_t_w_spoons, .ref q_t_w_owed, .int w_year, .int w_z, .ref q_t_w_tape, .int w_bytes, .ref q_t_w_tx0, .ref q_t_w_tx1, .ref q_t_w_waiting, .int w_waits])), (q_t_w_spoons, .inl (g.X.cI, 40, .inl w_spoons)), (q_t_w_owed, .inl (g.X.cI, 64, .inl w_owed)), (q_t_errors, .inl (g.X.cI, 7, .inl c_errors_72))]) 5 [1, 2, 3] (by decide) rfl rfl (by rfl) [(q_t_w, .inr (5, [.int w_people, .ref q_t_w_km, .ref q_t_w_father, .ref q_t_w_mother, .ref q_t_w_from, .ref q_t_w_spoons, .ref q_t_w_owed, .int w_year, .int w_z, .ref q_t_w_tape, .int w_bytes, .ref q_t_w_tx0, .ref q_t_w_tx1, .ref q_t_w_waiting, .int w_waits])), (q_t_w_spoons, .inl (g.X.cI, 40, .inl w_spoons)), (q_t_w_owed, .inl (g.X.cI, 64, .inl w_owed))] (by rfl) rfl ?_
      exact R _ _ _ _ dX6_repay_75 (Nat.le_of_ble_eq_true rfl) ⟨_, _, _, h, rfl⟩
    have h := h.2 c
    refine st_aload_n G 56 rfl 1 rfl dX6_repay_55 rfl ?_
    refine st_get G inX6 rfl 0 (by decide) wd_16 59 rfl 0 rfl rfl dX6_repay_56 ?_
    refine st_get G inX5 rfl 6 (by decide) wd_364 62 rfl 1 rfl rfl dX6_repay_59 ?_
    refine st_iload G 64 rfl 0 rfl dX6_repay_62 ?_
    obtain ⟨hin, h⟩ := h
    refine st_iald G 65 rfl 3 rfl hin dX6_repay_64 ?_
    refine st_iload G 67 rfl 5 rfl dX6_repay_65 ?_
    refine st_icmp_ge G 76 70 rfl dX6_repay_67 rfl (fun c => ?_) (fun c => ?_)
    · have h := h.1 c
      refine st_aload_n G 77 rfl 1 rfl dX6_repay_76 rfl ?_
      refine st_get G inX6 rfl 0 (by decide) wd_16 80 rfl 0 rfl rfl dX6_repay_77 ?_
      refine st_iload_n G 81 rfl 2 rfl dX6_repay_80 rfl ?_
      refine st_iload_n G 82 rfl 3 rfl dX6_repay_81 rfl ?_
      refine st_iload_n G 83 rfl 4 rfl dX6_repay_82 rfl ?_
      refine st_iload G 85 rfl 5 rfl dX6_repay_83 ?_
      refine st_cVv G lk_X6_136 (c_X5_go g.l g.D g.X q_t_w q_t_w_km q_t_w_father q_t_w_mother q_t_w_from q_t_w_spoons q_t_w_owed q_t_w_tape q_t_w_tx0 q_t_w_tx1 q_t_w_waiting w_people w_year w_z w_bytes w_waits w_spoons x1 x2 x3 x4 _ h) ⟨rfl, rfl, ⟨Nat.le_of_ble_eq_true rfl, Nat.le_of_ble_eq_true rfl⟩, Nat.zero_le _, Nat.zero_le _⟩ 88 rfl [1, 2] rfl (by decide) 0 5 rfl rfl rfl (Nat.le_of_ble_eq_true rfl) rfl dX6_repay_85 (fun w hq => ?_)
      obtain ⟨w_spoons_85, h, rfl⟩ := hq
      refine st_wp (ws' := [(q_t, .inr (6, [.ref q_t_w, .ref q_t_k, .int c_images, .ref q_t_errors, .ref q_t_sheets, .ref q_t_r, .ref q_t_th, .ref q_t_sp])), (q_t_w, .inr (5, [.int w_people, .ref q_t_w_km, .ref q_t_w_father, .ref q_t_w_mother, .ref q_t_w_from, .ref q_t_w_spoons, .ref q_t_w_owed, .int w_year, .int w_z, .ref q_t_w_tape, .int w_bytes, .ref q_t_w_tx0, .ref q_t_w_tx1, .ref q_t_w_waiting, .int w_waits])), (q_t_w_spoons, .inl (g.X.cI, 40, .inl w_spoons_85)), (q_t_w_owed, .inl (g.X.cI, 64, .inl w_owed)), (q_t_errors, .inl (g.X.cI, 7, .inl c_errors))]) 5 [0, 3, 4] (by decide) rfl rfl (by rfl) [(q_t, .inr (6, [.ref q_t_w, .ref q_t_k, .int c_images, .ref q_t_errors, .ref q_t_sheets, .ref q_t_r, .ref q_t_th, .ref q_t_sp])), (q_t_w_owed, .inl (g.X.cI, 64, .inl w_owed)), (q_t_errors, .inl (g.X.cI, 7, .inl c_errors))] (by rfl) rfl ?_
      refine st_aload_n G 89 rfl 1 rfl dX6_repay_88 rfl ?_
      refine st_get G inX6 rfl 0 (by decide) wd_16 92 rfl 0 rfl rfl dX6_repay_89 ?_
      refine st_get G inX5 rfl 6 (by decide) wd_364 95 rfl 1 rfl rfl dX6_repay_92 ?_
      refine st_iload G 97 rfl 0 rfl dX6_repay_95 ?_
      refine st_dup2 G 98 rfl dX6_repay_97 rfl rfl ?_
      obtain ⟨hin, h⟩ := h
      refine st_iald G 99 rfl 3 rfl hin dX6_repay_98 ?_
      refine st_iload G 101 rfl 5 rfl dX6_repay_99 ?_
      refine st_isub G 102 rfl dX6_repay_101 ?_
      obtain ⟨hin, h⟩ := h
      obtain ⟨w_owed_102, ew_owed_102⟩ : ∃ y : Nat → Int32, y = upd w_owed r_35.toNatClampNeg ((w_owed r_35.toNatClampNeg) - x4) := ⟨_, rfl⟩
      have h := h w_owed_102 ew_owed_102
      refine st_iast G [(q_t, .inr (6, [.ref q_t_w, .ref q_t_k, .int c_images, .ref q_t_errors, .ref q_t_sheets, .ref q_t_r, .ref q_t_th, .ref q_t_sp])), (q_t_w, .inr (5, [.int w_people, .ref q_t_w_km, .ref q_t_w_father, .ref q_t_w_mother, .ref q_t_w_from, .ref q_t_w_spoons, .ref q_t_w_owed, .int w_year, .int w_z, .ref q_t_w_tape, .int w_bytes, .ref q_t_w_tx0, .ref q_t_w_tx1, .ref q_t_w_waiting, .int w_waits])), (q_t_w_spoons, .inl (g.X.cI, 40, .inl w_spoons_85)), (q_t_w_owed, .inl (g.X.cI, 64, .inl w_owed_102)), (q_t_errors, .inl (g.X.cI, 7, .inl c_errors))] 103 rfl 3 rfl hin (by subst ew_owed_102; rfl) dX6_repay_102 ?_
      refine st_aload_n G 104 rfl 1 rfl dX6_repay_103 rfl ?_
      refine st_get G inX6 rfl 0 (by decide) wd_16 107 rfl 0 rfl rfl dX6_repay_104 ?_
      refine st_get G inX5 rfl 6 (by decide) wd_364 110 rfl 1 rfl rfl dX6_repay_107 ?_
      refine st_iload G 112 rfl 0 rfl dX6_repay_110 ?_
      obtain ⟨hin, h⟩ := h
      refine st_iald G 113 rfl 3 rfl hin dX6_repay_112 ?_
      exact R _ _ _ _ dX6_repay_113 (Nat.le_of_ble_eq_true rfl) ⟨_, _, _, h, rfl⟩
    have h := h.2 c
    refine st_aload_n G 71 rfl 1 rfl dX6_repay_70 rfl ?_
    refine st_iconst G 72 rfl (3 : Int32) (by decide) dX6_repay_71 ?_
    refine st_cVi G lk_X6_55 (c_X6_error g.l g.D g.X q_t q_t_w q_t_k q_t_errors q_t_sheets q_t_r q_t_th q_t_sp c_images c_errors (3 : Int32) _ h) ⟨rfl, rfl, ⟨Nat.le_of_ble_eq_true rfl, Nat.le_of_ble_eq_true rfl⟩, Nat.zero_le _, Nat.zero_le _⟩ 75 rfl [0, 4] rfl (by decide) 0 6 rfl rfl rfl (Nat.le_of_ble_eq_true rfl) rfl dX6_repay_72 (fun r_72 w hq => ?_)
    obtain ⟨c_errors_72, h, rfl⟩ := hq
    refine st_wp (ws' := [(q_t, .inr (6, [.ref q_t_w, .ref q_t_k, .int c_images, .ref q_t_errors, .ref q_t_sheets, .ref q_t_r, .ref q_t_th, .ref q_t_sp])), (q_t_w, .inr (5, [.int w_people, .ref q_t_w_km, .ref q_t_w_father, .ref q_t_w_mother, .ref q_t_w_from, .ref q_t_w_spoons, .ref q_t_w_owed, .int w_year, .int w_z, .ref q_t_w_tape, .int w_bytes, .ref q_t_w_tx0, .ref q_t_w_tx1, .ref q_t_w_waiting, .int w_waits])), (q_t_w_spoons, .inl (g.X.cI, 40, .inl w_spoons)), (q_t_w_owed, .inl (g.X.cI, 64, .inl w_owed)), (q_t_errors, .inl (g.X.cI, 7, .inl c_errors_72))]) 5 [1, 2, 3] (by decide) rfl rfl (by rfl) [(q_t_w, .inr (5, [.int w_people, .ref q_t_w_km, .ref q_t_w_father, .ref q_t_w_mother, .ref q_t_w_from, .ref q_t_w_spoons, .ref q_t_w_owed, .int w_year, .int w_z, .ref q_t_w_tape, .int w_bytes, .ref q_t_w_tx0, .ref q_t_w_tx1, .ref q_t_w_waiting, .int w_waits])), (q_t_w_spoons, .inl (g.X.cI, 40, .inl w_spoons)), (q_t_w_owed, .inl (g.X.cI, 64, .inl w_owed))] (by rfl) rfl ?_
    exact R _ _ _ _ dX6_repay_75 (Nat.le_of_ble_eq_true rfl) ⟨_, _, _, h, rfl⟩
  have h := h.2 c
  refine st_aload_n G 28 rfl 0 rfl dX6_repay_27 rfl ?_
  refine st_iconst G 29 rfl (1 : Int32) (by decide) dX6_repay_28 ?_
  refine st_cVi G lk_X6_55 (c_X6_error g.l g.D g.X q_t q_t_w q_t_k q_t_errors q_t_sheets q_t_r q_t_th q_t_sp c_images c_errors (1 : Int32) _ h) ⟨rfl, rfl, ⟨Nat.le_of_ble_eq_true rfl, Nat.le_of_ble_eq_true rfl⟩, Nat.zero_le _, Nat.zero_le _⟩ 32 rfl [0, 4] rfl (by decide) 0 6 rfl rfl rfl (Nat.le_of_ble_eq_true rfl) rfl dX6_repay_29 (fun r_29 w hq => ?_)
  obtain ⟨c_errors_29, h, rfl⟩ := hq
  refine st_wp (ws' := [(q_t, .inr (6, [.ref q_t_w, .ref q_t_k, .int c_images, .ref q_t_errors, .ref q_t_sheets, .ref q_t_r, .ref q_t_th, .ref q_t_sp])), (q_t_w, .inr (5, [.int w_people, .ref q_t_w_km, .ref q_t_w_father, .ref q_t_w_mother, .ref q_t_w_from, .ref q_t_w_spoons, .ref q_t_w_owed, .int w_year, .int w_z, .ref q_t_w_tape, .int w_bytes, .ref q_t_w_tx0, .ref q_t_w_tx1, .ref q_t_w_waiting, .int w_waits])), (q_t_w_spoons, .inl (g.X.cI, 40, .inl w_spoons)), (q_t_w_owed, .inl (g.X.cI, 64, .inl w_owed)), (q_t_errors, .inl (g.X.cI, 7, .inl c_errors_29))]) 5 [1, 2, 3] (by decide) rfl rfl (by rfl) [(q_t_w, .inr (5, [.int w_people, .ref q_t_w_km, .ref q_t_w_father, .ref q_t_w_mother, .ref q_t_w_from, .ref q_t_w_spoons, .ref q_t_w_owed, .int w_year, .int w_z, .ref q_t_w_tape, .int w_bytes, .ref q_t_w_tx0, .ref q_t_w_tx1, .ref q_t_w_waiting, .int w_waits])), (q_t_w_spoons, .inl (g.X.cI, 40, .inl w_spoons)), (q_t_w_owed, .inl (g.X.cI, 64, .inl w_owed))] (by rfl) rfl ?_
  exact R _ _ _ _ dX6_repay_32 (Nat.le_of_ble_eq_true rfl) ⟨_, _, _, h, rfl⟩
set_option maxRecDepth 100000 in
set_option maxHeartbeats 4000000 in
theorem c_X6_repay (l : Launch) (D : va_G) (X : XT) (q_t q_t_w q_t_w_km q_t_w_father q_t_w_mother q_t_w_from q_t_w_spoons q_t_w_owed q_t_w_tape q_t_w_tx0 q_t_w_tx1 q_t_w_waiting q_t_k q_t_errors q_t_sheets q_t_r q_t_th q_t_sp : Nat) (c_images : Int32) (w_people : Int32) (w_year : Int32) (w_z : Int32) (w_bytes : Int32) (w_waits : Int32) (w_spoons : Nat → Int32) (w_owed : Nat → Int32) (c_errors : Nat → Int32) (x1 : Int32) (x2 : Int32) (x3 : Int32) (x4 : Int32) (Q : Int32 → (Nat → Int32) → (Nat → Int32) → (Nat → Int32) → Prop) (h : wp_X6_repay x1 x2 x3 x4 w_people w_spoons w_owed c_errors Q) : CTi l D X yX6_repay cX6_repay 6 .int rm_X6_repay [.ref q_t, .int x1, .int x2, .int x3, .int x4] [(q_t, .inr (6, [.ref q_t_w, .ref q_t_k, .int c_images, .ref q_t_errors, .ref q_t_sheets, .ref q_t_r, .ref q_t_th, .ref q_t_sp])), (q_t_w, .inr (5, [.int w_people, .ref q_t_w_km, .ref q_t_w_father, .ref q_t_w_mother, .ref q_t_w_from, .ref q_t_w_spoons, .ref q_t_w_owed, .int w_year, .int w_z, .ref q_t_w_tape, .int w_bytes, .ref q_t_w_tx0, .ref q_t_w_tx1, .ref q_t_w_waiting, .int w_waits])), (q_t_w_spoons, .inl (X.cI, 40, .inl w_spoons)), (q_t_w_owed, .inl (X.cI, 64, .inl w_owed)), (q_t_errors, .inl (X.cI, 7, .inl c_errors))] (fun (r : Int32) w => ∃ (w_spoons' : Nat → Int32) (w_owed' : Nat → Int32) (c_errors' : Nat → Int32), Q r w_spoons' w_owed' c_errors' ∧ w = [(q_t, .inr (6, [.ref q_t_w, .ref q_t_k, .int c_images, .ref q_t_errors, .ref q_t_sheets, .ref q_t_r, .ref q_t_th, .ref q_t_sp])), (q_t_w, .inr (5, [.int w_people, .ref q_t_w_km, .ref q_t_w_father, .ref q_t_w_mother, .ref q_t_w_from, .ref q_t_w_spoons, .ref q_t_w_owed, .int w_year, .int w_z, .ref q_t_w_tape, .int w_bytes, .ref q_t_w_tx0, .ref q_t_w_tx1, .ref q_t_w_waiting, .int w_waits])), (q_t_w_spoons, .inl (X.cI, 40, .inl w_spoons')), (q_t_w_owed, .inl (X.cI, 64, .inl w_owed')), (q_t_errors, .inl (X.cI, 7, .inl c_errors'))]) :=
  ct_i (by decide) (Nat.le_of_ble_eq_true rfl) (fun g hl hD hX G R => by subst hl; subst hD; subst hX; exact b_X6_repay_e G R h)
set_option maxRecDepth 100000 in
set_option maxHeartbeats 4000000 in
theorem b_X6_owes_e {g : GT} (G : GOOD g RX6 cX6_owes 3 rm_X6_owes) {q_t q_t_w q_t_w_km q_t_w_father q_t_w_mother q_t_w_from q_t_w_spoons q_t_w_owed q_t_w_tape q_t_w_tx0 q_t_w_tx1 q_t_w_waiting q_t_k q_t_errors q_t_sheets q_t_r q_t_th q_t_sp : Nat} {c_images : Int32} {w_people : Int32} {w_year : Int32} {w_z : Int32} {w_bytes : Int32} {w_waits : Int32} {w_owed : Nat → Int32} {c_errors : Nat → Int32} {x1 : Int32} {x2 : Int32} {Q : Int32 → (Nat → Int32) → Prop} (R : RETi g cX6_owes 4 (fun (r : Int32) w => ∃ (c_errors' : Nat → Int32), Q r c_errors' ∧ w = [(q_t, .inr (6, [.ref q_t_w, .ref q_t_k, .int c_images, .ref q_t_errors, .ref q_t_sheets, .ref q_t_r, .ref q_t_th, .ref q_t_sp])), (q_t_w, .inr (5, [.int w_people, .ref q_t_w_km, .ref q_t_w_father, .ref q_t_w_mother, .ref q_t_w_from, .ref q_t_w_spoons, .ref q_t_w_owed, .int w_year, .int w_z, .ref q_t_w_tape, .int w_bytes, .ref q_t_w_tx0, .ref q_t_w_tx1, .ref q_t_w_waiting, .int w_waits])), (q_t_w_owed, .inl (g.X.cI, 64, .inl w_owed)), (q_t_errors, .inl (g.X.cI, 7, .inl c_errors'))])) (h : wp_X6_owes x1 x2 w_people w_owed c_errors Q) : ST g 0 0 0 [(0, .ref q_t), (1, .int x1), (2, .int x2)] [] [(q_t, .inr (6, [.ref q_t_w, .ref q_t_k, .int c_images, .ref q_t_errors, .ref q_t_sheets, .ref q_t_r, .ref q_t_th, .ref q_t_sp])), (q_t_w, .inr (5, [.int w_people, .ref q_t_w_km, .ref q_t_w_father, .ref q_t_w_mother, .ref q_t_w_from, .ref q_t_w_spoons, .ref q_t_w_owed, .int w_year, .int w_z, .ref q_t_w_tape, .int w_bytes, .ref q_t_w_tx0, .ref q_t_w_tx1, .ref q_t_w_waiting, .int w_waits])), (q_t_w_owed, .inl (g.X.cI, 64, .inl w_owed)), (q_t_errors, .inl (g.X.cI, 7, .inl c_errors))] := by
  unfold wp_X6_owes at h
  refine st_aload_n G 1 rfl 0 rfl dX6_owes_0 rfl ?_
  refine st_iload_n G 2 rfl 1 rfl dX6_owes_1 rfl ?_
  refine st_iload_n G 3 rfl 2 rfl dX6_owes_2 rfl ?_
  refine st_cVio G lk_X6_66 (c_X6_notTwo g.l g.D g.X q_t q_t_w q_t_w_km q_t_w_father q_t_w_mother q_t_w_from q_t_w_spoons q_t_w_owed q_t_w_tape q_t_w_tx0 q_t_w_tx1 q_t_w_waiting q_t_k q_t_errors q_t_sheets q_t_r q_t_th q_t_sp c_images w_people w_year w_z w_bytes w_waits x1 x2 _ h) ⟨rfl, rfl, ⟨Nat.le_of_ble_eq_true rfl, Nat.le_of_ble_eq_true rfl⟩, Nat.zero_le _, Nat.zero_le _⟩ 6 rfl [0, 1] rfl (by decide) 0 6 rfl rfl rfl (Nat.le_of_ble_eq_true rfl) rfl dX6_owes_3 (fun r_3 h => ?_)
  refine st_if_eq G 15 9 rfl dX6_owes_6 rfl (fun c => ?_) (fun c => ?_)
  · have h := h.1 c
    refine st_aload_n G 16 rfl 0 rfl dX6_owes_15 rfl ?_
    refine st_get G inX6 rfl 0 (by decide) wd_16 19 rfl 0 rfl rfl dX6_owes_16 ?_
    refine st_get G inX5 rfl 6 (by decide) wd_364 22 rfl 1 rfl rfl dX6_owes_19 ?_
    refine st_iload_n G 23 rfl 1 rfl dX6_owes_22 rfl ?_
    refine st_iload_n G 24 rfl 2 rfl dX6_owes_23 rfl ?_
    refine st_cSio G lk_X6_126 (c_X6_pair g.l g.D g.X x1 x2 _ h) ⟨rfl, rfl, ⟨Nat.le_of_ble_eq_true rfl, Nat.le_of_ble_eq_true rfl⟩, Nat.zero_le _, Nat.zero_le _⟩ 27 rfl [] rfl (by decide) rfl (Nat.le_of_ble_eq_true rfl) rfl dX6_owes_24 (fun r_24 h => ?_)
    obtain ⟨hin, h⟩ := h
    refine st_iald G 28 rfl 2 rfl hin dX6_owes_27 ?_
    exact R _ _ _ _ dX6_owes_28 (Nat.le_of_ble_eq_true rfl) ⟨_, h, rfl⟩
  have h := h.2 c
  refine st_aload_n G 10 rfl 0 rfl dX6_owes_9 rfl ?_
  refine st_iconst G 11 rfl (1 : Int32) (by decide) dX6_owes_10 ?_
  refine st_cVi G lk_X6_55 (c_X6_error g.l g.D g.X q_t q_t_w q_t_k q_t_errors q_t_sheets q_t_r q_t_th q_t_sp c_images c_errors (1 : Int32) _ h) ⟨rfl, rfl, ⟨Nat.le_of_ble_eq_true rfl, Nat.le_of_ble_eq_true rfl⟩, Nat.zero_le _, Nat.zero_le _⟩ 14 rfl [0, 3] rfl (by decide) 0 6 rfl rfl rfl (Nat.le_of_ble_eq_true rfl) rfl dX6_owes_11 (fun r_11 w hq => ?_)
  obtain ⟨c_errors_11, h, rfl⟩ := hq
  refine st_wp (ws' := [(q_t, .inr (6, [.ref q_t_w, .ref q_t_k, .int c_images, .ref q_t_errors, .ref q_t_sheets, .ref q_t_r, .ref q_t_th, .ref q_t_sp])), (q_t_w, .inr (5, [.int w_people, .ref q_t_w_km, .ref q_t_w_father, .ref q_t_w_mother, .ref q_t_w_from, .ref q_t_w_spoons, .ref q_t_w_owed, .int w_year, .int w_z, .ref q_t_w_tape, .int w_bytes, .ref q_t_w_tx0, .ref q_t_w_tx1, .ref q_t_w_waiting, .int w_waits])), (q_t_w_owed, .inl (g.X.cI, 64, .inl w_owed)), (q_t_errors, .inl (g.X.cI, 7, .inl c_errors_11))]) 4 [1, 2] (by decide) rfl rfl (by rfl) [(q_t_w, .inr (5, [.int w_people, .ref q_t_w_km, .ref q_t_w_father, .ref q_t_w_mother, .ref q_t_w_from, .ref q_t_w_spoons, .ref q_t_w_owed, .int w_year, .int w_z, .ref q_t_w_tape, .int w_bytes, .ref q_t_w_tx0, .ref q_t_w_tx1, .ref q_t_w_waiting, .int w_waits])), (q_t_w_owed, .inl (g.X.cI, 64, .inl w_owed))] (by rfl) rfl ?_
  exact R _ _ _ _ dX6_owes_14 (Nat.le_of_ble_eq_true rfl) ⟨_, h, rfl⟩
set_option maxRecDepth 100000 in
set_option maxHeartbeats 4000000 in
theorem c_X6_owes (l : Launch) (D : va_G) (X : XT) (q_t q_t_w q_t_w_km q_t_w_father q_t_w_mother q_t_w_from q_t_w_spoons q_t_w_owed q_t_w_tape q_t_w_tx0 q_t_w_tx1 q_t_w_waiting q_t_k q_t_errors q_t_sheets q_t_r q_t_th q_t_sp : Nat) (c_images : Int32) (w_people : Int32) (w_year : Int32) (w_z : Int32) (w_bytes : Int32) (w_waits : Int32) (w_owed : Nat → Int32) (c_errors : Nat → Int32) (x1 : Int32) (x2 : Int32) (Q : Int32 → (Nat → Int32) → Prop) (h : wp_X6_owes x1 x2 w_people w_owed c_errors Q) : CTi l D X yX6_owes cX6_owes 3 .int rm_X6_owes [.ref q_t, .int x1, .int x2] [(q_t, .inr (6, [.ref q_t_w, .ref q_t_k, .int c_images, .ref q_t_errors, .ref q_t_sheets, .ref q_t_r, .ref q_t_th, .ref q_t_sp])), (q_t_w, .inr (5, [.int w_people, .ref q_t_w_km, .ref q_t_w_father, .ref q_t_w_mother, .ref q_t_w_from, .ref q_t_w_spoons, .ref q_t_w_owed, .int w_year, .int w_z, .ref q_t_w_tape, .int w_bytes, .ref q_t_w_tx0, .ref q_t_w_tx1, .ref q_t_w_waiting, .int w_waits])), (q_t_w_owed, .inl (X.cI, 64, .inl w_owed)), (q_t_errors, .inl (X.cI, 7, .inl c_errors))] (fun (r : Int32) w => ∃ (c_errors' : Nat → Int32), Q r c_errors' ∧ w = [(q_t, .inr (6, [.ref q_t_w, .ref q_t_k, .int c_images, .ref q_t_errors, .ref q_t_sheets, .ref q_t_r, .ref q_t_th, .ref q_t_sp])), (q_t_w, .inr (5, [.int w_people, .ref q_t_w_km, .ref q_t_w_father, .ref q_t_w_mother, .ref q_t_w_from, .ref q_t_w_spoons, .ref q_t_w_owed, .int w_year, .int w_z, .ref q_t_w_tape, .int w_bytes, .ref q_t_w_tx0, .ref q_t_w_tx1, .ref q_t_w_waiting, .int w_waits])), (q_t_w_owed, .inl (X.cI, 64, .inl w_owed)), (q_t_errors, .inl (X.cI, 7, .inl c_errors'))]) :=
  ct_i (by decide) (Nat.le_of_ble_eq_true rfl) (fun g hl hD hX G R => by subst hl; subst hD; subst hX; exact b_X6_owes_e G R h)
set_option maxRecDepth 100000 in
set_option maxHeartbeats 4000000 in
theorem b_X6_feed_39 {g : GT} (G : GOOD g RX6 cX6_feed 5 rm_X6_feed) {q_t q_t_w q_t_w_km q_t_w_father q_t_w_mother q_t_w_from q_t_w_spoons q_t_w_owed q_t_w_tape q_t_w_tx0 q_t_w_tx1 q_t_w_waiting q_t_k q_t_errors q_t_sheets q_t_r q_t_th q_t_sp : Nat} {c_images : Int32} {w_people : Int32} {w_year : Int32} {w_z : Int32} {w_waits : Int32} {Q : Int32 → (Int32) → (Nat → Int32) → (Nat → Int32) → Prop} (R : RETi g cX6_feed 4 (fun (r : Int32) w => ∃ (w_bytes' : Int32) (w_tape' : Nat → Int32) (c_errors' : Nat → Int32), Q r w_bytes' w_tape' c_errors' ∧ w = [(q_t, .inr (6, [.ref q_t_w, .ref q_t_k, .int c_images, .ref q_t_errors, .ref q_t_sheets, .ref q_t_r, .ref q_t_th, .ref q_t_sp])), (q_t_w, .inr (5, [.int w_people, .ref q_t_w_km, .ref q_t_w_father, .ref q_t_w_mother, .ref q_t_w_from, .ref q_t_w_spoons, .ref q_t_w_owed, .int w_year, .int w_z, .ref q_t_w_tape, .int w_bytes', .ref q_t_w_tx0, .ref q_t_w_tx1, .ref q_t_w_waiting, .int w_waits])), (q_t_w_tape, .inl (g.X.cI, 60, .inl w_tape')), (q_t_errors, .inl (g.X.cI, 7, .inl c_errors'))])) : ∀ (n : Nat) (x1 : Int64) (x3 : Int32) (x4 : Int32) (w_bytes : Int32) (w_tape : Nat → Int32) (c_errors : Nat → Int32), wp_X6_feed_b39 Q n x1 x3 x4 w_bytes w_tape c_errors → ST g 0 0 39 [(0, .ref q_t), (1, .long x1), (3, .int x3), (4, .int x4)] [] [(q_t, .inr (6, [.ref q_t_w, .ref q_t_k, .int c_images, .ref q_t_errors, .ref q_t_sheets, .ref q_t_r, .ref q_t_th, .ref q_t_sp])), (q_t_w, .inr (5, [.int w_people, .ref q_t_w_km, .ref q_t_w_father, .ref q_t_w_mother, .ref q_t_w_from, .ref q_t_w_spoons, .ref q_t_w_owed, .int w_year, .int w_z, .ref q_t_w_tape, .int w_bytes, .ref q_t_w_tx0, .ref q_t_w_tx1, .ref q_t_w_waiting, .int w_waits])), (q_t_w_tape, .inl (g.X.cI, 60, .inl w_tape)), (q_t_errors, .inl (g.X.cI, 7, .inl c_errors))] := by
  intro n
  induction n with
  | zero => intro x1 x3 x4 w_bytes w_tape c_errors h; exact False.elim h
  | succ n hK39 =>
    intro x1 x3 x4 w_bytes w_tape c_errors h
    unfold wp_X6_feed_b39 at h
    refine st_iload G 41 rfl 3 rfl dX6_feed_39 ?_
    refine st_iload_n G 42 rfl 2 rfl dX6_feed_41 rfl ?_
    refine st_icmp_ge G 81 45 rfl dX6_feed_42 rfl (fun c => ?_) (fun c => ?_)
    · have h := h.1 c
      refine st_aload_n G 82 rfl 0 rfl dX6_feed_81 rfl ?_
      refine st_get G inX6 rfl 0 (by decide) wd_16 85 rfl 0 rfl rfl dX6_feed_82 ?_
      refine st_dup G 86 rfl dX6_feed_85 rfl ?_
      refine st_get G inX5 rfl 10 (by decide) wd_420 89 rfl 1 rfl rfl dX6_feed_86 ?_
      refine st_iload_n G 90 rfl 2 rfl dX6_feed_89 rfl ?_
      refine st_iadd G 91 rfl dX6_feed_90 ?_
      refine st_topi (fun w_bytes_91 ew_bytes_91 => ?_)
      have h := h w_bytes_91 ew_bytes_91
      refine st_put G inX5 tyX5 tyX5_ok nmX5 rfl 10 (by decide) wd_420 rfl [(q_t, .inr (6, [.ref q_t_w, .ref q_t_k, .int c_images, .ref q_t_errors, .ref q_t_sheets, .ref q_t_r, .ref q_t_th, .ref q_t_sp])), (q_t_w, .inr (5, [.int w_people, .ref q_t_w_km, .ref q_t_w_father, .ref q_t_w_mother, .ref q_t_w_from, .ref q_t_w_spoons, .ref q_t_w_owed, .int w_year, .int w_z, .ref q_t_w_tape, .int w_bytes_91, .ref q_t_w_tx0, .ref q_t_w_tx1, .ref q_t_w_waiting, .int w_waits])), (q_t_w_tape, .inl (g.X.cI, 60, .inl w_tape)), (q_t_errors, .inl (g.X.cI, 7, .inl c_errors))] 94 rfl 1 rfl rfl rfl (Nat.le_of_ble_eq_true rfl) rfl dX6_feed_91 ?_
      refine st_aload_n G 95 rfl 0 rfl dX6_feed_94 rfl ?_
      refine st_get G inX6 rfl 0 (by decide) wd_16 98 rfl 0 rfl rfl dX6_feed_95 ?_
      refine st_get G inX5 rfl 10 (by decide) wd_420 101 rfl 1 rfl rfl dX6_feed_98 ?_
      exact R _ _ _ _ dX6_feed_101 (Nat.le_of_ble_eq_true rfl) ⟨_, _, _, h, rfl⟩
    have h := h.2 c
    refine st_aload_n G 46 rfl 0 rfl dX6_feed_45 rfl ?_
    refine st_get G inX6 rfl 0 (by decide) wd_16 49 rfl 0 rfl rfl dX6_feed_46 ?_
    refine st_get G inX5 rfl 9 (by decide) wd_421 52 rfl 1 rfl rfl dX6_feed_49 ?_
    refine st_aload_n G 53 rfl 0 rfl dX6_feed_52 rfl ?_
    refine st_get G inX6 rfl 0 (by decide) wd_16 56 rfl 0 rfl rfl dX6_feed_53 ?_
    refine st_get G inX5 rfl 10 (by decide) wd_420 59 rfl 1 rfl rfl dX6_feed_56 ?_
    refine st_iload G 61 rfl 3 rfl dX6_feed_59 ?_
    refine st_iadd G 62 rfl dX6_feed_61 ?_
    refine st_lload_n G 63 rfl 1 rfl dX6_feed_62 rfl ?_
    refine st_bipush G 65 rfl (8 : Int32) (by decide) dX6_feed_63 ?_
    refine st_iload G 67 rfl 3 rfl dX6_feed_65 ?_
    refine st_imul G 68 rfl dX6_feed_67 ?_
    refine st_lushr G 69 rfl dX6_feed_68 ?_
    refine st_l2i G 70 rfl dX6_feed_69 ?_
    refine st_sipush G 73 rfl (255 : Int32) (by decide) dX6_feed_70 ?_
    refine st_iand G 74 rfl dX6_feed_73 ?_
    obtain ⟨hin, h⟩ := h
    obtain ⟨w_tape_74, ew_tape_74⟩ : ∃ y : Nat → Int32, y = upd w_tape (w_bytes + x4).toNatClampNeg ((((x1.toUInt64 >>> (((8 : Int32) * x4).toInt64.toUInt64 &&& Int64.toUInt64 63)).toInt64).toInt32) &&& (255 : Int32)) := ⟨_, rfl⟩
    have h := h w_tape_74 ew_tape_74
    refine st_iast G [(q_t, .inr (6, [.ref q_t_w, .ref q_t_k, .int c_images, .ref q_t_errors, .ref q_t_sheets, .ref q_t_r, .ref q_t_th, .ref q_t_sp])), (q_t_w, .inr (5, [.int w_people, .ref q_t_w_km, .ref q_t_w_father, .ref q_t_w_mother, .ref q_t_w_from, .ref q_t_w_spoons, .ref q_t_w_owed, .int w_year, .int w_z, .ref q_t_w_tape, .int w_bytes, .ref q_t_w_tx0, .ref q_t_w_tx1, .ref q_t_w_waiting, .int w_waits])), (q_t_w_tape, .inl (g.X.cI, 60, .inl w_tape_74)), (q_t_errors, .inl (g.X.cI, 7, .inl c_errors))] 75 rfl 2 rfl hin (by subst ew_tape_74; rfl) dX6_feed_74 ?_
    obtain ⟨x4_75, ex4_75⟩ : ∃ y : Int32, y = (x4 + (1 : Int32)) := ⟨_, rfl⟩
    have h := h x4_75 ex4_75
    refine st_iinc G 78 rfl [(4, .int x4_75), (0, .ref q_t), (1, .long x1), (3, .int x3)] x4_75 3 rfl (by rw [ex4_75]; rfl) dX6_feed_75 (by decide) rfl ?_
    refine st_goto G 39 dX6_feed_78 rfl ?_
    refine st_L (L' := [(0, .ref q_t), (1, .long x1), (3, .int x3), (4, .int x4_75)]) [1, 2, 3, 0] rfl ?_
    exact hK39 _ _ _ _ _ _ h
set_option maxRecDepth 100000 in
set_option maxHeartbeats 4000000 in
theorem b_X6_feed_e {g : GT} (G : GOOD g RX6 cX6_feed 5 rm_X6_feed) {q_t q_t_w q_t_w_km q_t_w_father q_t_w_mother q_t_w_from q_t_w_spoons q_t_w_owed q_t_w_tape q_t_w_tx0 q_t_w_tx1 q_t_w_waiting q_t_k q_t_errors q_t_sheets q_t_r q_t_th q_t_sp : Nat} {c_images : Int32} {w_people : Int32} {w_year : Int32} {w_z : Int32} {w_bytes : Int32} {w_waits : Int32} {w_tape : Nat → Int32} {c_errors : Nat → Int32} {x1 : Int64} {x3 : Int32} {Q : Int32 → (Int32) → (Nat → Int32) → (Nat → Int32) → Prop} (R : RETi g cX6_feed 4 (fun (r : Int32) w => ∃ (w_bytes' : Int32) (w_tape' : Nat → Int32) (c_errors' : Nat → Int32), Q r w_bytes' w_tape' c_errors' ∧ w = [(q_t, .inr (6, [.ref q_t_w, .ref q_t_k, .int c_images, .ref q_t_errors, .ref q_t_sheets, .ref q_t_r, .ref q_t_th, .ref q_t_sp])), (q_t_w, .inr (5, [.int w_people, .ref q_t_w_km, .ref q_t_w_father, .ref q_t_w_mother, .ref q_t_w_from, .ref q_t_w_spoons, .ref q_t_w_owed, .int w_year, .int w_z, .ref q_t_w_tape, .int w_bytes', .ref q_t_w_tx0, .ref q_t_w_tx1, .ref q_t_w_waiting, .int w_waits])), (q_t_w_tape, .inl (g.X.cI, 60, .inl w_tape')), (q_t_errors, .inl (g.X.cI, 7, .inl c_errors'))])) (h : wp_X6_feed x1 x3 w_bytes w_tape c_errors Q) : ST g 0 0 0 [(0, .ref q_t), (1, .long x1), (3, .int x3)] [] [(q_t, .inr (6, [.ref q_t_w, .ref q_t_k, .int c_images, .ref q_t_errors, .ref q_t_sheets, .ref q_t_r, .ref q_t_th, .ref q_t_sp])), (q_t_w, .inr (5, [.int w_people, .ref q_t_w_km, .ref q_t_w_father, .ref q_t_w_mother, .ref q_t_w_from, .ref q_t_w_spoons, .ref q_t_w_owed, .int w_year, .int w_z, .ref q_t_w_tape, .int w_bytes, .ref q_t_w_tx0, .ref q_t_w_tx1, .ref q_t_w_waiting, .int w_waits])), (q_t_w_tape, .inl (g.X.cI, 60, .inl w_tape)), (q_t_errors, .inl (g.X.cI, 7, .inl c_errors))] := by
  unfold wp_X6_feed at h
  refine st_iload_n G 1 rfl 2 rfl dX6_feed_0 rfl ?_
  refine st_iconst G 2 rfl (1 : Int32) (by decide) dX6_feed_1 ?_
  refine st_bipush G 4 rfl (8 : Int32) (by decide) dX6_feed_2 ?_
  refine st_cSio G lk_X6_115 (c_X6_notWithin g.l g.D g.X x3 (1 : Int32) (8 : Int32) _ h) ⟨rfl, rfl, ⟨Nat.le_of_ble_eq_true rfl, Nat.le_of_ble_eq_true rfl⟩, Nat.zero_le _, Nat.zero_le _⟩ 7 rfl [] rfl (by decide) rfl (Nat.le_of_ble_eq_true rfl) rfl dX6_feed_4 (fun r_4 h => ?_)
  refine st_if_eq G 16 10 rfl dX6_feed_7 rfl (fun c => ?_) (fun c => ?_)
  · have h := h.1 c
    refine st_aload_n G 17 rfl 0 rfl dX6_feed_16 rfl ?_
    refine st_get G inX6 rfl 0 (by decide) wd_16 20 rfl 0 rfl rfl dX6_feed_17 ?_
    refine st_get G inX5 rfl 10 (by decide) wd_420 23 rfl 1 rfl rfl dX6_feed_20 ?_
    refine st_iload_n G 24 rfl 2 rfl dX6_feed_23 rfl ?_
    refine st_iadd G 25 rfl dX6_feed_24 ?_
    refine st_bipush G 27 rfl (60 : Int32) (by decide) dX6_feed_25 ?_
    refine st_icmp_le G 36 30 rfl dX6_feed_27 rfl (fun c => ?_) (fun c => ?_)
    · have h := h.1 c
      refine st_iconst G 37 rfl (0 : Int32) (by decide) dX6_feed_36 ?_
      refine st_istore G 39 rfl [(4, .int (0 : Int32)), (0, .ref q_t), (1, .long x1), (3, .int x3)] dX6_feed_37 (by decide) rfl ?_
      refine st_L (L' := [(0, .ref q_t), (1, .long x1), (3, .int x3), (4, .int (0 : Int32))]) [1, 2, 3, 0] rfl ?_
      obtain ⟨n, h⟩ := h
      exact b_X6_feed_39 G R n _ _ _ _ _ _ h
    have h := h.2 c
    refine st_aload_n G 31 rfl 0 rfl dX6_feed_30 rfl ?_
    refine st_iconst G 32 rfl (4 : Int32) (by decide) dX6_feed_31 ?_
    refine st_cVi G lk_X6_55 (c_X6_error g.l g.D g.X q_t q_t_w q_t_k q_t_errors q_t_sheets q_t_r q_t_th q_t_sp c_images c_errors (4 : Int32) _ h) ⟨rfl, rfl, ⟨Nat.le_of_ble_eq_true rfl, Nat.le_of_ble_eq_true rfl⟩, Nat.zero_le _, Nat.zero_le _⟩ 35 rfl [0, 3] rfl (by decide) 0 6 rfl rfl rfl (Nat.le_of_ble_eq_true rfl) rfl dX6_feed_32 (fun r_32 w hq => ?_)
    obtain ⟨c_errors_32, h, rfl⟩ := hq
    refine st_wp (ws' := [(q_t, .inr (6, [.ref q_t_w, .ref q_t_k, .int c_images, .ref q_t_errors, .ref q_t_sheets, .ref q_t_r, .ref q_t_th, .ref q_t_sp])), (q_t_w, .inr (5, [.int w_people, .ref q_t_w_km, .ref q_t_w_father, .ref q_t_w_mother, .ref q_t_w_from, .ref q_t_w_spoons, .ref q_t_w_owed, .int w_year, .int w_z, .ref q_t_w_tape, .int w_bytes, .ref q_t_w_tx0, .ref q_t_w_tx1, .ref q_t_w_waiting, .int w_waits])), (q_t_w_tape, .inl (g.X.cI, 60, .inl w_tape)), (q_t_errors, .inl (g.X.cI, 7, .inl c_errors_32))]) 4 [1, 2] (by decide) rfl rfl (by rfl) [(q_t_w, .inr (5, [.int w_people, .ref q_t_w_km, .ref q_t_w_father, .ref q_t_w_mother, .ref q_t_w_from, .ref q_t_w_spoons, .ref q_t_w_owed, .int w_year, .int w_z, .ref q_t_w_tape, .int w_bytes, .ref q_t_w_tx0, .ref q_t_w_tx1, .ref q_t_w_waiting, .int w_waits])), (q_t_w_tape, .inl (g.X.cI, 60, .inl w_tape))] (by rfl) rfl ?_
    exact R _ _ _ _ dX6_feed_35 (Nat.le_of_ble_eq_true rfl) ⟨_, _, _, h, rfl⟩
  have h := h.2 c
  refine st_aload_n G 11 rfl 0 rfl dX6_feed_10 rfl ?_
  refine st_iconst G 12 rfl (1 : Int32) (by decide) dX6_feed_11 ?_
  refine st_cVi G lk_X6_55 (c_X6_error g.l g.D g.X q_t q_t_w q_t_k q_t_errors q_t_sheets q_t_r q_t_th q_t_sp c_images c_errors (1 : Int32) _ h) ⟨rfl, rfl, ⟨Nat.le_of_ble_eq_true rfl, Nat.le_of_ble_eq_true rfl⟩, Nat.zero_le _, Nat.zero_le _⟩ 15 rfl [0, 3] rfl (by decide) 0 6 rfl rfl rfl (Nat.le_of_ble_eq_true rfl) rfl dX6_feed_12 (fun r_12 w hq => ?_)
  obtain ⟨c_errors_12, h, rfl⟩ := hq
  refine st_wp (ws' := [(q_t, .inr (6, [.ref q_t_w, .ref q_t_k, .int c_images, .ref q_t_errors, .ref q_t_sheets, .ref q_t_r, .ref q_t_th, .ref q_t_sp])), (q_t_w, .inr (5, [.int w_people, .ref q_t_w_km, .ref q_t_w_father, .ref q_t_w_mother, .ref q_t_w_from, .ref q_t_w_spoons, .ref q_t_w_owed, .int w_year, .int w_z, .ref q_t_w_tape, .int w_bytes, .ref q_t_w_tx0, .ref q_t_w_tx1, .ref q_t_w_waiting, .int w_waits])), (q_t_w_tape, .inl (g.X.cI, 60, .inl w_tape)), (q_t_errors, .inl (g.X.cI, 7, .inl c_errors_12))]) 4 [1, 2] (by decide) rfl rfl (by rfl) [(q_t_w, .inr (5, [.int w_people, .ref q_t_w_km, .ref q_t_w_father, .ref q_t_w_mother, .ref q_t_w_from, .ref q_t_w_spoons, .ref q_t_w_owed, .int w_year, .int w_z, .ref q_t_w_tape, .int w_bytes, .ref q_t_w_tx0, .ref q_t_w_tx1, .ref q_t_w_waiting, .int w_waits])), (q_t_w_tape, .inl (g.X.cI, 60, .inl w_tape))] (by rfl) rfl ?_
  exact R _ _ _ _ dX6_feed_15 (Nat.le_of_ble_eq_true rfl) ⟨_, _, _, h, rfl⟩
set_option maxRecDepth 100000 in
set_option maxHeartbeats 4000000 in
theorem c_X6_feed (l : Launch) (D : va_G) (X : XT) (q_t q_t_w q_t_w_km q_t_w_father q_t_w_mother q_t_w_from q_t_w_spoons q_t_w_owed q_t_w_tape q_t_w_tx0 q_t_w_tx1 q_t_w_waiting q_t_k q_t_errors q_t_sheets q_t_r q_t_th q_t_sp : Nat) (c_images : Int32) (w_people : Int32) (w_year : Int32) (w_z : Int32) (w_bytes : Int32) (w_waits : Int32) (w_tape : Nat → Int32) (c_errors : Nat → Int32) (x1 : Int64) (x3 : Int32) (Q : Int32 → (Int32) → (Nat → Int32) → (Nat → Int32) → Prop) (h : wp_X6_feed x1 x3 w_bytes w_tape c_errors Q) : CTi l D X yX6_feed cX6_feed 5 .int rm_X6_feed [.ref q_t, .long x1, .int x3] [(q_t, .inr (6, [.ref q_t_w, .ref q_t_k, .int c_images, .ref q_t_errors, .ref q_t_sheets, .ref q_t_r, .ref q_t_th, .ref q_t_sp])), (q_t_w, .inr (5, [.int w_people, .ref q_t_w_km, .ref q_t_w_father, .ref q_t_w_mother, .ref q_t_w_from, .ref q_t_w_spoons, .ref q_t_w_owed, .int w_year, .int w_z, .ref q_t_w_tape, .int w_bytes, .ref q_t_w_tx0, .ref q_t_w_tx1, .ref q_t_w_waiting, .int w_waits])), (q_t_w_tape, .inl (X.cI, 60, .inl w_tape)), (q_t_errors, .inl (X.cI, 7, .inl c_errors))] (fun (r : Int32) w => ∃ (w_bytes' : Int32) (w_tape' : Nat → Int32) (c_errors' : Nat → Int32), Q r w_bytes' w_tape' c_errors' ∧ w = [(q_t, .inr (6, [.ref q_t_w, .ref q_t_k, .int c_images, .ref q_t_errors, .ref q_t_sheets, .ref q_t_r, .ref q_t_th, .ref q_t_sp])), (q_t_w, .inr (5, [.int w_people, .ref q_t_w_km, .ref q_t_w_father, .ref q_t_w_mother, .ref q_t_w_from, .ref q_t_w_spoons, .ref q_t_w_owed, .int w_year, .int w_z, .ref q_t_w_tape, .int w_bytes', .ref q_t_w_tx0, .ref q_t_w_tx1, .ref q_t_w_waiting, .int w_waits])), (q_t_w_tape, .inl (X.cI, 60, .inl w_tape')), (q_t_errors, .inl (X.cI, 7, .inl c_errors'))]) :=
  ct_i (by decide) (Nat.le_of_ble_eq_true rfl) (fun g hl hD hX G R => by subst hl; subst hD; subst hX; exact b_X6_feed_e G R h)
set_option maxRecDepth 100000 in
set_option maxHeartbeats 4000000 in
theorem b_X6_notUse_e {g : GT} (G : GOOD g RX6 cX6_notUse 1 rm_X6_notUse) {x0 : Int32} {Q : Int32 → Prop} (R : RETz g cX6_notUse 0 (fun (r : Int32) w => (Q r) ∧ w = [])) (h : wp_X6_notUse x0 Q) : ST g 0 0 0 [(0, .int x0)] [] [] := by
  unfold wp_X6_notUse at h
  refine st_iload_n G 1 rfl 0 rfl dX6_notUse_0 rfl ?_
  refine st_if_eq G 13 4 rfl dX6_notUse_1 rfl (fun c => ?_) (fun c => ?_)
  · have h := h.1 c
    refine st_iconst G 14 rfl (0 : Int32) (by decide) dX6_notUse_13 ?_
    exact R _ _ _ _ dX6_notUse_14 (Nat.le_of_ble_eq_true rfl) rfl ⟨h, rfl⟩
  have h := h.2 c
  refine st_iload_n G 5 rfl 0 rfl dX6_notUse_4 rfl ?_
  refine st_iconst G 6 rfl (1 : Int32) (by decide) dX6_notUse_5 ?_
  refine st_icmp_eq G 13 9 rfl dX6_notUse_6 rfl (fun c => ?_) (fun c => ?_)
  · have h := h.1 c
    refine st_iconst G 14 rfl (0 : Int32) (by decide) dX6_notUse_13 ?_
    exact R _ _ _ _ dX6_notUse_14 (Nat.le_of_ble_eq_true rfl) rfl ⟨h, rfl⟩
  have h := h.2 c
  refine st_iconst G 10 rfl (1 : Int32) (by decide) dX6_notUse_9 ?_
  refine st_goto G 14 dX6_notUse_10 rfl ?_
  exact R _ _ _ _ dX6_notUse_14 (Nat.le_of_ble_eq_true rfl) rfl ⟨h, rfl⟩
set_option maxRecDepth 100000 in
set_option maxHeartbeats 4000000 in
theorem c_X6_notUse (l : Launch) (D : va_G) (X : XT) (x0 : Int32) (Q : Int32 → Prop) (h : wp_X6_notUse x0 Q) : CTi l D X yX6_notUse cX6_notUse 1 .boolean rm_X6_notUse [.int x0] [] (fun (r : Int32) w => (Q r) ∧ w = []) :=
  ct_z (by decide) (Nat.le_of_ble_eq_true rfl) (fun g hl hD hX G R => by subst hl; subst hD; subst hX; exact b_X6_notUse_e G R h)
set_option maxRecDepth 100000 in
set_option maxHeartbeats 4000000 in
theorem b_X0_levelOf_e {g : GT} (G : GOOD g RX0 cX0_levelOf 1 rm_X0_levelOf) {x0 : Int32} {Q : Int32 → Prop} (R : RETi g cX0_levelOf 0 (fun (r : Int32) w => (Q r) ∧ w = [])) (h : wp_X0_levelOf x0 Q) : ST g 0 0 0 [(0, .int x0)] [] [] := by
  unfold wp_X0_levelOf at h
  refine st_iload_n G 1 rfl 0 rfl dX0_levelOf_0 rfl ?_
  by_cases c0 : x0 = (37 : Int32)
  · have h := h.1 c0
    refine st_lookup G 100 (off := 99) dX0_levelOf_1 (by decide) (by rw [c0]; rfl) rfl ?_
    refine st_iconst G 101 rfl (4 : Int32) (by decide) dX0_levelOf_100 ?_
    exact R _ _ _ _ dX0_levelOf_101 (Nat.le_of_ble_eq_true rfl) ⟨h, rfl⟩
  by_cases c1 : x0 = (38 : Int32)
  · have h := h.2.1 c1
    refine st_lookup G 94 (off := 93) dX0_levelOf_1 (by decide) (by rw [c1]; rfl) rfl ?_
    refine st_iconst G 95 rfl (1 : Int32) (by decide) dX0_levelOf_94 ?_
    exact R _ _ _ _ dX0_levelOf_95 (Nat.le_of_ble_eq_true rfl) ⟨h, rfl⟩
  by_cases c2 : x0 = (42 : Int32)
  · have h := h.2.2.1 c2
    refine st_lookup G 100 (off := 99) dX0_levelOf_1 (by decide) (by rw [c2]; rfl) rfl ?_
    refine st_iconst G 101 rfl (4 : Int32) (by decide) dX0_levelOf_100 ?_
    exact R _ _ _ _ dX0_levelOf_101 (Nat.le_of_ble_eq_true rfl) ⟨h, rfl⟩
  by_cases c3 : x0 = (43 : Int32)
  · have h := h.2.2.2.1 c3
    refine st_lookup G 98 (off := 97) dX0_levelOf_1 (by decide) (by rw [c3]; rfl) rfl ?_
    refine st_iconst G 99 rfl (3 : Int32) (by decide) dX0_levelOf_98 ?_
    exact R _ _ _ _ dX0_levelOf_99 (Nat.le_of_ble_eq_true rfl) ⟨h, rfl⟩
  by_cases c4 : x0 = (45 : Int32)
  · have h := h.2.2.2.2.1 c4
    refine st_lookup G 98 (off := 97) dX0_levelOf_1 (by decide) (by rw [c4]; rfl) rfl ?_
    refine st_iconst G 99 rfl (3 : Int32) (by decide) dX0_levelOf_98 ?_
    exact R _ _ _ _ dX0_levelOf_99 (Nat.le_of_ble_eq_true rfl) ⟨h, rfl⟩
  by_cases c5 : x0 = (47 : Int32)
  · have h := h.2.2.2.2.2.1 c5
    refine st_lookup G 100 (off := 99) dX0_levelOf_1 (by decide) (by rw [c5]; rfl) rfl ?_
    refine st_iconst G 101 rfl (4 : Int32) (by decide) dX0_levelOf_100 ?_
    exact R _ _ _ _ dX0_levelOf_101 (Nat.le_of_ble_eq_true rfl) ⟨h, rfl⟩
  by_cases c6 : x0 = (60 : Int32)
  · have h := h.2.2.2.2.2.2.1 c6
    refine st_lookup G 96 (off := 95) dX0_levelOf_1 (by decide) (by rw [c6]; rfl) rfl ?_
    refine st_iconst G 97 rfl (2 : Int32) (by decide) dX0_levelOf_96 ?_
    exact R _ _ _ _ dX0_levelOf_97 (Nat.le_of_ble_eq_true rfl) ⟨h, rfl⟩
  by_cases c7 : x0 = (61 : Int32)
  · have h := h.2.2.2.2.2.2.2.1 c7
    refine st_lookup G 96 (off := 95) dX0_levelOf_1 (by decide) (by rw [c7]; rfl) rfl ?_
    refine st_iconst G 97 rfl (2 : Int32) (by decide) dX0_levelOf_96 ?_
    exact R _ _ _ _ dX0_levelOf_97 (Nat.le_of_ble_eq_true rfl) ⟨h, rfl⟩
  by_cases c8 : x0 = (62 : Int32)
  · have h := h.2.2.2.2.2.2.2.2.1 c8
    refine st_lookup G 96 (off := 95) dX0_levelOf_1 (by decide) (by rw [c8]; rfl) rfl ?_
    refine st_iconst G 97 rfl (2 : Int32) (by decide) dX0_levelOf_96 ?_
    exact R _ _ _ _ dX0_levelOf_97 (Nat.le_of_ble_eq_true rfl) ⟨h, rfl⟩
  by_cases c9 : x0 = (124 : Int32)
  · have h := h.2.2.2.2.2.2.2.2.2.1 c9
    refine st_lookup G 92 (off := 91) dX0_levelOf_1 (by decide) (by rw [c9]; rfl) rfl ?_
    refine st_iconst G 93 rfl (0 : Int32) (by decide) dX0_levelOf_92 ?_
    exact R _ _ _ _ dX0_levelOf_93 (Nat.le_of_ble_eq_true rfl) ⟨h, rfl⟩
  have h := h.2.2.2.2.2.2.2.2.2.2 c0 c1 c2 c3 c4 c5 c6 c7 c8 c9
  refine st_lookup G 102 (off := 101) dX0_levelOf_1 (by decide) (by have w0 := ne_toInt (n := 37) c0; have w1 := ne_toInt (n := 38) c1; have w2 := ne_toInt (n := 42) c2; have w3 := ne_toInt (n := 43) c3; have w4 := ne_toInt (n := 45) c4; have w5 := ne_toInt (n := 47) c5; have w6 := ne_toInt (n := 60) c6; have w7 := ne_toInt (n := 61) c7; have w8 := ne_toInt (n := 62) c8; have w9 := ne_toInt (n := 124) c9; simp only [Op.lookupswitch.offset]; rw [if_neg (Ne.symm w0), if_neg (Ne.symm w1), if_neg (Ne.symm w2), if_neg (Ne.symm w3), if_neg (Ne.symm w4), if_neg (Ne.symm w5), if_neg (Ne.symm w6), if_neg (Ne.symm w7), if_neg (Ne.symm w8), if_neg (Ne.symm w9)]) rfl ?_
  refine st_iconst G 103 rfl (-1 : Int32) (by decide) dX0_levelOf_102 ?_
  exact R _ _ _ _ dX0_levelOf_103 (Nat.le_of_ble_eq_true rfl) ⟨h, rfl⟩
set_option maxRecDepth 100000 in
set_option maxHeartbeats 4000000 in
theorem c_X0_levelOf (l : Launch) (D : va_G) (X : XT) (x0 : Int32) (Q : Int32 → Prop) (h : wp_X0_levelOf x0 Q) : CTi l D X yX0_levelOf cX0_levelOf 1 .int rm_X0_levelOf [.int x0] [] (fun (r : Int32) w => (Q r) ∧ w = []) :=
  ct_i (by decide) (Nat.le_of_ble_eq_true rfl) (fun g hl hD hX G R => by subst hl; subst hD; subst hX; exact b_X0_levelOf_e G R h)
set_option maxRecDepth 100000 in
set_option maxHeartbeats 4000000 in
theorem b_X3_add_e {g : GT} (G : GOOD g RX3 cX3_add 2 rm_X3_add) {q_t q_t_parts q_t_stack : Nat} {c_size : Int32} {c_parts : Nat → Int32} {x1 : Int32} {Q : (Int32) → (Nat → Int32) → Prop} (R : RETv g cX3_add 0 0 2 (fun w => ∃ (c_size' : Int32) (c_parts' : Nat → Int32), Q c_size' c_parts' ∧ w = [(q_t, .inr (3, [.ref q_t_parts, .ref q_t_stack, .int c_size'])), (q_t_parts, .inl (g.X.cI, 60, .inl c_parts'))])) (h : wp_X3_add x1 c_size c_parts Q) : ST g 0 0 0 [(0, .ref q_t), (1, .int x1)] [] [(q_t, .inr (3, [.ref q_t_parts, .ref q_t_stack, .int c_size])), (q_t_parts, .inl (g.X.cI, 60, .inl c_parts))] := by
  unfold wp_X3_add at h
  refine st_aload_n G 1 rfl 0 rfl dX3_add_0 rfl ?_
  refine st_get G inX3 rfl 2 (by decide) wd_219 4 rfl 0 rfl rfl dX3_add_1 ?_
  refine st_aload_n G 5 rfl 0 rfl dX3_add_4 rfl ?_
  refine st_get G inX3 rfl 0 (by decide) wd_56 8 rfl 0 rfl rfl dX3_add_5 ?_
  refine st_alen G 9 rfl 1 rfl (60 : Int32) rfl dX3_add_8 ?_
  refine st_icmp_ge G 32 12 rfl dX3_add_9 rfl (fun c => ?_) (fun c => ?_)
  · have h := h.1 c
    exact R _ _ _ dX3_add_32 (Nat.le_of_ble_eq_true rfl) ⟨_, _, h, rfl⟩
  have h := h.2 c
  refine st_aload_n G 13 rfl 0 rfl dX3_add_12 rfl ?_
  refine st_get G inX3 rfl 0 (by decide) wd_56 16 rfl 0 rfl rfl dX3_add_13 ?_
  refine st_aload_n G 17 rfl 0 rfl dX3_add_16 rfl ?_
  refine st_get G inX3 rfl 2 (by decide) wd_219 20 rfl 0 rfl rfl dX3_add_17 ?_
  refine st_iload_n G 21 rfl 1 rfl dX3_add_20 rfl ?_
  obtain ⟨hin, h⟩ := h
  obtain ⟨c_parts_21, ec_parts_21⟩ : ∃ y : Nat → Int32, y = upd c_parts c_size.toNatClampNeg x1 := ⟨_, rfl⟩
  have h := h c_parts_21 ec_parts_21
  refine st_iast G [(q_t, .inr (3, [.ref q_t_parts, .ref q_t_stack, .int c_size])), (q_t_parts, .inl (g.X.cI, 60, .inl c_parts_21))] 22 rfl 1 rfl hin (by subst ec_parts_21; rfl) dX3_add_21 ?_
  refine st_aload_n G 23 rfl 0 rfl dX3_add_22 rfl ?_
  refine st_dup G 24 rfl dX3_add_23 rfl ?_
  refine st_get G inX3 rfl 2 (by decide) wd_219 27 rfl 0 rfl rfl dX3_add_24 ?_
  refine st_iconst G 28 rfl (1 : Int32) (by decide) dX3_add_27 ?_
  refine st_iadd G 29 rfl dX3_add_28 ?_
  refine st_topi (fun c_size_29 ec_size_29 => ?_)
  have h := h c_size_29 ec_size_29
  refine st_put G inX3 tyX3 tyX3_ok nmX3 rfl 2 (by decide) wd_219 rfl [(q_t, .inr (3, [.ref q_t_parts, .ref q_t_stack, .int c_size_29])), (q_t_parts, .inl (g.X.cI, 60, .inl c_parts_21))] 32 rfl 0 rfl rfl rfl (Nat.le_of_ble_eq_true rfl) rfl dX3_add_29 ?_
  exact R _ _ _ dX3_add_32 (Nat.le_of_ble_eq_true rfl) ⟨_, _, h, rfl⟩
set_option maxRecDepth 100000 in
set_option maxHeartbeats 4000000 in
theorem c_X3_add (l : Launch) (D : va_G) (X : XT) (q_t q_t_parts q_t_stack : Nat) (c_size : Int32) (c_parts : Nat → Int32) (x1 : Int32) (Q : (Int32) → (Nat → Int32) → Prop) (h : wp_X3_add x1 c_size c_parts Q) : CTv l D X yX3_add cX3_add 2 rm_X3_add 0 0 [.ref q_t, .int x1] [(q_t, .inr (3, [.ref q_t_parts, .ref q_t_stack, .int c_size])), (q_t_parts, .inl (X.cI, 60, .inl c_parts))] (fun w => ∃ (c_size' : Int32) (c_parts' : Nat → Int32), Q c_size' c_parts' ∧ w = [(q_t, .inr (3, [.ref q_t_parts, .ref q_t_stack, .int c_size'])), (q_t_parts, .inl (X.cI, 60, .inl c_parts'))]) :=
  ct_v (by decide) (Nat.le_of_ble_eq_true rfl) (fun g hl hD hX G _ R => by subst hl; subst hD; subst hX; exact b_X3_add_e G R h)
set_option maxRecDepth 100000 in
set_option maxHeartbeats 4000000 in
theorem b_X0_isDigit_e {g : GT} (G : GOOD g RX0 cX0_isDigit 1 rm_X0_isDigit) {x0 : Int32} {Q : Int32 → Prop} (R : RETz g cX0_isDigit 0 (fun (r : Int32) w => (Q r) ∧ w = [])) (h : wp_X0_isDigit x0 Q) : ST g 0 0 0 [(0, .int x0)] [] [] := by
  unfold wp_X0_isDigit at h
  refine st_iload_n G 1 rfl 0 rfl dX0_isDigit_0 rfl ?_
  refine st_bipush G 3 rfl (48 : Int32) (by decide) dX0_isDigit_1 ?_
  refine st_icmp_lt G 16 6 rfl dX0_isDigit_3 rfl (fun c => ?_) (fun c => ?_)
  · have h := h.1 c
    refine st_iconst G 17 rfl (0 : Int32) (by decide) dX0_isDigit_16 ?_
    exact R _ _ _ _ dX0_isDigit_17 (Nat.le_of_ble_eq_true rfl) rfl ⟨h, rfl⟩
  have h := h.2 c
  refine st_iload_n G 7 rfl 0 rfl dX0_isDigit_6 rfl ?_
  refine st_bipush G 9 rfl (57 : Int32) (by decide) dX0_isDigit_7 ?_
  refine st_icmp_gt G 16 12 rfl dX0_isDigit_9 rfl (fun c => ?_) (fun c => ?_)
  · have h := h.1 c
    refine st_iconst G 17 rfl (0 : Int32) (by decide) dX0_isDigit_16 ?_
    exact R _ _ _ _ dX0_isDigit_17 (Nat.le_of_ble_eq_true rfl) rfl ⟨h, rfl⟩
  have h := h.2 c
  refine st_iconst G 13 rfl (1 : Int32) (by decide) dX0_isDigit_12 ?_
  refine st_goto G 17 dX0_isDigit_13 rfl ?_
  exact R _ _ _ _ dX0_isDigit_17 (Nat.le_of_ble_eq_true rfl) rfl ⟨h, rfl⟩
set_option maxRecDepth 100000 in
set_option maxHeartbeats 4000000 in
theorem c_X0_isDigit (l : Launch) (D : va_G) (X : XT) (x0 : Int32) (Q : Int32 → Prop) (h : wp_X0_isDigit x0 Q) : CTi l D X yX0_isDigit cX0_isDigit 1 .boolean rm_X0_isDigit [.int x0] [] (fun (r : Int32) w => (Q r) ∧ w = []) :=
  ct_z (by decide) (Nat.le_of_ble_eq_true rfl) (fun g hl hD hX G R => by subst hl; subst hD; subst hX; exact b_X0_isDigit_e G R h)
set_option maxRecDepth 100000 in
set_option maxHeartbeats 4000000 in
theorem b_X0_readNumber_4 {g : GT} (G : GOOD g RX0 cX0_readNumber 3 rm_X0_readNumber) {q_t q_t_md q_t_md_parts q_t_md_stack q_t_tape : Nat} {c_bytes : Int32} {c_use : Int32} {c_failed : Int32} {c_tape : Nat → Int32} {Q : (Int32) → (Int32) → (Nat → Int32) → Prop} (R : RETv g cX0_readNumber 0 0 4 (fun w => ∃ (c_place' : Int32) (md_size' : Int32) (md_parts' : Nat → Int32), Q c_place' md_size' md_parts' ∧ w = [(q_t, .inr (0, [.ref q_t_md, .ref q_t_tape, .int c_bytes, .int c_place', .int c_use, .int c_failed])), (q_t_md, .inr (3, [.ref q_t_md_parts, .ref q_t_md_stack, .int md_size'])), (q_t_md_parts, .inl (g.X.cI, 60, .inl md_parts')), (q_t_tape, .inl (g.X.cI, 60, .inl c_tape))])) : ∀ (n : Nat) (x1 : Int32) (x2 : Int32) (c_place : Int32) (md_size : Int32) (md_parts : Nat → Int32), wp_X0_readNumber_b4 Q c_bytes c_tape n x1 x2 c_place md_size md_parts → ST g 0 0 4 [(0, .ref q_t), (1, .int x1), (2, .int x2)] [] [(q_t, .inr (0, [.ref q_t_md, .ref q_t_tape, .int c_bytes, .int c_place, .int c_use, .int c_failed])), (q_t_md, .inr (3, [.ref q_t_md_parts, .ref q_t_md_stack, .int md_size])), (q_t_md_parts, .inl (g.X.cI, 60, .inl md_parts)), (q_t_tape, .inl (g.X.cI, 60, .inl c_tape))] := by
  intro n
  induction n with
  | zero => intro x1 x2 c_place md_size md_parts h; exact False.elim h
  | succ n hK4 =>
    intro x1 x2 c_place md_size md_parts h
    unfold wp_X0_readNumber_b4 at h
    refine st_iload_n G 5 rfl 2 rfl dX0_readNumber_4 rfl ?_
    refine st_iconst G 6 rfl (4 : Int32) (by decide) dX0_readNumber_5 ?_
    refine st_icmp_ge G 69 9 rfl dX0_readNumber_6 rfl (fun c => ?_) (fun c => ?_)
    · have h := h.1 c
      refine st_aload_n G 70 rfl 0 rfl dX0_readNumber_69 rfl ?_
      refine st_get G inX0 rfl 0 (by decide) wd_66 73 rfl 0 rfl rfl dX0_readNumber_70 ?_
      refine st_iload_n G 74 rfl 1 rfl dX0_readNumber_73 rfl ?_
      refine st_cVv G lk_X0_61 (c_X3_add g.l g.D g.X q_t_md q_t_md_parts q_t_md_stack md_size md_parts x1 _ h) ⟨rfl, rfl, ⟨Nat.le_of_ble_eq_true rfl, Nat.le_of_ble_eq_true rfl⟩, Nat.zero_le _, Nat.zero_le _⟩ 77 rfl [1, 2] rfl (by decide) 0 3 rfl rfl rfl (Nat.le_of_ble_eq_true rfl) rfl dX0_readNumber_74 (fun w hq => ?_)
      obtain ⟨md_size_74, md_parts_74, h, rfl⟩ := hq
      refine st_wp (ws' := [(q_t, .inr (0, [.ref q_t_md, .ref q_t_tape, .int c_bytes, .int c_place, .int c_use, .int c_failed])), (q_t_md, .inr (3, [.ref q_t_md_parts, .ref q_t_md_stack, .int md_size_74])), (q_t_md_parts, .inl (g.X.cI, 60, .inl md_parts_74)), (q_t_tape, .inl (g.X.cI, 60, .inl c_tape))]) 4 [0, 3] (by decide) rfl rfl (by rfl) [(q_t, .inr (0, [.ref q_t_md, .ref q_t_tape, .int c_bytes, .int c_place, .int c_use, .int c_failed])), (q_t_tape, .inl (g.X.cI, 60, .inl c_tape))] (by rfl) rfl ?_
      exact R _ _ _ dX0_readNumber_77 (Nat.le_of_ble_eq_true rfl) ⟨_, _, _, h, rfl⟩
    have h := h.2 c
    refine st_aload_n G 10 rfl 0 rfl dX0_readNumber_9 rfl ?_
    refine st_get G inX0 rfl 3 (by decide) wd_447 13 rfl 0 rfl rfl dX0_readNumber_10 ?_
    refine st_aload_n G 14 rfl 0 rfl dX0_readNumber_13 rfl ?_
    refine st_get G inX0 rfl 2 (by decide) wd_445 17 rfl 0 rfl rfl dX0_readNumber_14 ?_
    refine st_icmp_ge G 69 20 rfl dX0_readNumber_17 rfl (fun c => ?_) (fun c => ?_)
    · have h := h.1 c
      refine st_aload_n G 70 rfl 0 rfl dX0_readNumber_69 rfl ?_
      refine st_get G inX0 rfl 0 (by decide) wd_66 73 rfl 0 rfl rfl dX0_readNumber_70 ?_
      refine st_iload_n G 74 rfl 1 rfl dX0_readNumber_73 rfl ?_
      refine st_cVv G lk_X0_61 (c_X3_add g.l g.D g.X q_t_md q_t_md_parts q_t_md_stack md_size md_parts x1 _ h) ⟨rfl, rfl, ⟨Nat.le_of_ble_eq_true rfl, Nat.le_of_ble_eq_true rfl⟩, Nat.zero_le _, Nat.zero_le _⟩ 77 rfl [1, 2] rfl (by decide) 0 3 rfl rfl rfl (Nat.le_of_ble_eq_true rfl) rfl dX0_readNumber_74 (fun w hq => ?_)
      obtain ⟨md_size_74, md_parts_74, h, rfl⟩ := hq
      refine st_wp (ws' := [(q_t, .inr (0, [.ref q_t_md, .ref q_t_tape, .int c_bytes, .int c_place, .int c_use, .int c_failed])), (q_t_md, .inr (3, [.ref q_t_md_parts, .ref q_t_md_stack, .int md_size_74])), (q_t_md_parts, .inl (g.X.cI, 60, .inl md_parts_74)), (q_t_tape, .inl (g.X.cI, 60, .inl c_tape))]) 4 [0, 3] (by decide) rfl rfl (by rfl) [(q_t, .inr (0, [.ref q_t_md, .ref q_t_tape, .int c_bytes, .int c_place, .int c_use, .int c_failed])), (q_t_tape, .inl (g.X.cI, 60, .inl c_tape))] (by rfl) rfl ?_
      exact R _ _ _ dX0_readNumber_77 (Nat.le_of_ble_eq_true rfl) ⟨_, _, _, h, rfl⟩
    have h := h.2 c
    refine st_aload_n G 21 rfl 0 rfl dX0_readNumber_20 rfl ?_
    refine st_get G inX0 rfl 1 (by decide) wd_67 24 rfl 0 rfl rfl dX0_readNumber_21 ?_
    refine st_aload_n G 25 rfl 0 rfl dX0_readNumber_24 rfl ?_
    refine st_get G inX0 rfl 3 (by decide) wd_447 28 rfl 0 rfl rfl dX0_readNumber_25 ?_
    obtain ⟨hin, h⟩ := h
    refine st_iald G 29 rfl 3 rfl hin dX0_readNumber_28 ?_
    refine st_cSio G lk_X0_67 (c_X0_isDigit g.l g.D g.X (c_tape c_place.toNatClampNeg) _ h) ⟨rfl, rfl, ⟨Nat.le_of_ble_eq_true rfl, Nat.le_of_ble_eq_true rfl⟩, Nat.zero_le _, Nat.zero_le _⟩ 32 rfl [] rfl (by decide) rfl (Nat.le_of_ble_eq_true rfl) rfl dX0_readNumber_29 (fun r_29 h => ?_)
    refine st_if_eq G 69 35 rfl dX0_readNumber_32 rfl (fun c => ?_) (fun c => ?_)
    · have h := h.1 c
      refine st_aload_n G 70 rfl 0 rfl dX0_readNumber_69 rfl ?_
      refine st_get G inX0 rfl 0 (by decide) wd_66 73 rfl 0 rfl rfl dX0_readNumber_70 ?_
      refine st_iload_n G 74 rfl 1 rfl dX0_readNumber_73 rfl ?_
      refine st_cVv G lk_X0_61 (c_X3_add g.l g.D g.X q_t_md q_t_md_parts q_t_md_stack md_size md_parts x1 _ h) ⟨rfl, rfl, ⟨Nat.le_of_ble_eq_true rfl, Nat.le_of_ble_eq_true rfl⟩, Nat.zero_le _, Nat.zero_le _⟩ 77 rfl [1, 2] rfl (by decide) 0 3 rfl rfl rfl (Nat.le_of_ble_eq_true rfl) rfl dX0_readNumber_74 (fun w hq => ?_)
      obtain ⟨md_size_74, md_parts_74, h, rfl⟩ := hq
      refine st_wp (ws' := [(q_t, .inr (0, [.ref q_t_md, .ref q_t_tape, .int c_bytes, .int c_place, .int c_use, .int c_failed])), (q_t_md, .inr (3, [.ref q_t_md_parts, .ref q_t_md_stack, .int md_size_74])), (q_t_md_parts, .inl (g.X.cI, 60, .inl md_parts_74)), (q_t_tape, .inl (g.X.cI, 60, .inl c_tape))]) 4 [0, 3] (by decide) rfl rfl (by rfl) [(q_t, .inr (0, [.ref q_t_md, .ref q_t_tape, .int c_bytes, .int c_place, .int c_use, .int c_failed])), (q_t_tape, .inl (g.X.cI, 60, .inl c_tape))] (by rfl) rfl ?_
      exact R _ _ _ dX0_readNumber_77 (Nat.le_of_ble_eq_true rfl) ⟨_, _, _, h, rfl⟩
    have h := h.2 c
    refine st_iload_n G 36 rfl 1 rfl dX0_readNumber_35 rfl ?_
    refine st_bipush G 38 rfl (10 : Int32) (by decide) dX0_readNumber_36 ?_
    refine st_imul G 39 rfl dX0_readNumber_38 ?_
    refine st_aload_n G 40 rfl 0 rfl dX0_readNumber_39 rfl ?_
    refine st_get G inX0 rfl 1 (by decide) wd_67 43 rfl 0 rfl rfl dX0_readNumber_40 ?_
    refine st_aload_n G 44 rfl 0 rfl dX0_readNumber_43 rfl ?_
    refine st_get G inX0 rfl 3 (by decide) wd_447 47 rfl 0 rfl rfl dX0_readNumber_44 ?_
    obtain ⟨hin, h⟩ := h
    refine st_iald G 48 rfl 3 rfl hin dX0_readNumber_47 ?_
    refine st_iadd G 49 rfl dX0_readNumber_48 ?_
    refine st_bipush G 51 rfl (48 : Int32) (by decide) dX0_readNumber_49 ?_
    refine st_isub G 52 rfl dX0_readNumber_51 ?_
    refine st_topi (fun x1_52 ex1_52 => ?_)
    have h := h x1_52 ex1_52
    refine st_istore_n G 53 rfl [(1, .int x1_52), (0, .ref q_t), (2, .int x2)] dX0_readNumber_52 rfl (by decide) rfl ?_
    refine st_aload_n G 54 rfl 1 rfl dX0_readNumber_53 rfl ?_
    refine st_dup G 55 rfl dX0_readNumber_54 rfl ?_
    refine st_get G inX0 rfl 3 (by decide) wd_447 58 rfl 0 rfl rfl dX0_readNumber_55 ?_
    refine st_iconst G 59 rfl (1 : Int32) (by decide) dX0_readNumber_58 ?_
    refine st_iadd G 60 rfl dX0_readNumber_59 ?_
    refine st_topi (fun c_place_60 ec_place_60 => ?_)
    have h := h c_place_60 ec_place_60
    refine st_put G inX0 tyX0 tyX0_ok nmX0 rfl 3 (by decide) wd_447 rfl [(q_t, .inr (0, [.ref q_t_md, .ref q_t_tape, .int c_bytes, .int c_place_60, .int c_use, .int c_failed])), (q_t_md, .inr (3, [.ref q_t_md_parts, .ref q_t_md_stack, .int md_size])), (q_t_md_parts, .inl (g.X.cI, 60, .inl md_parts)), (q_t_tape, .inl (g.X.cI, 60, .inl c_tape))] 63 rfl 0 rfl rfl rfl (Nat.le_of_ble_eq_true rfl) rfl dX0_readNumber_60 ?_
    obtain ⟨x2_63, ex2_63⟩ : ∃ y : Int32, y = (x2 + (1 : Int32)) := ⟨_, rfl⟩
    have h := h x2_63 ex2_63
    refine st_iinc G 66 rfl [(2, .int x2_63), (1, .int x1_52), (0, .ref q_t)] x2_63 2 rfl (by rw [ex2_63]; rfl) dX0_readNumber_63 (by decide) rfl ?_
    refine st_goto G 4 dX0_readNumber_66 rfl ?_
    refine st_L (L' := [(0, .ref q_t), (1, .int x1_52), (2, .int x2_63)]) [2, 1, 0] rfl ?_
    exact hK4 _ _ _ _ _ h
set_option maxRecDepth 100000 in
set_option maxHeartbeats 4000000 in
theorem b_X0_readNumber_e {g : GT} (G : GOOD g RX0 cX0_readNumber 3 rm_X0_readNumber) {q_t q_t_md q_t_md_parts q_t_md_stack q_t_tape : Nat} {c_bytes : Int32} {c_place : Int32} {c_use : Int32} {c_failed : Int32} {md_size : Int32} {md_parts : Nat → Int32} {c_tape : Nat → Int32} {Q : (Int32) → (Int32) → (Nat → Int32) → Prop} (R : RETv g cX0_readNumber 0 0 4 (fun w => ∃ (c_place' : Int32) (md_size' : Int32) (md_parts' : Nat → Int32), Q c_place' md_size' md_parts' ∧ w = [(q_t, .inr (0, [.ref q_t_md, .ref q_t_tape, .int c_bytes, .int c_place', .int c_use, .int c_failed])), (q_t_md, .inr (3, [.ref q_t_md_parts, .ref q_t_md_stack, .int md_size'])), (q_t_md_parts, .inl (g.X.cI, 60, .inl md_parts')), (q_t_tape, .inl (g.X.cI, 60, .inl c_tape))])) (h : wp_X0_readNumber c_bytes c_place md_size md_parts c_tape Q) : ST g 0 0 0 [(0, .ref q_t)] [] [(q_t, .inr (0, [.ref q_t_md, .ref q_t_tape, .int c_bytes, .int c_place, .int c_use, .int c_failed])), (q_t_md, .inr (3, [.ref q_t_md_parts, .ref q_t_md_stack, .int md_size])), (q_t_md_parts, .inl (g.X.cI, 60, .inl md_parts)), (q_t_tape, .inl (g.X.cI, 60, .inl c_tape))] := by
  unfold wp_X0_readNumber at h
  refine st_iconst G 1 rfl (0 : Int32) (by decide) dX0_readNumber_0 ?_
  refine st_istore_n G 2 rfl [(1, .int (0 : Int32)), (0, .ref q_t)] dX0_readNumber_1 rfl (by decide) rfl ?_
  refine st_iconst G 3 rfl (0 : Int32) (by decide) dX0_readNumber_2 ?_
  refine st_istore_n G 4 rfl [(2, .int (0 : Int32)), (1, .int (0 : Int32)), (0, .ref q_t)] dX0_readNumber_3 rfl (by decide) rfl ?_
  refine st_L (L' := [(0, .ref q_t), (1, .int (0 : Int32)), (2, .int (0 : Int32))]) [2, 1, 0] rfl ?_
  obtain ⟨n, h⟩ := h
  exact b_X0_readNumber_4 G R n _ _ _ _ _ h
set_option maxRecDepth 100000 in
set_option maxHeartbeats 4000000 in
theorem c_X0_readNumber (l : Launch) (D : va_G) (X : XT) (q_t q_t_md q_t_md_parts q_t_md_stack q_t_tape : Nat) (c_bytes : Int32) (c_place : Int32) (c_use : Int32) (c_failed : Int32) (md_size : Int32) (md_parts : Nat → Int32) (c_tape : Nat → Int32) (Q : (Int32) → (Int32) → (Nat → Int32) → Prop) (h : wp_X0_readNumber c_bytes c_place md_size md_parts c_tape Q) : CTv l D X yX0_readNumber cX0_readNumber 3 rm_X0_readNumber 0 0 [.ref q_t] [(q_t, .inr (0, [.ref q_t_md, .ref q_t_tape, .int c_bytes, .int c_place, .int c_use, .int c_failed])), (q_t_md, .inr (3, [.ref q_t_md_parts, .ref q_t_md_stack, .int md_size])), (q_t_md_parts, .inl (X.cI, 60, .inl md_parts)), (q_t_tape, .inl (X.cI, 60, .inl c_tape))] (fun w => ∃ (c_place' : Int32) (md_size' : Int32) (md_parts' : Nat → Int32), Q c_place' md_size' md_parts' ∧ w = [(q_t, .inr (0, [.ref q_t_md, .ref q_t_tape, .int c_bytes, .int c_place', .int c_use, .int c_failed])), (q_t_md, .inr (3, [.ref q_t_md_parts, .ref q_t_md_stack, .int md_size'])), (q_t_md_parts, .inl (X.cI, 60, .inl md_parts')), (q_t_tape, .inl (X.cI, 60, .inl c_tape))]) :=
  ct_v (by decide) (Nat.le_of_ble_eq_true rfl) (fun g hl hD hX G _ R => by subst hl; subst hD; subst hX; exact b_X0_readNumber_e G R h)
set_option maxRecDepth 100000 in
set_option maxHeartbeats 4000000 in
theorem b_X0_readClosing_e {g : GT} (G : GOOD g RX0 cX0_readClosing 1 rm_X0_readClosing) {q_t q_t_md q_t_tape : Nat} {c_bytes : Int32} {c_place : Int32} {c_use : Int32} {c_failed : Int32} {c_tape : Nat → Int32} {Q : (Int32) → (Int32) → Prop} (R : RETv g cX0_readClosing 0 0 2 (fun w => ∃ (c_place' : Int32) (c_failed' : Int32), Q c_place' c_failed' ∧ w = [(q_t, .inr (0, [.ref q_t_md, .ref q_t_tape, .int c_bytes, .int c_place', .int c_use, .int c_failed'])), (q_t_tape, .inl (g.X.cI, 60, .inl c_tape))])) (h : wp_X0_readClosing c_bytes c_place c_failed c_tape Q) : ST g 0 0 0 [(0, .ref q_t)] [] [(q_t, .inr (0, [.ref q_t_md, .ref q_t_tape, .int c_bytes, .int c_place, .int c_use, .int c_failed])), (q_t_tape, .inl (g.X.cI, 60, .inl c_tape))] := by
  unfold wp_X0_readClosing at h
  refine st_aload_n G 1 rfl 0 rfl dX0_readClosing_0 rfl ?_
  refine st_get G inX0 rfl 5 (by decide) wd_448 4 rfl 0 rfl rfl dX0_readClosing_1 ?_
  refine st_if_ne G 32 7 rfl dX0_readClosing_4 rfl (fun c => ?_) (fun c => ?_)
  · have h := h.1 c
    refine st_aload_n G 33 rfl 0 rfl dX0_readClosing_32 rfl ?_
    refine st_iconst G 34 rfl (1 : Int32) (by decide) dX0_readClosing_33 ?_
    refine st_put G inX0 tyX0 tyX0_ok nmX0 rfl 5 (by decide) wd_448 rfl [(q_t, .inr (0, [.ref q_t_md, .ref q_t_tape, .int c_bytes, .int c_place, .int c_use, .int (1 : Int32)])), (q_t_tape, .inl (g.X.cI, 60, .inl c_tape))] 37 rfl 0 rfl rfl rfl (Nat.le_of_ble_eq_true rfl) rfl dX0_readClosing_34 ?_
    exact R _ _ _ dX0_readClosing_37 (Nat.le_of_ble_eq_true rfl) ⟨_, _, h, rfl⟩
  have h := h.2 c
  refine st_aload_n G 8 rfl 0 rfl dX0_readClosing_7 rfl ?_
  refine st_get G inX0 rfl 3 (by decide) wd_447 11 rfl 0 rfl rfl dX0_readClosing_8 ?_
  refine st_aload_n G 12 rfl 0 rfl dX0_readClosing_11 rfl ?_
  refine st_get G inX0 rfl 2 (by decide) wd_445 15 rfl 0 rfl rfl dX0_readClosing_12 ?_
  refine st_icmp_ge G 32 18 rfl dX0_readClosing_15 rfl (fun c => ?_) (fun c => ?_)
  · have h := h.1 c
    refine st_aload_n G 33 rfl 0 rfl dX0_readClosing_32 rfl ?_
    refine st_iconst G 34 rfl (1 : Int32) (by decide) dX0_readClosing_33 ?_
    refine st_put G inX0 tyX0 tyX0_ok nmX0 rfl 5 (by decide) wd_448 rfl [(q_t, .inr (0, [.ref q_t_md, .ref q_t_tape, .int c_bytes, .int c_place, .int c_use, .int (1 : Int32)])), (q_t_tape, .inl (g.X.cI, 60, .inl c_tape))] 37 rfl 0 rfl rfl rfl (Nat.le_of_ble_eq_true rfl) rfl dX0_readClosing_34 ?_
    exact R _ _ _ dX0_readClosing_37 (Nat.le_of_ble_eq_true rfl) ⟨_, _, h, rfl⟩
  have h := h.2 c
  refine st_aload_n G 19 rfl 0 rfl dX0_readClosing_18 rfl ?_
  refine st_get G inX0 rfl 1 (by decide) wd_67 22 rfl 0 rfl rfl dX0_readClosing_19 ?_
  refine st_aload_n G 23 rfl 0 rfl dX0_readClosing_22 rfl ?_
  refine st_get G inX0 rfl 3 (by decide) wd_447 26 rfl 0 rfl rfl dX0_readClosing_23 ?_
  obtain ⟨hin, h⟩ := h
  refine st_iald G 27 rfl 1 rfl hin dX0_readClosing_26 ?_
  refine st_bipush G 29 rfl (41 : Int32) (by decide) dX0_readClosing_27 ?_
  refine st_icmp_eq G 38 32 rfl dX0_readClosing_29 rfl (fun c => ?_) (fun c => ?_)
  · have h := h.1 c
    refine st_aload_n G 39 rfl 0 rfl dX0_readClosing_38 rfl ?_
    refine st_dup G 40 rfl dX0_readClosing_39 rfl ?_
    refine st_get G inX0 rfl 3 (by decide) wd_447 43 rfl 0 rfl rfl dX0_readClosing_40 ?_
    refine st_iconst G 44 rfl (1 : Int32) (by decide) dX0_readClosing_43 ?_
    refine st_iadd G 45 rfl dX0_readClosing_44 ?_
    refine st_topi (fun c_place_45 ec_place_45 => ?_)
    have h := h c_place_45 ec_place_45
    refine st_put G inX0 tyX0 tyX0_ok nmX0 rfl 3 (by decide) wd_447 rfl [(q_t, .inr (0, [.ref q_t_md, .ref q_t_tape, .int c_bytes, .int c_place_45, .int c_use, .int c_failed])), (q_t_tape, .inl (g.X.cI, 60, .inl c_tape))] 48 rfl 0 rfl rfl rfl (Nat.le_of_ble_eq_true rfl) rfl dX0_readClosing_45 ?_
    exact R _ _ _ dX0_readClosing_48 (Nat.le_of_ble_eq_true rfl) ⟨_, _, h, rfl⟩
  have h := h.2 c
  refine st_aload_n G 33 rfl 0 rfl dX0_readClosing_32 rfl ?_
  refine st_iconst G 34 rfl (1 : Int32) (by decide) dX0_readClosing_33 ?_
  refine st_put G inX0 tyX0 tyX0_ok nmX0 rfl 5 (by decide) wd_448 rfl [(q_t, .inr (0, [.ref q_t_md, .ref q_t_tape, .int c_bytes, .int c_place, .int c_use, .int (1 : Int32)])), (q_t_tape, .inl (g.X.cI, 60, .inl c_tape))] 37 rfl 0 rfl rfl rfl (Nat.le_of_ble_eq_true rfl) rfl dX0_readClosing_34 ?_
  exact R _ _ _ dX0_readClosing_37 (Nat.le_of_ble_eq_true rfl) ⟨_, _, h, rfl⟩
set_option maxRecDepth 100000 in
set_option maxHeartbeats 4000000 in
theorem c_X0_readClosing (l : Launch) (D : va_G) (X : XT) (q_t q_t_md q_t_tape : Nat) (c_bytes : Int32) (c_place : Int32) (c_use : Int32) (c_failed : Int32) (c_tape : Nat → Int32) (Q : (Int32) → (Int32) → Prop) (h : wp_X0_readClosing c_bytes c_place c_failed c_tape Q) : CTv l D X yX0_readClosing cX0_readClosing 1 rm_X0_readClosing 0 0 [.ref q_t] [(q_t, .inr (0, [.ref q_t_md, .ref q_t_tape, .int c_bytes, .int c_place, .int c_use, .int c_failed])), (q_t_tape, .inl (X.cI, 60, .inl c_tape))] (fun w => ∃ (c_place' : Int32) (c_failed' : Int32), Q c_place' c_failed' ∧ w = [(q_t, .inr (0, [.ref q_t_md, .ref q_t_tape, .int c_bytes, .int c_place', .int c_use, .int c_failed'])), (q_t_tape, .inl (X.cI, 60, .inl c_tape))]) :=
  ct_v (by decide) (Nat.le_of_ble_eq_true rfl) (fun g hl hD hX G _ R => by subst hl; subst hD; subst hX; exact b_X0_readClosing_e G R h)
set_option maxRecDepth 100000 in
set_option maxHeartbeats 4000000 in
theorem b_X0_nameOf_2 {g : GT} (G : GOOD g RX0 cX0_nameOf 3 rm_X0_nameOf) {q_t q_t_md q_t_tape : Nat} {c_bytes : Int32} {c_place : Int32} {c_use : Int32} {c_failed : Int32} {Q : Int32 → Prop} (R : RETi g cX0_nameOf 1 (fun (r : Int32) w => (Q r) ∧ w = [(q_t, .inr (0, [.ref q_t_md, .ref q_t_tape, .int c_bytes, .int c_place, .int c_use, .int c_failed]))])) : ∀ (n : Nat) (x1 : Int32) (x2 : Int32), wp_X0_nameOf_b2 Q c_use n x1 x2 → ST g 0 0 2 [(0, .ref q_t), (1, .int x1), (2, .int x2)] [] [(q_t, .inr (0, [.ref q_t_md, .ref q_t_tape, .int c_bytes, .int c_place, .int c_use, .int c_failed]))] := by
  intro n
  induction n with
  | zero => intro x1 x2 h; exact False.elim h
  | succ n hK2 =>
    intro x1 x2 h
    unfold wp_X0_nameOf_b2 at h
    refine st_iload_n G 3 rfl 2 rfl dX0_nameOf_2 rfl ?_
    refine st_iconst G 4 rfl (3 : Int32) (by decide) dX0_nameOf_3 ?_
    refine st_icmp_ge G 33 7 rfl dX0_nameOf_4 rfl (fun c => ?_) (fun c => ?_)
    · have h := h.1 c
      refine st_iconst G 34 rfl (0 : Int32) (by decide) dX0_nameOf_33 ?_
      exact R _ _ _ _ dX0_nameOf_34 (Nat.le_of_ble_eq_true rfl) ⟨h, rfl⟩
    have h := h.2 c
    refine st_getNaN G (by decide) 10 rfl dX0_nameOf_7 ?_
    refine st_aload_n G 11 rfl 0 rfl dX0_nameOf_10 rfl ?_
    refine st_get G inX0 rfl 4 (by decide) wd_446 14 rfl 0 rfl rfl dX0_nameOf_11 ?_
    refine st_iconst G 15 rfl (3 : Int32) (by decide) dX0_nameOf_14 ?_
    refine st_imul G 16 rfl dX0_nameOf_15 ?_
    refine st_iload_n G 17 rfl 2 rfl dX0_nameOf_16 rfl ?_
    refine st_iadd G 18 rfl dX0_nameOf_17 ?_
    obtain ⟨hin, h⟩ := h
    refine st_aldN G 19 rfl hin dX0_nameOf_18 ?_
    refine st_iload_n G 20 rfl 1 rfl dX0_nameOf_19 rfl ?_
    refine st_icmp_ne G 27 23 rfl dX0_nameOf_20 rfl (fun c => ?_) (fun c => ?_)
    · have h := h.1 c
      obtain ⟨x2_27, ex2_27⟩ : ∃ y : Int32, y = (x2 + (1 : Int32)) := ⟨_, rfl⟩
      have h := h x2_27 ex2_27
      refine st_iinc G 30 rfl [(2, .int x2_27), (0, .ref q_t), (1, .int x1)] x2_27 2 rfl (by rw [ex2_27]; rfl) dX0_nameOf_27 (by decide) rfl ?_
      refine st_goto G 2 dX0_nameOf_30 rfl ?_
      refine st_L (L' := [(0, .ref q_t), (1, .int x1), (2, .int x2_27)]) [1, 2, 0] rfl ?_
      exact hK2 _ _ h
    have h := h.2 c
    refine st_iload_n G 24 rfl 2 rfl dX0_nameOf_23 rfl ?_
    refine st_iconst G 25 rfl (1 : Int32) (by decide) dX0_nameOf_24 ?_
    refine st_iadd G 26 rfl dX0_nameOf_25 ?_
    exact R _ _ _ _ dX0_nameOf_26 (Nat.le_of_ble_eq_true rfl) ⟨h, rfl⟩
set_option maxRecDepth 100000 in
set_option maxHeartbeats 4000000 in
theorem b_X0_nameOf_e {g : GT} (G : GOOD g RX0 cX0_nameOf 3 rm_X0_nameOf) {q_t q_t_md q_t_tape : Nat} {c_bytes : Int32} {c_place : Int32} {c_use : Int32} {c_failed : Int32} {x1 : Int32} {Q : Int32 → Prop} (R : RETi g cX0_nameOf 1 (fun (r : Int32) w => (Q r) ∧ w = [(q_t, .inr (0, [.ref q_t_md, .ref q_t_tape, .int c_bytes, .int c_place, .int c_use, .int c_failed]))])) (h : wp_X0_nameOf x1 c_use Q) : ST g 0 0 0 [(0, .ref q_t), (1, .int x1)] [] [(q_t, .inr (0, [.ref q_t_md, .ref q_t_tape, .int c_bytes, .int c_place, .int c_use, .int c_failed]))] := by
  unfold wp_X0_nameOf at h
  refine st_iconst G 1 rfl (0 : Int32) (by decide) dX0_nameOf_0 ?_
  refine st_istore_n G 2 rfl [(2, .int (0 : Int32)), (0, .ref q_t), (1, .int x1)] dX0_nameOf_1 rfl (by decide) rfl ?_
  refine st_L (L' := [(0, .ref q_t), (1, .int x1), (2, .int (0 : Int32))]) [1, 2, 0] rfl ?_
  obtain ⟨n, h⟩ := h
  exact b_X0_nameOf_2 G R n _ _ h
set_option maxRecDepth 100000 in
set_option maxHeartbeats 4000000 in
theorem c_X0_nameOf (l : Launch) (D : va_G) (X : XT) (q_t q_t_md q_t_tape : Nat) (c_bytes : Int32) (c_place : Int32) (c_use : Int32) (c_failed : Int32) (x1 : Int32) (Q : Int32 → Prop) (h : wp_X0_nameOf x1 c_use Q) : CTi l D X yX0_nameOf cX0_nameOf 3 .int rm_X0_nameOf [.ref q_t, .int x1] [(q_t, .inr (0, [.ref q_t_md, .ref q_t_tape, .int c_bytes, .int c_place, .int c_use, .int c_failed]))] (fun (r : Int32) w => (Q r) ∧ w = [(q_t, .inr (0, [.ref q_t_md, .ref q_t_tape, .int c_bytes, .int c_place, .int c_use, .int c_failed]))]) :=
  ct_i (by decide) (Nat.le_of_ble_eq_true rfl) (fun g hl hD hX G R => by subst hl; subst hD; subst hX; exact b_X0_nameOf_e G R h)
set_option maxRecDepth 100000 in
set_option maxHeartbeats 4000000 in
theorem b_X0_readChain_19 {g : GT} {d : Nat} {F_X0_readChain : Int32 → Int32 → (Int32) → (Int32) → (Int32) → (Int32) → (Int32) → (Nat → Int32) → (Nat → Int32) → ((Int32) → (Int32) → (Int32) → (Nat → Int32) → Prop) → Prop} {F_X0_readUnit : Int32 → (Int32) → (Int32) → (Int32) → (Int32) → (Int32) → (Nat → Int32) → (Nat → Int32) → ((Int32) → (Int32) → (Int32) → (Nat → Int32) → Prop) → Prop} (G : GOOD g RX0 cX0_readChain 4 (rm_X0_readChain (d + 1))) {q_t q_t_md q_t_md_parts q_t_md_stack q_t_tape : Nat} {c_bytes : Int32} {c_use : Int32} {c_tape : Nat → Int32} {Q : (Int32) → (Int32) → (Int32) → (Nat → Int32) → Prop} (R : RETv g cX0_readChain 0 0 4 (fun w => ∃ (c_place' : Int32) (c_failed' : Int32) (md_size' : Int32) (md_parts' : Nat → Int32), Q c_place' c_failed' md_size' md_parts' ∧ w = [(q_t, .inr (0, [.ref q_t_md, .ref q_t_tape, .int c_bytes, .int c_place', .int c_use, .int c_failed'])), (q_t_md, .inr (3, [.ref q_t_md_parts, .ref q_t_md_stack, .int md_size'])), (q_t_md_parts, .inl (g.X.cI, 60, .inl md_parts')), (q_t_tape, .inl (g.X.cI, 60, .inl c_tape))])) (hF_X0_readChain : ∀ (q_t q_t_md q_t_md_parts q_t_md_stack q_t_tape : Nat) (c_bytes : Int32) (c_place : Int32) (c_use : Int32) (c_failed : Int32) (md_size : Int32) (md_parts : Nat → Int32) (c_tape : Nat → Int32) (x1 : Int32) (x2 : Int32) (Q : (Int32) → (Int32) → (Int32) → (Nat → Int32) → Prop), F_X0_readChain x1 x2 c_bytes c_place c_use c_failed md_size md_parts c_tape Q → CTv g.l g.D g.X yX0_readChain cX0_readChain 4 (rm_X0_readChain d) 0 0 [.ref q_t, .int x1, .int x2] [(q_t, .inr (0, [.ref q_t_md, .ref q_t_tape, .int c_bytes, .int c_place, .int c_use, .int c_failed])), (q_t_md, .inr (3, [.ref q_t_md_parts, .ref q_t_md_stack, .int md_size])), (q_t_md_parts, .inl (g.X.cI, 60, .inl md_parts)), (q_t_tape, .inl (g.X.cI, 60, .inl c_tape))] (fun w => ∃ (c_place' : Int32) (c_failed' : Int32) (md_size' : Int32) (md_parts' : Nat → Int32), Q c_place' c_failed' md_size' md_parts' ∧ w = [(q_t, .inr (0, [.ref q_t_md, .ref q_t_tape, .int c_bytes, .int c_place', .int c_use, .int c_failed'])), (q_t_md, .inr (3, [.ref q_t_md_parts, .ref q_t_md_stack, .int md_size'])), (q_t_md_parts, .inl (g.X.cI, 60, .inl md_parts')), (q_t_tape, .inl (g.X.cI, 60, .inl c_tape))])) (hF_X0_readUnit : ∀ (q_t q_t_md q_t_md_parts q_t_md_stack q_t_tape : Nat) (c_bytes : Int32) (c_place : Int32) (c_use : Int32) (c_failed : Int32) (md_size : Int32) (md_parts : Nat → Int32) (c_tape : Nat → Int32) (x1 : Int32) (Q : (Int32) → (Int32) → (Int32) → (Nat → Int32) → Prop), F_X0_readUnit x1 c_bytes c_place c_use c_failed md_size md_parts c_tape Q → CTv g.l g.D g.X yX0_readUnit cX0_readUnit 4 (rm_X0_readChain d) 0 0 [.ref q_t, .int x1] [(q_t, .inr (0, [.ref q_t_md, .ref q_t_tape, .int c_bytes, .int c_place, .int c_use, .int c_failed])), (q_t_md, .inr (3, [.ref q_t_md_parts, .ref q_t_md_stack, .int md_size])), (q_t_md_parts, .inl (g.X.cI, 60, .inl md_parts)), (q_t_tape, .inl (g.X.cI, 60, .inl c_tape))] (fun w => ∃ (c_place' : Int32) (c_failed' : Int32) (md_size' : Int32) (md_parts' : Nat → Int32), Q c_place' c_failed' md_size' md_parts' ∧ w = [(q_t, .inr (0, [.ref q_t_md, .ref q_t_tape, .int c_bytes, .int c_place', .int c_use, .int c_failed'])), (q_t_md, .inr (3, [.ref q_t_md_parts, .ref q_t_md_stack, .int md_size'])), (q_t_md_parts, .inl (g.X.cI, 60, .inl md_parts')), (q_t_tape, .inl (g.X.cI, 60, .inl c_tape))])) : ∀ (n : Nat) (x1 : Int32) (x2 : Int32) (c_place : Int32) (c_failed : Int32) (md_size : Int32) (md_parts : Nat → Int32), wp_X0_readChain_b19 F_X0_readChain F_X0_readUnit Q c_bytes c_use c_tape n x1 x2 c_place c_failed md_size md_parts → ST g 0 0 19 [(0, .ref q_t), (1, .int x1), (2, .int x2)] [] [(q_t, .inr (0, [.ref q_t_md, .ref q_t_tape, .int c_bytes, .int c_place, .int c_use, .int c_failed])), (q_t_md, .inr (3, [.ref q_t_md_parts, .ref q_t_md_stack, .int md_size])), (q_t_md_parts, .inl (g.X.cI, 60, .inl md_parts)), (q_t_tape, .inl (g.X.cI, 60, .inl c_tape))] := by
  intro n
  induction n with
  | zero => intro x1 x2 c_place c_failed md_size md_parts h; exact False.elim h
  | succ n hK19 =>
    intro x1 x2 c_place c_failed md_size md_parts h
    unfold wp_X0_readChain_b19 at h
    refine st_aload_n G 20 rfl 0 rfl dX0_readChain_19 rfl ?_
    refine st_get G inX0 rfl 5 (by decide) wd_448 23 rfl 0 rfl rfl dX0_readChain_20 ?_
    refine st_if_ne G 99 26 rfl dX0_readChain_23 rfl (fun c => ?_) (fun c => ?_)
    · have h := h.1 c
      exact R _ _ _ dX0_readChain_99 (Nat.le_of_ble_eq_true rfl) ⟨_, _, _, _, h, rfl⟩
    have h := h.2 c
    refine st_aload_n G 27 rfl 0 rfl dX0_readChain_26 rfl ?_
    refine st_get G inX0 rfl 3 (by decide) wd_447 30 rfl 0 rfl rfl dX0_readChain_27 ?_
    refine st_aload_n G 31 rfl 0 rfl dX0_readChain_30 rfl ?_
    refine st_get G inX0 rfl 2 (by decide) wd_445 34 rfl 0 rfl rfl dX0_readChain_31 ?_
    refine st_icmp_ge G 99 37 rfl dX0_readChain_34 rfl (fun c => ?_) (fun c => ?_)
    · have h := h.1 c
      exact R _ _ _ dX0_readChain_99 (Nat.le_of_ble_eq_true rfl) ⟨_, _, _, _, h, rfl⟩
    have h := h.2 c
    refine st_aload_n G 38 rfl 0 rfl dX0_readChain_37 rfl ?_
    refine st_get G inX0 rfl 1 (by decide) wd_67 41 rfl 0 rfl rfl dX0_readChain_38 ?_
    refine st_aload_n G 42 rfl 0 rfl dX0_readChain_41 rfl ?_
    refine st_get G inX0 rfl 3 (by decide) wd_447 45 rfl 0 rfl rfl dX0_readChain_42 ?_
    obtain ⟨hin, h⟩ := h
    refine st_iald G 46 rfl 3 rfl hin dX0_readChain_45 ?_
    refine st_cSio G lk_X0_57 (c_X0_levelOf g.l g.D g.X (c_tape c_place.toNatClampNeg) _ h) (rmk_X0_readChain_X0_levelOf d) 49 rfl [] rfl (by decide) rfl (Nat.le_of_ble_eq_true rfl) rfl dX0_readChain_46 (fun r_46 h => ?_)
    refine st_iload_n G 50 rfl 1 rfl dX0_readChain_49 rfl ?_
    refine st_icmp_ne G 99 53 rfl dX0_readChain_50 rfl (fun c => ?_) (fun c => ?_)
    · have h := h.1 c
      exact R _ _ _ dX0_readChain_99 (Nat.le_of_ble_eq_true rfl) ⟨_, _, _, _, h, rfl⟩
    have h := h.2 c
    refine st_aload_n G 54 rfl 0 rfl dX0_readChain_53 rfl ?_
    refine st_get G inX0 rfl 1 (by decide) wd_67 57 rfl 0 rfl rfl dX0_readChain_54 ?_
    refine st_aload_n G 58 rfl 0 rfl dX0_readChain_57 rfl ?_
    refine st_get G inX0 rfl 3 (by decide) wd_447 61 rfl 0 rfl rfl dX0_readChain_58 ?_
    obtain ⟨hin, h⟩ := h
    refine st_iald G 62 rfl 3 rfl hin dX0_readChain_61 ?_
    refine st_topi (fun x3_62 ex3_62 => ?_)
    have h := h x3_62 ex3_62
    refine st_istore_n G 63 rfl [(3, .int x3_62), (0, .ref q_t), (1, .int x1), (2, .int x2)] dX0_readChain_62 rfl (by decide) rfl ?_
    refine st_aload_n G 64 rfl 1 rfl dX0_readChain_63 rfl ?_
    refine st_dup G 65 rfl dX0_readChain_64 rfl ?_
    refine st_get G inX0 rfl 3 (by decide) wd_447 68 rfl 0 rfl rfl dX0_readChain_65 ?_
    refine st_iconst G 69 rfl (1 : Int32) (by decide) dX0_readChain_68 ?_
    refine st_iadd G 70 rfl dX0_readChain_69 ?_
    refine st_topi (fun c_place_70 ec_place_70 => ?_)
    have h := h c_place_70 ec_place_70
    refine st_put G inX0 tyX0 tyX0_ok nmX0 rfl 3 (by decide) wd_447 rfl [(q_t, .inr (0, [.ref q_t_md, .ref q_t_tape, .int c_bytes, .int c_place_70, .int c_use, .int c_failed])), (q_t_md, .inr (3, [.ref q_t_md_parts, .ref q_t_md_stack, .int md_size])), (q_t_md_parts, .inl (g.X.cI, 60, .inl md_parts)), (q_t_tape, .inl (g.X.cI, 60, .inl c_tape))] 73 rfl 0 rfl rfl rfl (Nat.le_of_ble_eq_true rfl) rfl dX0_readChain_70 ?_
    refine st_aload_n G 74 rfl 1 rfl dX0_readChain_73 rfl ?_
    refine st_iload_n G 75 rfl 2 rfl dX0_readChain_74 rfl ?_
    refine st_iconst G 76 rfl (1 : Int32) (by decide) dX0_readChain_75 ?_
    refine st_iadd G 77 rfl dX0_readChain_76 ?_
    refine st_iload_n G 78 rfl 3 rfl dX0_readChain_77 rfl ?_
    refine st_cVv G lk_X0_49 (hF_X0_readChain q_t q_t_md q_t_md_parts q_t_md_stack q_t_tape c_bytes c_place_70 c_use c_failed md_size md_parts c_tape (x1 + (1 : Int32)) x2 _ h) (rmk_X0_readChain_rec d (by decide)) 81 rfl [0, 1, 2, 3] rfl (by decide) 0 0 rfl rfl rfl (Nat.le_of_ble_eq_true rfl) rfl dX0_readChain_78 (fun w hq => ?_)
    obtain ⟨c_place_78, c_failed_78, md_size_78, md_parts_78, h, rfl⟩ := hq
    refine st_wp (ws' := [(q_t, .inr (0, [.ref q_t_md, .ref q_t_tape, .int c_bytes, .int c_place_78, .int c_use, .int c_failed_78])), (q_t_md, .inr (3, [.ref q_t_md_parts, .ref q_t_md_stack, .int md_size_78])), (q_t_md_parts, .inl (g.X.cI, 60, .inl md_parts_78)), (q_t_tape, .inl (g.X.cI, 60, .inl c_tape))]) 4 [] (by decide) rfl rfl (by rfl) [] (by rfl) rfl ?_
    refine st_aload_n G 82 rfl 1 rfl dX0_readChain_81 rfl ?_
    refine st_get G inX0 rfl 0 (by decide) wd_66 85 rfl 0 rfl rfl dX0_readChain_82 ?_
    refine st_iload_n G 86 rfl 0 rfl dX0_readChain_85 rfl ?_
    refine st_ineg G 87 rfl dX0_readChain_86 ?_
    refine st_cVv G lk_X0_61 (c_X3_add g.l g.D g.X q_t_md q_t_md_parts q_t_md_stack md_size_78 md_parts_78 (-x3_62) _ h) (rmk_X0_readChain_X3_add d) 90 rfl [1, 2] rfl (by decide) 0 3 rfl rfl rfl (Nat.le_of_ble_eq_true rfl) rfl dX0_readChain_87 (fun w hq => ?_)
    obtain ⟨md_size_87, md_parts_87, h, rfl⟩ := hq
    refine st_wp (ws' := [(q_t, .inr (0, [.ref q_t_md, .ref q_t_tape, .int c_bytes, .int c_place_78, .int c_use, .int c_failed_78])), (q_t_md, .inr (3, [.ref q_t_md_parts, .ref q_t_md_stack, .int md_size_87])), (q_t_md_parts, .inl (g.X.cI, 60, .inl md_parts_87)), (q_t_tape, .inl (g.X.cI, 60, .inl c_tape))]) 4 [0, 3] (by decide) rfl rfl (by rfl) [(q_t, .inr (0, [.ref q_t_md, .ref q_t_tape, .int c_bytes, .int c_place_78, .int c_use, .int c_failed_78])), (q_t_tape, .inl (g.X.cI, 60, .inl c_tape))] (by rfl) rfl ?_
    refine st_iload_n G 91 rfl 2 rfl dX0_readChain_90 rfl ?_
    refine st_iconst G 92 rfl (2 : Int32) (by decide) dX0_readChain_91 ?_
    refine st_icmp_ne G 96 95 rfl dX0_readChain_92 rfl (fun c => ?_) (fun c => ?_)
    · have h := h.1 c
      refine st_goto G 19 dX0_readChain_96 rfl ?_
      refine st_L (L' := [(0, .ref q_t), (1, .int x1), (2, .int x2)]) [1, 2, 3] rfl ?_
      exact hK19 _ _ _ _ _ _ h
    have h := h.2 c
    exact R _ _ _ dX0_readChain_95 (Nat.le_of_ble_eq_true rfl) ⟨_, _, _, _, h, rfl⟩
set_option maxRecDepth 100000 in
set_option maxHeartbeats 4000000 in
theorem b_X0_readChain_e {g : GT} {d : Nat} {F_X0_readChain : Int32 → Int32 → (Int32) → (Int32) → (Int32) → (Int32) → (Int32) → (Nat → Int32) → (Nat → Int32) → ((Int32) → (Int32) → (Int32) → (Nat → Int32) → Prop) → Prop} {F_X0_readUnit : Int32 → (Int32) → (Int32) → (Int32) → (Int32) → (Int32) → (Nat → Int32) → (Nat → Int32) → ((Int32) → (Int32) → (Int32) → (Nat → Int32) → Prop) → Prop} (G : GOOD g RX0 cX0_readChain 4 (rm_X0_readChain (d + 1))) {q_t q_t_md q_t_md_parts q_t_md_stack q_t_tape : Nat} {c_bytes : Int32} {c_place : Int32} {c_use : Int32} {c_failed : Int32} {md_size : Int32} {md_parts : Nat → Int32} {c_tape : Nat → Int32} {x1 : Int32} {x2 : Int32} {Q : (Int32) → (Int32) → (Int32) → (Nat → Int32) → Prop} (R : RETv g cX0_readChain 0 0 4 (fun w => ∃ (c_place' : Int32) (c_failed' : Int32) (md_size' : Int32) (md_parts' : Nat → Int32), Q c_place' c_failed' md_size' md_parts' ∧ w = [(q_t, .inr (0, [.ref q_t_md, .ref q_t_tape, .int c_bytes, .int c_place', .int c_use, .int c_failed'])), (q_t_md, .inr (3, [.ref q_t_md_parts, .ref q_t_md_stack, .int md_size'])), (q_t_md_parts, .inl (g.X.cI, 60, .inl md_parts')), (q_t_tape, .inl (g.X.cI, 60, .inl c_tape))])) (hF_X0_readChain : ∀ (q_t q_t_md q_t_md_parts q_t_md_stack q_t_tape : Nat) (c_bytes : Int32) (c_place : Int32) (c_use : Int32) (c_failed : Int32) (md_size : Int32) (md_parts : Nat → Int32) (c_tape : Nat → Int32) (x1 : Int32) (x2 : Int32) (Q : (Int32) → (Int32) → (Int32) → (Nat → Int32) → Prop), F_X0_readChain x1 x2 c_bytes c_place c_use c_failed md_size md_parts c_tape Q → CTv g.l g.D g.X yX0_readChain cX0_readChain 4 (rm_X0_readChain d) 0 0 [.ref q_t, .int x1, .int x2] [(q_t, .inr (0, [.ref q_t_md, .ref q_t_tape, .int c_bytes, .int c_place, .int c_use, .int c_failed])), (q_t_md, .inr (3, [.ref q_t_md_parts, .ref q_t_md_stack, .int md_size])), (q_t_md_parts, .inl (g.X.cI, 60, .inl md_parts)), (q_t_tape, .inl (g.X.cI, 60, .inl c_tape))] (fun w => ∃ (c_place' : Int32) (c_failed' : Int32) (md_size' : Int32) (md_parts' : Nat → Int32), Q c_place' c_failed' md_size' md_parts' ∧ w = [(q_t, .inr (0, [.ref q_t_md, .ref q_t_tape, .int c_bytes, .int c_place', .int c_use, .int c_failed'])), (q_t_md, .inr (3, [.ref q_t_md_parts, .ref q_t_md_stack, .int md_size'])), (q_t_md_parts, .inl (g.X.cI, 60, .inl md_parts')), (q_t_tape, .inl (g.X.cI, 60, .inl c_tape))])) (hF_X0_readUnit : ∀ (q_t q_t_md q_t_md_parts q_t_md_stack q_t_tape : Nat) (c_bytes : Int32) (c_place : Int32) (c_use : Int32) (c_failed : Int32) (md_size : Int32) (md_parts : Nat → Int32) (c_tape : Nat → Int32) (x1 : Int32) (Q : (Int32) → (Int32) → (Int32) → (Nat → Int32) → Prop), F_X0_readUnit x1 c_bytes c_place c_use c_failed md_size md_parts c_tape Q → CTv g.l g.D g.X yX0_readUnit cX0_readUnit 4 (rm_X0_readChain d) 0 0 [.ref q_t, .int x1] [(q_t, .inr (0, [.ref q_t_md, .ref q_t_tape, .int c_bytes, .int c_place, .int c_use, .int c_failed])), (q_t_md, .inr (3, [.ref q_t_md_parts, .ref q_t_md_stack, .int md_size])), (q_t_md_parts, .inl (g.X.cI, 60, .inl md_parts)), (q_t_tape, .inl (g.X.cI, 60, .inl c_tape))] (fun w => ∃ (c_place' : Int32) (c_failed' : Int32) (md_size' : Int32) (md_parts' : Nat → Int32), Q c_place' c_failed' md_size' md_parts' ∧ w = [(q_t, .inr (0, [.ref q_t_md, .ref q_t_tape, .int c_bytes, .int c_place', .int c_use, .int c_failed'])), (q_t_md, .inr (3, [.ref q_t_md_parts, .ref q_t_md_stack, .int md_size'])), (q_t_md_parts, .inl (g.X.cI, 60, .inl md_parts')), (q_t_tape, .inl (g.X.cI, 60, .inl c_tape))])) (h : ws_X0_readChain F_X0_readChain F_X0_readUnit x1 x2 c_bytes c_place c_use c_failed md_size md_parts c_tape Q) : ST g 0 0 0 [(0, .ref q_t), (1, .int x1), (2, .int x2)] [] [(q_t, .inr (0, [.ref q_t_md, .ref q_t_tape, .int c_bytes, .int c_place, .int c_use, .int c_failed])), (q_t_md, .inr (3, [.ref q_t_md_parts, .ref q_t_md_stack, .int md_size])), (q_t_md_parts, .inl (g.X.cI, 60, .inl md_parts)), (q_t_tape, .inl (g.X.cI, 60, .inl c_tape))] := by
  unfold ws_X0_readChain at h
  refine st_iload_n G 1 rfl 1 rfl dX0_readChain_0 rfl ?_
  refine st_iconst G 2 rfl (4 : Int32) (by decide) dX0_readChain_1 ?_
  refine st_icmp_le G 11 5 rfl dX0_readChain_2 rfl (fun c => ?_) (fun c => ?_)
  · have h := h.1 c
    refine st_aload_n G 12 rfl 0 rfl dX0_readChain_11 rfl ?_
    refine st_iload_n G 13 rfl 1 rfl dX0_readChain_12 rfl ?_
    refine st_iconst G 14 rfl (1 : Int32) (by decide) dX0_readChain_13 ?_
    refine st_iadd G 15 rfl dX0_readChain_14 ?_
    refine st_iload_n G 16 rfl 2 rfl dX0_readChain_15 rfl ?_
    refine st_cVv G lk_X0_49 (hF_X0_readChain q_t q_t_md q_t_md_parts q_t_md_stack q_t_tape c_bytes c_place c_use c_failed md_size md_parts c_tape (x1 + (1 : Int32)) x2 _ h) (rmk_X0_readChain_rec d (by decide)) 19 rfl [0, 1, 2, 3] rfl (by decide) 0 0 rfl rfl rfl (Nat.le_of_ble_eq_true rfl) rfl dX0_readChain_16 (fun w hq => ?_)
    obtain ⟨c_place_16, c_failed_16, md_size_16, md_parts_16, h, rfl⟩ := hq
    refine st_wp (ws' := [(q_t, .inr (0, [.ref q_t_md, .ref q_t_tape, .int c_bytes, .int c_place_16, .int c_use, .int c_failed_16])), (q_t_md, .inr (3, [.ref q_t_md_parts, .ref q_t_md_stack, .int md_size_16])), (q_t_md_parts, .inl (g.X.cI, 60, .inl md_parts_16)), (q_t_tape, .inl (g.X.cI, 60, .inl c_tape))]) 4 [] (by decide) rfl rfl (by rfl) [] (by rfl) rfl ?_
    obtain ⟨n, h⟩ := h
    exact b_X0_readChain_19 G R hF_X0_readChain hF_X0_readUnit n _ _ _ _ _ _ h
  have h := h.2 c
  refine st_aload_n G 6 rfl 0 rfl dX0_readChain_5 rfl ?_
  refine st_iload_n G 7 rfl 2 rfl dX0_readChain_6 rfl ?_
  refine st_cVv G lk_X0_53 (hF_X0_readUnit q_t q_t_md q_t_md_parts q_t_md_stack q_t_tape c_bytes c_place c_use c_failed md_size md_parts c_tape x2 _ h) (rmk_X0_readChain_rec d (by decide)) 10 rfl [0, 1, 2, 3] rfl (by decide) 0 0 rfl rfl rfl (Nat.le_of_ble_eq_true rfl) rfl dX0_readChain_7 (fun w hq => ?_)
  obtain ⟨c_place_7, c_failed_7, md_size_7, md_parts_7, h, rfl⟩ := hq
  refine st_wp (ws' := [(q_t, .inr (0, [.ref q_t_md, .ref q_t_tape, .int c_bytes, .int c_place_7, .int c_use, .int c_failed_7])), (q_t_md, .inr (3, [.ref q_t_md_parts, .ref q_t_md_stack, .int md_size_7])), (q_t_md_parts, .inl (g.X.cI, 60, .inl md_parts_7)), (q_t_tape, .inl (g.X.cI, 60, .inl c_tape))]) 4 [] (by decide) rfl rfl (by rfl) [] (by rfl) rfl ?_
  exact R _ _ _ dX0_readChain_10 (Nat.le_of_ble_eq_true rfl) ⟨_, _, _, _, h, rfl⟩
set_option maxRecDepth 100000 in
set_option maxHeartbeats 4000000 in
theorem b_X0_readUnit_111 {g : GT} {d : Nat} {F_X0_readChain : Int32 → Int32 → (Int32) → (Int32) → (Int32) → (Int32) → (Int32) → (Nat → Int32) → (Nat → Int32) → ((Int32) → (Int32) → (Int32) → (Nat → Int32) → Prop) → Prop} {F_X0_readUnit : Int32 → (Int32) → (Int32) → (Int32) → (Int32) → (Int32) → (Nat → Int32) → (Nat → Int32) → ((Int32) → (Int32) → (Int32) → (Nat → Int32) → Prop) → Prop} (G : GOOD g RX0 cX0_readUnit 4 (rm_X0_readChain (d + 1))) {q_t q_t_md q_t_md_parts q_t_md_stack q_t_tape : Nat} {c_bytes : Int32} {c_use : Int32} {c_tape : Nat → Int32} {Q : (Int32) → (Int32) → (Int32) → (Nat → Int32) → Prop} (R : RETv g cX0_readUnit 0 0 4 (fun w => ∃ (c_place' : Int32) (c_failed' : Int32) (md_size' : Int32) (md_parts' : Nat → Int32), Q c_place' c_failed' md_size' md_parts' ∧ w = [(q_t, .inr (0, [.ref q_t_md, .ref q_t_tape, .int c_bytes, .int c_place', .int c_use, .int c_failed'])), (q_t_md, .inr (3, [.ref q_t_md_parts, .ref q_t_md_stack, .int md_size'])), (q_t_md_parts, .inl (g.X.cI, 60, .inl md_parts')), (q_t_tape, .inl (g.X.cI, 60, .inl c_tape))])) (hF_X0_readChain : ∀ (q_t q_t_md q_t_md_parts q_t_md_stack q_t_tape : Nat) (c_bytes : Int32) (c_place : Int32) (c_use : Int32) (c_failed : Int32) (md_size : Int32) (md_parts : Nat → Int32) (c_tape : Nat → Int32) (x1 : Int32) (x2 : Int32) (Q : (Int32) → (Int32) → (Int32) → (Nat → Int32) → Prop), F_X0_readChain x1 x2 c_bytes c_place c_use c_failed md_size md_parts c_tape Q → CTv g.l g.D g.X yX0_readChain cX0_readChain 4 (rm_X0_readChain d) 0 0 [.ref q_t, .int x1, .int x2] [(q_t, .inr (0, [.ref q_t_md, .ref q_t_tape, .int c_bytes, .int c_place, .int c_use, .int c_failed])), (q_t_md, .inr (3, [.ref q_t_md_parts, .ref q_t_md_stack, .int md_size])), (q_t_md_parts, .inl (g.X.cI, 60, .inl md_parts)), (q_t_tape, .inl (g.X.cI, 60, .inl c_tape))] (fun w => ∃ (c_place' : Int32) (c_failed' : Int32) (md_size' : Int32) (md_parts' : Nat → Int32), Q c_place' c_failed' md_size' md_parts' ∧ w = [(q_t, .inr (0, [.ref q_t_md, .ref q_t_tape, .int c_bytes, .int c_place', .int c_use, .int c_failed'])), (q_t_md, .inr (3, [.ref q_t_md_parts, .ref q_t_md_stack, .int md_size'])), (q_t_md_parts, .inl (g.X.cI, 60, .inl md_parts')), (q_t_tape, .inl (g.X.cI, 60, .inl c_tape))])) (hF_X0_readUnit : ∀ (q_t q_t_md q_t_md_parts q_t_md_stack q_t_tape : Nat) (c_bytes : Int32) (c_place : Int32) (c_use : Int32) (c_failed : Int32) (md_size : Int32) (md_parts : Nat → Int32) (c_tape : Nat → Int32) (x1 : Int32) (Q : (Int32) → (Int32) → (Int32) → (Nat → Int32) → Prop), F_X0_readUnit x1 c_bytes c_place c_use c_failed md_size md_parts c_tape Q → CTv g.l g.D g.X yX0_readUnit cX0_readUnit 4 (rm_X0_readChain d) 0 0 [.ref q_t, .int x1] [(q_t, .inr (0, [.ref q_t_md, .ref q_t_tape, .int c_bytes, .int c_place, .int c_use, .int c_failed])), (q_t_md, .inr (3, [.ref q_t_md_parts, .ref q_t_md_stack, .int md_size])), (q_t_md_parts, .inl (g.X.cI, 60, .inl md_parts)), (q_t_tape, .inl (g.X.cI, 60, .inl c_tape))] (fun w => ∃ (c_place' : Int32) (c_failed' : Int32) (md_size' : Int32) (md_parts' : Nat → Int32), Q c_place' c_failed' md_size' md_parts' ∧ w = [(q_t, .inr (0, [.ref q_t_md, .ref q_t_tape, .int c_bytes, .int c_place', .int c_use, .int c_failed'])), (q_t_md, .inr (3, [.ref q_t_md_parts, .ref q_t_md_stack, .int md_size'])), (q_t_md_parts, .inl (g.X.cI, 60, .inl md_parts')), (q_t_tape, .inl (g.X.cI, 60, .inl c_tape))])) {x1 : Int32} {x2 : Int32} {c_place : Int32} {c_failed : Int32} {md_size : Int32} {md_parts : Nat → Int32} (h : wp_X0_readUnit_b111 F_X0_readChain F_X0_readUnit Q c_bytes c_use c_tape x1 x2 c_place c_failed md_size md_parts) : ST g 0 0 111 [(0, .ref q_t), (1, .int x1), (2, .int x2)] [] [(q_t, .inr (0, [.ref q_t_md, .ref q_t_tape, .int c_bytes, .int c_place, .int c_use, .int c_failed])), (q_t_md, .inr (3, [.ref q_t_md_parts, .ref q_t_md_stack, .int md_size])), (q_t_md_parts, .inl (g.X.cI, 60, .inl md_parts)), (q_t_tape, .inl (g.X.cI, 60, .inl c_tape))] := by
  unfold wp_X0_readUnit_b111 at h
  refine st_iload_n G 112 rfl 2 rfl dX0_readUnit_111 rfl ?_
  refine st_bipush G 114 rfl (40 : Int32) (by decide) dX0_readUnit_112 ?_
  refine st_icmp_ne G 147 117 rfl dX0_readUnit_114 rfl (fun c => ?_) (fun c => ?_)
  · have h := h.1 c
    refine st_aload_n G 148 rfl 0 rfl dX0_readUnit_147 rfl ?_
    refine st_iconst G 149 rfl (1 : Int32) (by decide) dX0_readUnit_148 ?_
    refine st_put G inX0 tyX0 tyX0_ok nmX0 rfl 5 (by decide) wd_448 rfl [(q_t, .inr (0, [.ref q_t_md, .ref q_t_tape, .int c_bytes, .int c_place, .int c_use, .int (1 : Int32)])), (q_t_md, .inr (3, [.ref q_t_md_parts, .ref q_t_md_stack, .int md_size])), (q_t_md_parts, .inl (g.X.cI, 60, .inl md_parts)), (q_t_tape, .inl (g.X.cI, 60, .inl c_tape))] 152 rfl 0 rfl rfl rfl (Nat.le_of_ble_eq_true rfl) rfl dX0_readUnit_149 ?_
    exact R _ _ _ dX0_readUnit_152 (Nat.le_of_ble_eq_true rfl) ⟨_, _, _, _, h, rfl⟩
  have h := h.2 c
  refine st_iload_n G 118 rfl 1 rfl dX0_readUnit_117 rfl ?_
  refine st_iconst G 119 rfl (5 : Int32) (by decide) dX0_readUnit_118 ?_
  refine st_icmp_ge G 147 122 rfl dX0_readUnit_119 rfl (fun c => ?_) (fun c => ?_)
  · have h := h.1 c
    refine st_aload_n G 148 rfl 0 rfl dX0_readUnit_147 rfl ?_
    refine st_iconst G 149 rfl (1 : Int32) (by decide) dX0_readUnit_148 ?_
    refine st_put G inX0 tyX0 tyX0_ok nmX0 rfl 5 (by decide) wd_448 rfl [(q_t, .inr (0, [.ref q_t_md, .ref q_t_tape, .int c_bytes, .int c_place, .int c_use, .int (1 : Int32)])), (q_t_md, .inr (3, [.ref q_t_md_parts, .ref q_t_md_stack, .int md_size])), (q_t_md_parts, .inl (g.X.cI, 60, .inl md_parts)), (q_t_tape, .inl (g.X.cI, 60, .inl c_tape))] 152 rfl 0 rfl rfl rfl (Nat.le_of_ble_eq_true rfl) rfl dX0_readUnit_149 ?_
    exact R _ _ _ dX0_readUnit_152 (Nat.le_of_ble_eq_true rfl) ⟨_, _, _, _, h, rfl⟩
  have h := h.2 c
  refine st_aload_n G 123 rfl 0 rfl dX0_readUnit_122 rfl ?_
  refine st_dup G 124 rfl dX0_readUnit_123 rfl ?_
  refine st_get G inX0 rfl 3 (by decide) wd_447 127 rfl 0 rfl rfl dX0_readUnit_124 ?_
  refine st_iconst G 128 rfl (1 : Int32) (by decide) dX0_readUnit_127 ?_
  refine st_iadd G 129 rfl dX0_readUnit_128 ?_
  refine st_topi (fun c_place_129 ec_place_129 => ?_)
  have h := h c_place_129 ec_place_129
  refine st_put G inX0 tyX0 tyX0_ok nmX0 rfl 3 (by decide) wd_447 rfl [(q_t, .inr (0, [.ref q_t_md, .ref q_t_tape, .int c_bytes, .int c_place_129, .int c_use, .int c_failed])), (q_t_md, .inr (3, [.ref q_t_md_parts, .ref q_t_md_stack, .int md_size])), (q_t_md_parts, .inl (g.X.cI, 60, .inl md_parts)), (q_t_tape, .inl (g.X.cI, 60, .inl c_tape))] 132 rfl 0 rfl rfl rfl (Nat.le_of_ble_eq_true rfl) rfl dX0_readUnit_129 ?_
  refine st_aload_n G 133 rfl 0 rfl dX0_readUnit_132 rfl ?_
  refine st_iconst G 134 rfl (0 : Int32) (by decide) dX0_readUnit_133 ?_
  refine st_iload_n G 135 rfl 1 rfl dX0_readUnit_134 rfl ?_
  refine st_iconst G 136 rfl (1 : Int32) (by decide) dX0_readUnit_135 ?_
  refine st_iadd G 137 rfl dX0_readUnit_136 ?_
  refine st_cVv G lk_X0_49 (hF_X0_readChain q_t q_t_md q_t_md_parts q_t_md_stack q_t_tape c_bytes c_place_129 c_use c_failed md_size md_parts c_tape (0 : Int32) (x1 + (1 : Int32)) _ h) (rmk_X0_readChain_rec d (by decide)) 140 rfl [0, 1, 2, 3] rfl (by decide) 0 0 rfl rfl rfl (Nat.le_of_ble_eq_true rfl) rfl dX0_readUnit_137 (fun w hq => ?_)
  obtain ⟨c_place_137, c_failed_137, md_size_137, md_parts_137, h, rfl⟩ := hq
  refine st_wp (ws' := [(q_t, .inr (0, [.ref q_t_md, .ref q_t_tape, .int c_bytes, .int c_place_137, .int c_use, .int c_failed_137])), (q_t_md, .inr (3, [.ref q_t_md_parts, .ref q_t_md_stack, .int md_size_137])), (q_t_md_parts, .inl (g.X.cI, 60, .inl md_parts_137)), (q_t_tape, .inl (g.X.cI, 60, .inl c_tape))]) 4 [] (by decide) rfl rfl (by rfl) [] (by rfl) rfl ?_
  refine st_aload_n G 141 rfl 0 rfl dX0_readUnit_140 rfl ?_
  refine st_cVv G lk_X0_74 (c_X0_readClosing g.l g.D g.X q_t q_t_md q_t_tape c_bytes c_place_137 c_use c_failed_137 c_tape _ h) (rmk_X0_readUnit_X0_readClosing d) 144 rfl [0, 3] rfl (by decide) 0 0 rfl rfl rfl (Nat.le_of_ble_eq_true rfl) rfl dX0_readUnit_141 (fun w hq => ?_)
  obtain ⟨c_place_141, c_failed_141, h, rfl⟩ := hq
  refine st_wp (ws' := [(q_t, .inr (0, [.ref q_t_md, .ref q_t_tape, .int c_bytes, .int c_place_141, .int c_use, .int c_failed_141])), (q_t_md, .inr (3, [.ref q_t_md_parts, .ref q_t_md_stack, .int md_size_137])), (q_t_md_parts, .inl (g.X.cI, 60, .inl md_parts_137)), (q_t_tape, .inl (g.X.cI, 60, .inl c_tape))]) 4 [1, 2] (by decide) rfl rfl (by rfl) [(q_t_md, .inr (3, [.ref q_t_md_parts, .ref q_t_md_stack, .int md_size_137])), (q_t_md_parts, .inl (g.X.cI, 60, .inl md_parts_137))] (by rfl) rfl ?_
  refine st_goto G 152 dX0_readUnit_144 rfl ?_
  exact R _ _ _ dX0_readUnit_152 (Nat.le_of_ble_eq_true rfl) ⟨_, _, _, _, h, rfl⟩
set_option maxRecDepth 100000 in
set_option maxHeartbeats 4000000 in
theorem b_X0_readUnit_24 {g : GT} {d : Nat} {F_X0_readChain : Int32 → Int32 → (Int32) → (Int32) → (Int32) → (Int32) → (Int32) → (Nat → Int32) → (Nat → Int32) → ((Int32) → (Int32) → (Int32) → (Nat → Int32) → Prop) → Prop} {F_X0_readUnit : Int32 → (Int32) → (Int32) → (Int32) → (Int32) → (Int32) → (Nat → Int32) → (Nat → Int32) → ((Int32) → (Int32) → (Int32) → (Nat → Int32) → Prop) → Prop} (G : GOOD g RX0 cX0_readUnit 4 (rm_X0_readChain (d + 1))) {q_t q_t_md q_t_md_parts q_t_md_stack q_t_tape : Nat} {c_bytes : Int32} {c_use : Int32} {c_tape : Nat → Int32} {Q : (Int32) → (Int32) → (Int32) → (Nat → Int32) → Prop} (R : RETv g cX0_readUnit 0 0 4 (fun w => ∃ (c_place' : Int32) (c_failed' : Int32) (md_size' : Int32) (md_parts' : Nat → Int32), Q c_place' c_failed' md_size' md_parts' ∧ w = [(q_t, .inr (0, [.ref q_t_md, .ref q_t_tape, .int c_bytes, .int c_place', .int c_use, .int c_failed'])), (q_t_md, .inr (3, [.ref q_t_md_parts, .ref q_t_md_stack, .int md_size'])), (q_t_md_parts, .inl (g.X.cI, 60, .inl md_parts')), (q_t_tape, .inl (g.X.cI, 60, .inl c_tape))])) (hF_X0_readChain : ∀ (q_t q_t_md q_t_md_parts q_t_md_stack q_t_tape : Nat) (c_bytes : Int32) (c_place : Int32) (c_use : Int32) (c_failed : Int32) (md_size : Int32) (md_parts : Nat → Int32) (c_tape : Nat → Int32) (x1 : Int32) (x2 : Int32) (Q : (Int32) → (Int32) → (Int32) → (Nat → Int32) → Prop), F_X0_readChain x1 x2 c_bytes c_place c_use c_failed md_size md_parts c_tape Q → CTv g.l g.D g.X yX0_readChain cX0_readChain 4 (rm_X0_readChain d) 0 0 [.ref q_t, .int x1, .int x2] [(q_t, .inr (0, [.ref q_t_md, .ref q_t_tape, .int c_bytes, .int c_place, .int c_use, .int c_failed])), (q_t_md, .inr (3, [.ref q_t_md_parts, .ref q_t_md_stack, .int md_size])), (q_t_md_parts, .inl (g.X.cI, 60, .inl md_parts)), (q_t_tape, .inl (g.X.cI, 60, .inl c_tape))] (fun w => ∃ (c_place' : Int32) (c_failed' : Int32) (md_size' : Int32) (md_parts' : Nat → Int32), Q c_place' c_failed' md_size' md_parts' ∧ w = [(q_t, .inr (0, [.ref q_t_md, .ref q_t_tape, .int c_bytes, .int c_place', .int c_use, .int c_failed'])), (q_t_md, .inr (3, [.ref q_t_md_parts, .ref q_t_md_stack, .int md_size'])), (q_t_md_parts, .inl (g.X.cI, 60, .inl md_parts')), (q_t_tape, .inl (g.X.cI, 60, .inl c_tape))])) (hF_X0_readUnit : ∀ (q_t q_t_md q_t_md_parts q_t_md_stack q_t_tape : Nat) (c_bytes : Int32) (c_place : Int32) (c_use : Int32) (c_failed : Int32) (md_size : Int32) (md_parts : Nat → Int32) (c_tape : Nat → Int32) (x1 : Int32) (Q : (Int32) → (Int32) → (Int32) → (Nat → Int32) → Prop), F_X0_readUnit x1 c_bytes c_place c_use c_failed md_size md_parts c_tape Q → CTv g.l g.D g.X yX0_readUnit cX0_readUnit 4 (rm_X0_readChain d) 0 0 [.ref q_t, .int x1] [(q_t, .inr (0, [.ref q_t_md, .ref q_t_tape, .int c_bytes, .int c_place, .int c_use, .int c_failed])), (q_t_md, .inr (3, [.ref q_t_md_parts, .ref q_t_md_stack, .int md_size])), (q_t_md_parts, .inl (g.X.cI, 60, .inl md_parts)), (q_t_tape, .inl (g.X.cI, 60, .inl c_tape))] (fun w => ∃ (c_place' : Int32) (c_failed' : Int32) (md_size' : Int32) (md_parts' : Nat → Int32), Q c_place' c_failed' md_size' md_parts' ∧ w = [(q_t, .inr (0, [.ref q_t_md, .ref q_t_tape, .int c_bytes, .int c_place', .int c_use, .int c_failed'])), (q_t_md, .inr (3, [.ref q_t_md_parts, .ref q_t_md_stack, .int md_size'])), (q_t_md_parts, .inl (g.X.cI, 60, .inl md_parts')), (q_t_tape, .inl (g.X.cI, 60, .inl c_tape))])) {x1 : Int32} {s0 : Int32} {c_place : Int32} {c_failed : Int32} {md_size : Int32} {md_parts : Nat → Int32} (h : wp_X0_readUnit_b24 F_X0_readChain F_X0_readUnit Q c_bytes c_use c_tape x1 s0 c_place c_failed md_size md_parts) : ST g 0 0 24 [(0, .ref q_t), (1, .int x1)] [.int s0] [(q_t, .inr (0, [.ref q_t_md, .ref q_t_tape, .int c_bytes, .int c_place, .int c_use, .int c_failed])), (q_t_md, .inr (3, [.ref q_t_md_parts, .ref q_t_md_stack, .int md_size])), (q_t_md_parts, .inl (g.X.cI, 60, .inl md_parts)), (q_t_tape, .inl (g.X.cI, 60, .inl c_tape))] := by
  unfold wp_X0_readUnit_b24 at h
  refine st_istore_n G 25 rfl [(2, .int s0), (0, .ref q_t), (1, .int x1)] dX0_readUnit_24 rfl (by decide) rfl ?_
  refine st_aload_n G 26 rfl 1 rfl dX0_readUnit_25 rfl ?_
  refine st_iload_n G 27 rfl 0 rfl dX0_readUnit_26 rfl ?_
  refine st_cVio G lk_X0_64 (c_X0_nameOf g.l g.D g.X q_t q_t_md q_t_tape c_bytes c_place c_use c_failed s0 _ h) (rmk_X0_readUnit_X0_nameOf d) 30 rfl [0] rfl (by decide) 0 0 rfl rfl rfl (Nat.le_of_ble_eq_true rfl) rfl dX0_readUnit_27 (fun r_27 h => ?_)
  refine st_istore_n G 31 rfl [(3, .int r_27), (2, .int s0), (0, .ref q_t), (1, .int x1)] dX0_readUnit_30 rfl (by decide) rfl ?_
  refine st_iload_n G 32 rfl 1 rfl dX0_readUnit_31 rfl ?_
  refine st_cSio G lk_X0_67 (c_X0_isDigit g.l g.D g.X s0 _ h) (rmk_X0_readUnit_X0_isDigit d) 35 rfl [] rfl (by decide) rfl (Nat.le_of_ble_eq_true rfl) rfl dX0_readUnit_32 (fun r_32 h => ?_)
  refine st_if_eq G 45 38 rfl dX0_readUnit_35 rfl (fun c => ?_) (fun c => ?_)
  · have h := h.1 c
    refine st_iload_n G 46 rfl 0 rfl dX0_readUnit_45 rfl ?_
    refine st_if_le G 71 49 rfl dX0_readUnit_46 rfl (fun c => ?_) (fun c => ?_)
    · have h := h.1 c
      refine st_iload_n G 72 rfl 1 rfl dX0_readUnit_71 rfl ?_
      refine st_bipush G 74 rfl (33 : Int32) (by decide) dX0_readUnit_72 ?_
      refine st_icmp_ne G 111 77 rfl dX0_readUnit_74 rfl (fun c => ?_) (fun c => ?_)
      · have h := h.1 c
        refine st_L (L' := [(0, .ref q_t), (1, .int x1), (2, .int s0)]) [2, 3, 1] rfl ?_
        exact b_X0_readUnit_111 G R hF_X0_readChain hF_X0_readUnit h
      have h := h.2 c
      refine st_iload_n G 78 rfl 3 rfl dX0_readUnit_77 rfl ?_
      refine st_iconst G 79 rfl (5 : Int32) (by decide) dX0_readUnit_78 ?_
      refine st_icmp_ge G 111 82 rfl dX0_readUnit_79 rfl (fun c => ?_) (fun c => ?_)
      · have h := h.1 c
        refine st_L (L' := [(0, .ref q_t), (1, .int x1), (2, .int s0)]) [2, 3, 1] rfl ?_
        exact b_X0_readUnit_111 G R hF_X0_readChain hF_X0_readUnit h
      have h := h.2 c
      refine st_aload_n G 83 rfl 2 rfl dX0_readUnit_82 rfl ?_
      refine st_dup G 84 rfl dX0_readUnit_83 rfl ?_
      refine st_get G inX0 rfl 3 (by decide) wd_447 87 rfl 0 rfl rfl dX0_readUnit_84 ?_
      refine st_iconst G 88 rfl (1 : Int32) (by decide) dX0_readUnit_87 ?_
      refine st_iadd G 89 rfl dX0_readUnit_88 ?_
      refine st_topi (fun c_place_89 ec_place_89 => ?_)
      have h := h c_place_89 ec_place_89
      refine st_put G inX0 tyX0 tyX0_ok nmX0 rfl 3 (by decide) wd_447 rfl [(q_t, .inr (0, [.ref q_t_md, .ref q_t_tape, .int c_bytes, .int c_place_89, .int c_use, .int c_failed])), (q_t_md, .inr (3, [.ref q_t_md_parts, .ref q_t_md_stack, .int md_size])), (q_t_md_parts, .inl (g.X.cI, 60, .inl md_parts)), (q_t_tape, .inl (g.X.cI, 60, .inl c_tape))] 92 rfl 0 rfl rfl rfl (Nat.le_of_ble_eq_true rfl) rfl dX0_readUnit_89 ?_
      refine st_aload_n G 93 rfl 2 rfl dX0_readUnit_92 rfl ?_
      refine st_iload_n G 94 rfl 3 rfl dX0_readUnit_93 rfl ?_
      refine st_iconst G 95 rfl (1 : Int32) (by decide) dX0_readUnit_94 ?_
      refine st_iadd G 96 rfl dX0_readUnit_95 ?_
      refine st_cVv G lk_X0_53 (hF_X0_readUnit q_t q_t_md q_t_md_parts q_t_md_stack q_t_tape c_bytes c_place_89 c_use c_failed md_size md_parts c_tape (x1 + (1 : Int32)) _ h) (rmk_X0_readChain_rec d (by decide)) 99 rfl [0, 1, 2, 3] rfl (by decide) 0 0 rfl rfl rfl (Nat.le_of_ble_eq_true rfl) rfl dX0_readUnit_96 (fun w hq => ?_)
      obtain ⟨c_place_96, c_failed_96, md_size_96, md_parts_96, h, rfl⟩ := hq
      refine st_wp (ws' := [(q_t, .inr (0, [.ref q_t_md, .ref q_t_tape, .int c_bytes, .int c_place_96, .int c_use, .int c_failed_96])), (q_t_md, .inr (3, [.ref q_t_md_parts, .ref q_t_md_stack, .int md_size_96])), (q_t_md_parts, .inl (g.X.cI, 60, .inl md_parts_96)), (q_t_tape, .inl (g.X.cI, 60, .inl c_tape))]) 4 [] (by decide) rfl rfl (by rfl) [] (by rfl) rfl ?_
      refine st_aload_n G 100 rfl 2 rfl dX0_readUnit_99 rfl ?_
      refine st_get G inX0 rfl 0 (by decide) wd_66 103 rfl 0 rfl rfl dX0_readUnit_100 ?_
      refine st_iload_n G 104 rfl 1 rfl dX0_readUnit_103 rfl ?_
      refine st_ineg G 105 rfl dX0_readUnit_104 ?_
      refine st_cVv G lk_X0_61 (c_X3_add g.l g.D g.X q_t_md q_t_md_parts q_t_md_stack md_size_96 md_parts_96 (-s0) _ h) (rmk_X0_readUnit_X3_add d) 108 rfl [1, 2] rfl (by decide) 0 3 rfl rfl rfl (Nat.le_of_ble_eq_true rfl) rfl dX0_readUnit_105 (fun w hq => ?_)
      obtain ⟨md_size_105, md_parts_105, h, rfl⟩ := hq
      refine st_wp (ws' := [(q_t, .inr (0, [.ref q_t_md, .ref q_t_tape, .int c_bytes, .int c_place_96, .int c_use, .int c_failed_96])), (q_t_md, .inr (3, [.ref q_t_md_parts, .ref q_t_md_stack, .int md_size_105])), (q_t_md_parts, .inl (g.X.cI, 60, .inl md_parts_105)), (q_t_tape, .inl (g.X.cI, 60, .inl c_tape))]) 4 [0, 3] (by decide) rfl rfl (by rfl) [(q_t, .inr (0, [.ref q_t_md, .ref q_t_tape, .int c_bytes, .int c_place_96, .int c_use, .int c_failed_96])), (q_t_tape, .inl (g.X.cI, 60, .inl c_tape))] (by rfl) rfl ?_
      refine st_goto G 152 dX0_readUnit_108 rfl ?_
      exact R _ _ _ dX0_readUnit_152 (Nat.le_of_ble_eq_true rfl) ⟨_, _, _, _, h, rfl⟩
    have h := h.2 c
    refine st_aload_n G 50 rfl 2 rfl dX0_readUnit_49 rfl ?_
    refine st_dup G 51 rfl dX0_readUnit_50 rfl ?_
    refine st_get G inX0 rfl 3 (by decide) wd_447 54 rfl 0 rfl rfl dX0_readUnit_51 ?_
    refine st_iconst G 55 rfl (1 : Int32) (by decide) dX0_readUnit_54 ?_
    refine st_iadd G 56 rfl dX0_readUnit_55 ?_
    refine st_topi (fun c_place_56 ec_place_56 => ?_)
    have h := h c_place_56 ec_place_56
    refine st_put G inX0 tyX0 tyX0_ok nmX0 rfl 3 (by decide) wd_447 rfl [(q_t, .inr (0, [.ref q_t_md, .ref q_t_tape, .int c_bytes, .int c_place_56, .int c_use, .int c_failed])), (q_t_md, .inr (3, [.ref q_t_md_parts, .ref q_t_md_stack, .int md_size])), (q_t_md_parts, .inl (g.X.cI, 60, .inl md_parts)), (q_t_tape, .inl (g.X.cI, 60, .inl c_tape))] 59 rfl 0 rfl rfl rfl (Nat.le_of_ble_eq_true rfl) rfl dX0_readUnit_56 ?_
    refine st_aload_n G 60 rfl 2 rfl dX0_readUnit_59 rfl ?_
    refine st_get G inX0 rfl 0 (by decide) wd_66 63 rfl 0 rfl rfl dX0_readUnit_60 ?_
    refine st_iload_n G 64 rfl 0 rfl dX0_readUnit_63 rfl ?_
    refine st_ineg G 65 rfl dX0_readUnit_64 ?_
    refine st_cVv G lk_X0_61 (c_X3_add g.l g.D g.X q_t_md q_t_md_parts q_t_md_stack md_size md_parts (-r_27) _ h) (rmk_X0_readUnit_X3_add d) 68 rfl [1, 2] rfl (by decide) 0 3 rfl rfl rfl (Nat.le_of_ble_eq_true rfl) rfl dX0_readUnit_65 (fun w hq => ?_)
    obtain ⟨md_size_65, md_parts_65, h, rfl⟩ := hq
    refine st_wp (ws' := [(q_t, .inr (0, [.ref q_t_md, .ref q_t_tape, .int c_bytes, .int c_place_56, .int c_use, .int c_failed])), (q_t_md, .inr (3, [.ref q_t_md_parts, .ref q_t_md_stack, .int md_size_65])), (q_t_md_parts, .inl (g.X.cI, 60, .inl md_parts_65)), (q_t_tape, .inl (g.X.cI, 60, .inl c_tape))]) 4 [0, 3] (by decide) rfl rfl (by rfl) [(q_t, .inr (0, [.ref q_t_md, .ref q_t_tape, .int c_bytes, .int c_place_56, .int c_use, .int c_failed])), (q_t_tape, .inl (g.X.cI, 60, .inl c_tape))] (by rfl) rfl ?_
    refine st_goto G 152 dX0_readUnit_68 rfl ?_
    exact R _ _ _ dX0_readUnit_152 (Nat.le_of_ble_eq_true rfl) ⟨_, _, _, _, h, rfl⟩
  have h := h.2 c
  refine st_aload_n G 39 rfl 2 rfl dX0_readUnit_38 rfl ?_
  refine st_cVv G lk_X0_71 (c_X0_readNumber g.l g.D g.X q_t q_t_md q_t_md_parts q_t_md_stack q_t_tape c_bytes c_place c_use c_failed md_size md_parts c_tape _ h) (rmk_X0_readUnit_X0_readNumber d) 42 rfl [0, 1, 2, 3] rfl (by decide) 0 0 rfl rfl rfl (Nat.le_of_ble_eq_true rfl) rfl dX0_readUnit_39 (fun w hq => ?_)
  obtain ⟨c_place_39, md_size_39, md_parts_39, h, rfl⟩ := hq
  refine st_wp (ws' := [(q_t, .inr (0, [.ref q_t_md, .ref q_t_tape, .int c_bytes, .int c_place_39, .int c_use, .int c_failed])), (q_t_md, .inr (3, [.ref q_t_md_parts, .ref q_t_md_stack, .int md_size_39])), (q_t_md_parts, .inl (g.X.cI, 60, .inl md_parts_39)), (q_t_tape, .inl (g.X.cI, 60, .inl c_tape))]) 4 [] (by decide) rfl rfl (by rfl) [] (by rfl) rfl ?_
  refine st_goto G 152 dX0_readUnit_42 rfl ?_
  exact R _ _ _ dX0_readUnit_152 (Nat.le_of_ble_eq_true rfl) ⟨_, _, _, _, h, rfl⟩
set_option maxRecDepth 100000 in
set_option maxHeartbeats 4000000 in
theorem b_X0_readUnit_e {g : GT} {d : Nat} {F_X0_readChain : Int32 → Int32 → (Int32) → (Int32) → (Int32) → (Int32) → (Int32) → (Nat → Int32) → (Nat → Int32) → ((Int32) → (Int32) → (Int32) → (Nat → Int32) → Prop) → Prop} {F_X0_readUnit : Int32 → (Int32) → (Int32) → (Int32) → (Int32) → (Int32) → (Nat → Int32) → (Nat → Int32) → ((Int32) → (Int32) → (Int32) → (Nat → Int32) → Prop) → Prop} (G : GOOD g RX0 cX0_readUnit 4 (rm_X0_readChain (d + 1))) {q_t q_t_md q_t_md_parts q_t_md_stack q_t_tape : Nat} {c_bytes : Int32} {c_place : Int32} {c_use : Int32} {c_failed : Int32} {md_size : Int32} {md_parts : Nat → Int32} {c_tape : Nat → Int32} {x1 : Int32} {Q : (Int32) → (Int32) → (Int32) → (Nat → Int32) → Prop} (R : RETv g cX0_readUnit 0 0 4 (fun w => ∃ (c_place' : Int32) (c_failed' : Int32) (md_size' : Int32) (md_parts' : Nat → Int32), Q c_place' c_failed' md_size' md_parts' ∧ w = [(q_t, .inr (0, [.ref q_t_md, .ref q_t_tape, .int c_bytes, .int c_place', .int c_use, .int c_failed'])), (q_t_md, .inr (3, [.ref q_t_md_parts, .ref q_t_md_stack, .int md_size'])), (q_t_md_parts, .inl (g.X.cI, 60, .inl md_parts')), (q_t_tape, .inl (g.X.cI, 60, .inl c_tape))])) (hF_X0_readChain : ∀ (q_t q_t_md q_t_md_parts q_t_md_stack q_t_tape : Nat) (c_bytes : Int32) (c_place : Int32) (c_use : Int32) (c_failed : Int32) (md_size : Int32) (md_parts : Nat → Int32) (c_tape : Nat → Int32) (x1 : Int32) (x2 : Int32) (Q : (Int32) → (Int32) → (Int32) → (Nat → Int32) → Prop), F_X0_readChain x1 x2 c_bytes c_place c_use c_failed md_size md_parts c_tape Q → CTv g.l g.D g.X yX0_readChain cX0_readChain 4 (rm_X0_readChain d) 0 0 [.ref q_t, .int x1, .int x2] [(q_t, .inr (0, [.ref q_t_md, .ref q_t_tape, .int c_bytes, .int c_place, .int c_use, .int c_failed])), (q_t_md, .inr (3, [.ref q_t_md_parts, .ref q_t_md_stack, .int md_size])), (q_t_md_parts, .inl (g.X.cI, 60, .inl md_parts)), (q_t_tape, .inl (g.X.cI, 60, .inl c_tape))] (fun w => ∃ (c_place' : Int32) (c_failed' : Int32) (md_size' : Int32) (md_parts' : Nat → Int32), Q c_place' c_failed' md_size' md_parts' ∧ w = [(q_t, .inr (0, [.ref q_t_md, .ref q_t_tape, .int c_bytes, .int c_place', .int c_use, .int c_failed'])), (q_t_md, .inr (3, [.ref q_t_md_parts, .ref q_t_md_stack, .int md_size'])), (q_t_md_parts, .inl (g.X.cI, 60, .inl md_parts')), (q_t_tape, .inl (g.X.cI, 60, .inl c_tape))])) (hF_X0_readUnit : ∀ (q_t q_t_md q_t_md_parts q_t_md_stack q_t_tape : Nat) (c_bytes : Int32) (c_place : Int32) (c_use : Int32) (c_failed : Int32) (md_size : Int32) (md_parts : Nat → Int32) (c_tape : Nat → Int32) (x1 : Int32) (Q : (Int32) → (Int32) → (Int32) → (Nat → Int32) → Prop), F_X0_readUnit x1 c_bytes c_place c_use c_failed md_size md_parts c_tape Q → CTv g.l g.D g.X yX0_readUnit cX0_readUnit 4 (rm_X0_readChain d) 0 0 [.ref q_t, .int x1] [(q_t, .inr (0, [.ref q_t_md, .ref q_t_tape, .int c_bytes, .int c_place, .int c_use, .int c_failed])), (q_t_md, .inr (3, [.ref q_t_md_parts, .ref q_t_md_stack, .int md_size])), (q_t_md_parts, .inl (g.X.cI, 60, .inl md_parts)), (q_t_tape, .inl (g.X.cI, 60, .inl c_tape))] (fun w => ∃ (c_place' : Int32) (c_failed' : Int32) (md_size' : Int32) (md_parts' : Nat → Int32), Q c_place' c_failed' md_size' md_parts' ∧ w = [(q_t, .inr (0, [.ref q_t_md, .ref q_t_tape, .int c_bytes, .int c_place', .int c_use, .int c_failed'])), (q_t_md, .inr (3, [.ref q_t_md_parts, .ref q_t_md_stack, .int md_size'])), (q_t_md_parts, .inl (g.X.cI, 60, .inl md_parts')), (q_t_tape, .inl (g.X.cI, 60, .inl c_tape))])) (h : ws_X0_readUnit F_X0_readChain F_X0_readUnit x1 c_bytes c_place c_use c_failed md_size md_parts c_tape Q) : ST g 0 0 0 [(0, .ref q_t), (1, .int x1)] [] [(q_t, .inr (0, [.ref q_t_md, .ref q_t_tape, .int c_bytes, .int c_place, .int c_use, .int c_failed])), (q_t_md, .inr (3, [.ref q_t_md_parts, .ref q_t_md_stack, .int md_size])), (q_t_md_parts, .inl (g.X.cI, 60, .inl md_parts)), (q_t_tape, .inl (g.X.cI, 60, .inl c_tape))] := by
  unfold ws_X0_readUnit at h
  refine st_aload_n G 1 rfl 0 rfl dX0_readUnit_0 rfl ?_
  refine st_get G inX0 rfl 3 (by decide) wd_447 4 rfl 0 rfl rfl dX0_readUnit_1 ?_
  refine st_aload_n G 5 rfl 0 rfl dX0_readUnit_4 rfl ?_
  refine st_get G inX0 rfl 2 (by decide) wd_445 8 rfl 0 rfl rfl dX0_readUnit_5 ?_
  refine st_icmp_ge G 23 11 rfl dX0_readUnit_8 rfl (fun c => ?_) (fun c => ?_)
  · have h := h.1 c
    refine st_iconst G 24 rfl (-1 : Int32) (by decide) dX0_readUnit_23 ?_
    exact b_X0_readUnit_24 G R hF_X0_readChain hF_X0_readUnit h
  have h := h.2 c
  refine st_aload_n G 12 rfl 0 rfl dX0_readUnit_11 rfl ?_
  refine st_get G inX0 rfl 1 (by decide) wd_67 15 rfl 0 rfl rfl dX0_readUnit_12 ?_
  refine st_aload_n G 16 rfl 0 rfl dX0_readUnit_15 rfl ?_
  refine st_get G inX0 rfl 3 (by decide) wd_447 19 rfl 0 rfl rfl dX0_readUnit_16 ?_
  obtain ⟨hin, h⟩ := h
  refine st_iald G 20 rfl 3 rfl hin dX0_readUnit_19 ?_
  refine st_goto G 24 dX0_readUnit_20 rfl ?_
  exact b_X0_readUnit_24 G R hF_X0_readChain hF_X0_readUnit h
set_option maxRecDepth 100000 in
set_option maxHeartbeats 4000000 in
theorem cg_X0_readChain (l : Launch) (D : va_G) (X : XT) : ∀ d : Nat, (∀ (q_t q_t_md q_t_md_parts q_t_md_stack q_t_tape : Nat) (c_bytes : Int32) (c_place : Int32) (c_use : Int32) (c_failed : Int32) (md_size : Int32) (md_parts : Nat → Int32) (c_tape : Nat → Int32) (x1 : Int32) (x2 : Int32) (Q : (Int32) → (Int32) → (Int32) → (Nat → Int32) → Prop), wp_X0_readChain d x1 x2 c_bytes c_place c_use c_failed md_size md_parts c_tape Q → CTv l D X yX0_readChain cX0_readChain 4 (rm_X0_readChain d) 0 0 [.ref q_t, .int x1, .int x2] [(q_t, .inr (0, [.ref q_t_md, .ref q_t_tape, .int c_bytes, .int c_place, .int c_use, .int c_failed])), (q_t_md, .inr (3, [.ref q_t_md_parts, .ref q_t_md_stack, .int md_size])), (q_t_md_parts, .inl (X.cI, 60, .inl md_parts)), (q_t_tape, .inl (X.cI, 60, .inl c_tape))] (fun w => ∃ (c_place' : Int32) (c_failed' : Int32) (md_size' : Int32) (md_parts' : Nat → Int32), Q c_place' c_failed' md_size' md_parts' ∧ w = [(q_t, .inr (0, [.ref q_t_md, .ref q_t_tape, .int c_bytes, .int c_place', .int c_use, .int c_failed'])), (q_t_md, .inr (3, [.ref q_t_md_parts, .ref q_t_md_stack, .int md_size'])), (q_t_md_parts, .inl (X.cI, 60, .inl md_parts')), (q_t_tape, .inl (X.cI, 60, .inl c_tape))])) ∧ (∀ (q_t q_t_md q_t_md_parts q_t_md_stack q_t_tape : Nat) (c_bytes : Int32) (c_place : Int32) (c_use : Int32) (c_failed : Int32) (md_size : Int32) (md_parts : Nat → Int32) (c_tape : Nat → Int32) (x1 : Int32) (Q : (Int32) → (Int32) → (Int32) → (Nat → Int32) → Prop), wp_X0_readUnit d x1 c_bytes c_place c_use c_failed md_size md_parts c_tape Q → CTv l D X yX0_readUnit cX0_readUnit 4 (rm_X0_readChain d) 0 0 [.ref q_t, .int x1] [(q_t, .inr (0, [.ref q_t_md, .ref q_t_tape, .int c_bytes, .int c_place, .int c_use, .int c_failed])), (q_t_md, .inr (3, [.ref q_t_md_parts, .ref q_t_md_stack, .int md_size])), (q_t_md_parts, .inl (X.cI, 60, .inl md_parts)), (q_t_tape, .inl (X.cI, 60, .inl c_tape))] (fun w => ∃ (c_place' : Int32) (c_failed' : Int32) (md_size' : Int32) (md_parts' : Nat → Int32), Q c_place' c_failed' md_size' md_parts' ∧ w = [(q_t, .inr (0, [.ref q_t_md, .ref q_t_tape, .int c_bytes, .int c_place', .int c_use, .int c_failed'])), (q_t_md, .inr (3, [.ref q_t_md_parts, .ref q_t_md_stack, .int md_size'])), (q_t_md_parts, .inl (X.cI, 60, .inl md_parts')), (q_t_tape, .inl (X.cI, 60, .inl c_tape))])) := by
  intro d
  induction d with
  | zero => refine ⟨?_, ?_⟩ <;> (intros; rename_i h; exact False.elim h)
  | succ d ih =>
    refine ⟨?_, ?_⟩
    · intro q_t q_t_md q_t_md_parts q_t_md_stack q_t_tape c_bytes c_place c_use c_failed md_size md_parts c_tape x1 x2 Q h
      exact ct_v (by decide) (Nat.le_of_ble_eq_true rfl) (fun g hl hD hX G _ R => by subst hl; subst hD; subst hX; exact b_X0_readChain_e G R ih.1 ih.2 h)
    · intro q_t q_t_md q_t_md_parts q_t_md_stack q_t_tape c_bytes c_place c_use c_failed md_size md_parts c_tape x1 Q h
      exact ct_v (by decide) (Nat.le_of_ble_eq_true rfl) (fun g hl hD hX G _ R => by subst hl; subst hD; subst hX; exact b_X0_readUnit_e G R ih.1 ih.2 h)
set_option maxRecDepth 100000 in
set_option maxHeartbeats 4000000 in
theorem c_X0_readChain (d : Nat) (l : Launch) (D : va_G) (X : XT) (q_t q_t_md q_t_md_parts q_t_md_stack q_t_tape : Nat) (c_bytes : Int32) (c_place : Int32) (c_use : Int32) (c_failed : Int32) (md_size : Int32) (md_parts : Nat → Int32) (c_tape : Nat → Int32) (x1 : Int32) (x2 : Int32) (Q : (Int32) → (Int32) → (Int32) → (Nat → Int32) → Prop) (h : wp_X0_readChain d x1 x2 c_bytes c_place c_use c_failed md_size md_parts c_tape Q) : CTv l D X yX0_readChain cX0_readChain 4 (rm_X0_readChain d) 0 0 [.ref q_t, .int x1, .int x2] [(q_t, .inr (0, [.ref q_t_md, .ref q_t_tape, .int c_bytes, .int c_place, .int c_use, .int c_failed])), (q_t_md, .inr (3, [.ref q_t_md_parts, .ref q_t_md_stack, .int md_size])), (q_t_md_parts, .inl (X.cI, 60, .inl md_parts)), (q_t_tape, .inl (X.cI, 60, .inl c_tape))] (fun w => ∃ (c_place' : Int32) (c_failed' : Int32) (md_size' : Int32) (md_parts' : Nat → Int32), Q c_place' c_failed' md_size' md_parts' ∧ w = [(q_t, .inr (0, [.ref q_t_md, .ref q_t_tape, .int c_bytes, .int c_place', .int c_use, .int c_failed'])), (q_t_md, .inr (3, [.ref q_t_md_parts, .ref q_t_md_stack, .int md_size'])), (q_t_md_parts, .inl (X.cI, 60, .inl md_parts')), (q_t_tape, .inl (X.cI, 60, .inl c_tape))]) :=
  (cg_X0_readChain l D X d).1 q_t q_t_md q_t_md_parts q_t_md_stack q_t_tape c_bytes c_place c_use c_failed md_size md_parts c_tape x1 x2 Q h
set_option maxRecDepth 100000 in
set_option maxHeartbeats 4000000 in
theorem c_X0_readUnit (d : Nat) (l : Launch) (D : va_G) (X : XT) (q_t q_t_md q_t_md_parts q_t_md_stack q_t_tape : Nat) (c_bytes : Int32) (c_place : Int32) (c_use : Int32) (c_failed : Int32) (md_size : Int32) (md_parts : Nat → Int32) (c_tape : Nat → Int32) (x1 : Int32) (Q : (Int32) → (Int32) → (Int32) → (Nat → Int32) → Prop) (h : wp_X0_readUnit d x1 c_bytes c_place c_use c_failed md_size md_parts c_tape Q) : CTv l D X yX0_readUnit cX0_readUnit 4 (rm_X0_readChain d) 0 0 [.ref q_t, .int x1] [(q_t, .inr (0, [.ref q_t_md, .ref q_t_tape, .int c_bytes, .int c_place, .int c_use, .int c_failed])), (q_t_md, .inr (3, [.ref q_t_md_parts, .ref q_t_md_stack, .int md_size])), (q_t_md_parts, .inl (X.cI, 60, .inl md_parts)), (q_t_tape, .inl (X.cI, 60, .inl c_tape))] (fun w => ∃ (c_place' : Int32) (c_failed' : Int32) (md_size' : Int32) (md_parts' : Nat → Int32), Q c_place' c_failed' md_size' md_parts' ∧ w = [(q_t, .inr (0, [.ref q_t_md, .ref q_t_tape, .int c_bytes, .int c_place', .int c_use, .int c_failed'])), (q_t_md, .inr (3, [.ref q_t_md_parts, .ref q_t_md_stack, .int md_size'])), (q_t_md_parts, .inl (X.cI, 60, .inl md_parts')), (q_t_tape, .inl (X.cI, 60, .inl c_tape))]) :=
  (cg_X0_readChain l D X d).2 q_t q_t_md q_t_md_parts q_t_md_stack q_t_tape c_bytes c_place c_use c_failed md_size md_parts c_tape x1 Q h
set_option maxRecDepth 100000 in
set_option maxHeartbeats 4000000 in
theorem b_X3_clear_e {g : GT} (G : GOOD g RX3 cX3_clear 1 rm_X3_clear) {q_t q_t_parts q_t_stack : Nat} {c_size : Int32} {Q : (Int32) → Prop} (R : RETv g cX3_clear 0 0 1 (fun w => ∃ (c_size' : Int32), Q c_size' ∧ w = [(q_t, .inr (3, [.ref q_t_parts, .ref q_t_stack, .int c_size']))])) (h : wp_X3_clear c_size Q) : ST g 0 0 0 [(0, .ref q_t)] [] [(q_t, .inr (3, [.ref q_t_parts, .ref q_t_stack, .int c_size]))] := by
  unfold wp_X3_clear at h
  refine st_aload_n G 1 rfl 0 rfl dX3_clear_0 rfl ?_
  refine st_iconst G 2 rfl (0 : Int32) (by decide) dX3_clear_1 ?_
  refine st_put G inX3 tyX3 tyX3_ok nmX3 rfl 2 (by decide) wd_219 rfl [(q_t, .inr (3, [.ref q_t_parts, .ref q_t_stack, .int (0 : Int32)]))] 5 rfl 0 rfl rfl rfl (Nat.le_of_ble_eq_true rfl) rfl dX3_clear_2 ?_
  exact R _ _ _ dX3_clear_5 (Nat.le_of_ble_eq_true rfl) ⟨_, h, rfl⟩
set_option maxRecDepth 100000 in
set_option maxHeartbeats 4000000 in
theorem c_X3_clear (l : Launch) (D : va_G) (X : XT) (q_t q_t_parts q_t_stack : Nat) (c_size : Int32) (Q : (Int32) → Prop) (h : wp_X3_clear c_size Q) : CTv l D X yX3_clear cX3_clear 1 rm_X3_clear 0 0 [.ref q_t] [(q_t, .inr (3, [.ref q_t_parts, .ref q_t_stack, .int c_size]))] (fun w => ∃ (c_size' : Int32), Q c_size' ∧ w = [(q_t, .inr (3, [.ref q_t_parts, .ref q_t_stack, .int c_size']))]) :=
  ct_v (by decide) (Nat.le_of_ble_eq_true rfl) (fun g hl hD hX G _ R => by subst hl; subst hD; subst hX; exact b_X3_clear_e G R h)
set_option maxRecDepth 100000 in
set_option maxHeartbeats 4000000 in
theorem b_X0_faultOf_e {g : GT} (G : GOOD g RX0 cX0_faultOf 3 rm_X0_faultOf) {q_t q_t_md q_t_md_parts q_t_md_stack q_t_tape q_a1 q_a1_km q_a1_father q_a1_mother q_a1_from q_a1_spoons q_a1_owed q_a1_tape q_a1_tx0 q_a1_tx1 q_a1_waiting : Nat} {c_bytes : Int32} {c_place : Int32} {c_use : Int32} {c_failed : Int32} {md_size : Int32} {md_parts : Nat → Int32} {c_tape : Nat → Int32} {a1_people : Int32} {a1_year : Int32} {a1_z : Int32} {a1_bytes : Int32} {a1_waits : Int32} {a1_tape : Nat → Int32} {x2 : Int32} {Q : Int32 → (Int32) → (Int32) → (Int32) → (Int32) → (Int32) → (Nat → Int32) → (Nat → Int32) → Prop} (R : RETi g cX0_faultOf 6 (fun (r : Int32) w => ∃ (c_bytes' : Int32) (c_place' : Int32) (c_use' : Int32) (c_failed' : Int32) (md_size' : Int32) (md_parts' : Nat → Int32) (c_tape' : Nat → Int32), Q r c_bytes' c_place' c_use' c_failed' md_size' md_parts' c_tape' ∧ w = [(q_t, .inr (0, [.ref q_t_md, .ref q_t_tape, .int c_bytes', .int c_place', .int c_use', .int c_failed'])), (q_t_md, .inr (3, [.ref q_t_md_parts, .ref q_t_md_stack, .int md_size'])), (q_t_md_parts, .inl (g.X.cI, 60, .inl md_parts')), (q_t_tape, .inl (g.X.cI, 60, .inl c_tape')), (q_a1, .inr (5, [.int a1_people, .ref q_a1_km, .ref q_a1_father, .ref q_a1_mother, .ref q_a1_from, .ref q_a1_spoons, .ref q_a1_owed, .int a1_year, .int a1_z, .ref q_a1_tape, .int a1_bytes, .ref q_a1_tx0, .ref q_a1_tx1, .ref q_a1_waiting, .int a1_waits])), (q_a1_tape, .inl (g.X.cI, 60, .inl a1_tape))])) (h : wp_X0_faultOf x2 c_bytes c_place c_use c_failed md_size md_parts c_tape a1_bytes a1_tape Q) : ST g 0 0 0 [(0, .ref q_t), (1, .ref q_a1), (2, .int x2)] [] [(q_t, .inr (0, [.ref q_t_md, .ref q_t_tape, .int c_bytes, .int c_place, .int c_use, .int c_failed])), (q_t_md, .inr (3, [.ref q_t_md_parts, .ref q_t_md_stack, .int md_size])), (q_t_md_parts, .inl (g.X.cI, 60, .inl md_parts)), (q_t_tape, .inl (g.X.cI, 60, .inl c_tape)), (q_a1, .inr (5, [.int a1_people, .ref q_a1_km, .ref q_a1_father, .ref q_a1_mother, .ref q_a1_from, .ref q_a1_spoons, .ref q_a1_owed, .int a1_year, .int a1_z, .ref q_a1_tape, .int a1_bytes, .ref q_a1_tx0, .ref q_a1_tx1, .ref q_a1_waiting, .int a1_waits])), (q_a1_tape, .inl (g.X.cI, 60, .inl a1_tape))] := by
  unfold wp_X0_faultOf at h
  refine st_aload_n G 1 rfl 1 rfl dX0_faultOf_0 rfl ?_
  refine st_get G inX5 rfl 9 (by decide) wd_439 4 rfl 4 rfl rfl dX0_faultOf_1 ?_
  refine st_iconst G 5 rfl (0 : Int32) (by decide) dX0_faultOf_4 ?_
  refine st_aload_n G 6 rfl 0 rfl dX0_faultOf_5 rfl ?_
  refine st_get G inX0 rfl 1 (by decide) wd_67 9 rfl 0 rfl rfl dX0_faultOf_6 ?_
  refine st_iconst G 10 rfl (0 : Int32) (by decide) dX0_faultOf_9 ?_
  refine st_bipush G 12 rfl (60 : Int32) (by decide) dX0_faultOf_10 ?_
  obtain ⟨c_tape_12, ec_tape_12⟩ : ∃ y : Nat → Int32, y = va_cpy a1_tape c_tape (0 : Int32).toNatClampNeg (0 : Int32).toNatClampNeg (60 : Int32).toNatClampNeg := ⟨_, rfl⟩
  have h := h c_tape_12 ec_tape_12
  refine st_copy G wd_440 wd_441 wd_442 wd_443 ⟨Nat.le_of_ble_eq_true rfl, Nat.le_of_ble_eq_true rfl⟩ [(q_t, .inr (0, [.ref q_t_md, .ref q_t_tape, .int c_bytes, .int c_place, .int c_use, .int c_failed])), (q_t_md, .inr (3, [.ref q_t_md_parts, .ref q_t_md_stack, .int md_size])), (q_t_md_parts, .inl (g.X.cI, 60, .inl md_parts)), (q_t_tape, .inl (g.X.cI, 60, .inl c_tape_12)), (q_a1, .inr (5, [.int a1_people, .ref q_a1_km, .ref q_a1_father, .ref q_a1_mother, .ref q_a1_from, .ref q_a1_spoons, .ref q_a1_owed, .int a1_year, .int a1_z, .ref q_a1_tape, .int a1_bytes, .ref q_a1_tx0, .ref q_a1_tx1, .ref q_a1_waiting, .int a1_waits])), (q_a1_tape, .inl (g.X.cI, 60, .inl a1_tape))] 15 rfl 5 3 rfl rfl (by decide) (by decide) (by decide) (by decide) (by decide) (by subst ec_tape_12; rfl) dX0_faultOf_12 ?_
  refine st_aload_n G 16 rfl 0 rfl dX0_faultOf_15 rfl ?_
  refine st_aload_n G 17 rfl 1 rfl dX0_faultOf_16 rfl ?_
  refine st_get G inX5 rfl 10 (by decide) wd_444 20 rfl 4 rfl rfl dX0_faultOf_17 ?_
  refine st_put G inX0 tyX0 tyX0_ok nmX0 rfl 2 (by decide) wd_445 rfl [(q_t, .inr (0, [.ref q_t_md, .ref q_t_tape, .int a1_bytes, .int c_place, .int c_use, .int c_failed])), (q_t_md, .inr (3, [.ref q_t_md_parts, .ref q_t_md_stack, .int md_size])), (q_t_md_parts, .inl (g.X.cI, 60, .inl md_parts)), (q_t_tape, .inl (g.X.cI, 60, .inl c_tape_12)), (q_a1, .inr (5, [.int a1_people, .ref q_a1_km, .ref q_a1_father, .ref q_a1_mother, .ref q_a1_from, .ref q_a1_spoons, .ref q_a1_owed, .int a1_year, .int a1_z, .ref q_a1_tape, .int a1_bytes, .ref q_a1_tx0, .ref q_a1_tx1, .ref q_a1_waiting, .int a1_waits])), (q_a1_tape, .inl (g.X.cI, 60, .inl a1_tape))] 23 rfl 0 rfl rfl rfl (Nat.le_of_ble_eq_true rfl) rfl dX0_faultOf_20 ?_
  refine st_aload_n G 24 rfl 0 rfl dX0_faultOf_23 rfl ?_
  refine st_iload_n G 25 rfl 2 rfl dX0_faultOf_24 rfl ?_
  refine st_put G inX0 tyX0 tyX0_ok nmX0 rfl 4 (by decide) wd_446 rfl [(q_t, .inr (0, [.ref q_t_md, .ref q_t_tape, .int a1_bytes, .int c_place, .int x2, .int c_failed])), (q_t_md, .inr (3, [.ref q_t_md_parts, .ref q_t_md_stack, .int md_size])), (q_t_md_parts, .inl (g.X.cI, 60, .inl md_parts)), (q_t_tape, .inl (g.X.cI, 60, .inl c_tape_12)), (q_a1, .inr (5, [.int a1_people, .ref q_a1_km, .ref q_a1_father, .ref q_a1_mother, .ref q_a1_from, .ref q_a1_spoons, .ref q_a1_owed, .int a1_year, .int a1_z, .ref q_a1_tape, .int a1_bytes, .ref q_a1_tx0, .ref q_a1_tx1, .ref q_a1_waiting, .int a1_waits])), (q_a1_tape, .inl (g.X.cI, 60, .inl a1_tape))] 28 rfl 0 rfl rfl rfl (Nat.le_of_ble_eq_true rfl) rfl dX0_faultOf_25 ?_
  refine st_aload_n G 29 rfl 0 rfl dX0_faultOf_28 rfl ?_
  refine st_iconst G 30 rfl (0 : Int32) (by decide) dX0_faultOf_29 ?_
  refine st_put G inX0 tyX0 tyX0_ok nmX0 rfl 3 (by decide) wd_447 rfl [(q_t, .inr (0, [.ref q_t_md, .ref q_t_tape, .int a1_bytes, .int (0 : Int32), .int x2, .int c_failed])), (q_t_md, .inr (3, [.ref q_t_md_parts, .ref q_t_md_stack, .int md_size])), (q_t_md_parts, .inl (g.X.cI, 60, .inl md_parts)), (q_t_tape, .inl (g.X.cI, 60, .inl c_tape_12)), (q_a1, .inr (5, [.int a1_people, .ref q_a1_km, .ref q_a1_father, .ref q_a1_mother, .ref q_a1_from, .ref q_a1_spoons, .ref q_a1_owed, .int a1_year, .int a1_z, .ref q_a1_tape, .int a1_bytes, .ref q_a1_tx0, .ref q_a1_tx1, .ref q_a1_waiting, .int a1_waits])), (q_a1_tape, .inl (g.X.cI, 60, .inl a1_tape))] 33 rfl 0 rfl rfl rfl (Nat.le_of_ble_eq_true rfl) rfl dX0_faultOf_30 ?_
  refine st_aload_n G 34 rfl 0 rfl dX0_faultOf_33 rfl ?_
  refine st_iconst G 35 rfl (0 : Int32) (by decide) dX0_faultOf_34 ?_
  refine st_put G inX0 tyX0 tyX0_ok nmX0 rfl 5 (by decide) wd_448 rfl [(q_t, .inr (0, [.ref q_t_md, .ref q_t_tape, .int a1_bytes, .int (0 : Int32), .int x2, .int (0 : Int32)])), (q_t_md, .inr (3, [.ref q_t_md_parts, .ref q_t_md_stack, .int md_size])), (q_t_md_parts, .inl (g.X.cI, 60, .inl md_parts)), (q_t_tape, .inl (g.X.cI, 60, .inl c_tape_12)), (q_a1, .inr (5, [.int a1_people, .ref q_a1_km, .ref q_a1_father, .ref q_a1_mother, .ref q_a1_from, .ref q_a1_spoons, .ref q_a1_owed, .int a1_year, .int a1_z, .ref q_a1_tape, .int a1_bytes, .ref q_a1_tx0, .ref q_a1_tx1, .ref q_a1_waiting, .int a1_waits])), (q_a1_tape, .inl (g.X.cI, 60, .inl a1_tape))] 38 rfl 0 rfl rfl rfl (Nat.le_of_ble_eq_true rfl) rfl dX0_faultOf_35 ?_
  refine st_aload_n G 39 rfl 0 rfl dX0_faultOf_38 rfl ?_
  refine st_get G inX0 rfl 0 (by decide) wd_66 42 rfl 0 rfl rfl dX0_faultOf_39 ?_
  refine st_cVv G lk_X0_46 (c_X3_clear g.l g.D g.X q_t_md q_t_md_parts q_t_md_stack md_size _ h) ⟨rfl, rfl, ⟨Nat.le_of_ble_eq_true rfl, Nat.le_of_ble_eq_true rfl⟩, Nat.zero_le _, Nat.zero_le _⟩ 45 rfl [1] rfl (by decide) 0 3 rfl rfl rfl (Nat.le_of_ble_eq_true rfl) rfl dX0_faultOf_42 (fun w hq => ?_)
  obtain ⟨md_size_42, h, rfl⟩ := hq
  refine st_wp (ws' := [(q_t, .inr (0, [.ref q_t_md, .ref q_t_tape, .int a1_bytes, .int (0 : Int32), .int x2, .int (0 : Int32)])), (q_t_md, .inr (3, [.ref q_t_md_parts, .ref q_t_md_stack, .int md_size_42])), (q_t_md_parts, .inl (g.X.cI, 60, .inl md_parts)), (q_t_tape, .inl (g.X.cI, 60, .inl c_tape_12)), (q_a1, .inr (5, [.int a1_people, .ref q_a1_km, .ref q_a1_father, .ref q_a1_mother, .ref q_a1_from, .ref q_a1_spoons, .ref q_a1_owed, .int a1_year, .int a1_z, .ref q_a1_tape, .int a1_bytes, .ref q_a1_tx0, .ref q_a1_tx1, .ref q_a1_waiting, .int a1_waits])), (q_a1_tape, .inl (g.X.cI, 60, .inl a1_tape))]) 6 [0, 2, 3, 4, 5] (by decide) rfl rfl (by rfl) [(q_t, .inr (0, [.ref q_t_md, .ref q_t_tape, .int a1_bytes, .int (0 : Int32), .int x2, .int (0 : Int32)])), (q_t_md_parts, .inl (g.X.cI, 60, .inl md_parts)), (q_t_tape, .inl (g.X.cI, 60, .inl c_tape_12)), (q_a1, .inr (5, [.int a1_people, .ref q_a1_km, .ref q_a1_father, .ref q_a1_mother, .ref q_a1_from, .ref q_a1_spoons, .ref q_a1_owed, .int a1_year, .int a1_z, .ref q_a1_tape, .int a1_bytes, .ref q_a1_tx0, .ref q_a1_tx1, .ref q_a1_waiting, .int a1_waits])), (q_a1_tape, .inl (g.X.cI, 60, .inl a1_tape))] (by rfl) rfl ?_
  refine st_aload_n G 46 rfl 0 rfl dX0_faultOf_45 rfl ?_
  refine st_iconst G 47 rfl (0 : Int32) (by decide) dX0_faultOf_46 ?_
  refine st_iconst G 48 rfl (0 : Int32) (by decide) dX0_faultOf_47 ?_
  refine st_cVv G lk_X0_49 (c_X0_readChain 64 g.l g.D g.X q_t q_t_md q_t_md_parts q_t_md_stack q_t_tape a1_bytes (0 : Int32) x2 (0 : Int32) md_size_42 md_parts c_tape_12 (0 : Int32) (0 : Int32) _ h) ⟨rfl, rfl, ⟨Nat.le_of_ble_eq_true rfl, Nat.le_of_ble_eq_true rfl⟩, Nat.zero_le _, Nat.zero_le _⟩ 51 rfl [0, 1, 2, 3] rfl (by decide) 0 0 rfl rfl rfl (Nat.le_of_ble_eq_true rfl) rfl dX0_faultOf_48 (fun w hq => ?_)
  obtain ⟨c_place_48, c_failed_48, md_size_48, md_parts_48, h, rfl⟩ := hq
  refine st_wp (ws' := [(q_t, .inr (0, [.ref q_t_md, .ref q_t_tape, .int a1_bytes, .int c_place_48, .int x2, .int c_failed_48])), (q_t_md, .inr (3, [.ref q_t_md_parts, .ref q_t_md_stack, .int md_size_48])), (q_t_md_parts, .inl (g.X.cI, 60, .inl md_parts_48)), (q_t_tape, .inl (g.X.cI, 60, .inl c_tape_12)), (q_a1, .inr (5, [.int a1_people, .ref q_a1_km, .ref q_a1_father, .ref q_a1_mother, .ref q_a1_from, .ref q_a1_spoons, .ref q_a1_owed, .int a1_year, .int a1_z, .ref q_a1_tape, .int a1_bytes, .ref q_a1_tx0, .ref q_a1_tx1, .ref q_a1_waiting, .int a1_waits])), (q_a1_tape, .inl (g.X.cI, 60, .inl a1_tape))]) 6 [4, 5] (by decide) rfl rfl (by rfl) [(q_a1, .inr (5, [.int a1_people, .ref q_a1_km, .ref q_a1_father, .ref q_a1_mother, .ref q_a1_from, .ref q_a1_spoons, .ref q_a1_owed, .int a1_year, .int a1_z, .ref q_a1_tape, .int a1_bytes, .ref q_a1_tx0, .ref q_a1_tx1, .ref q_a1_waiting, .int a1_waits])), (q_a1_tape, .inl (g.X.cI, 60, .inl a1_tape))] (by rfl) rfl ?_
  refine st_aload_n G 52 rfl 0 rfl dX0_faultOf_51 rfl ?_
  refine st_get G inX0 rfl 5 (by decide) wd_448 55 rfl 0 rfl rfl dX0_faultOf_52 ?_
  refine st_if_ne G 69 58 rfl dX0_faultOf_55 rfl (fun c => ?_) (fun c => ?_)
  · have h := h.1 c
    refine st_aload_n G 70 rfl 0 rfl dX0_faultOf_69 rfl ?_
    refine st_get G inX0 rfl 3 (by decide) wd_447 73 rfl 0 rfl rfl dX0_faultOf_70 ?_
    refine st_goto G 77 dX0_faultOf_73 rfl ?_
    exact R _ _ _ _ dX0_faultOf_77 (Nat.le_of_ble_eq_true rfl) ⟨_, _, _, _, _, _, _, h, rfl⟩
  have h := h.2 c
  refine st_aload_n G 59 rfl 0 rfl dX0_faultOf_58 rfl ?_
  refine st_get G inX0 rfl 3 (by decide) wd_447 62 rfl 0 rfl rfl dX0_faultOf_59 ?_
  refine st_aload_n G 63 rfl 0 rfl dX0_faultOf_62 rfl ?_
  refine st_get G inX0 rfl 2 (by decide) wd_445 66 rfl 0 rfl rfl dX0_faultOf_63 ?_
  refine st_icmp_ge G 76 69 rfl dX0_faultOf_66 rfl (fun c => ?_) (fun c => ?_)
  · have h := h.1 c
    refine st_iconst G 77 rfl (-1 : Int32) (by decide) dX0_faultOf_76 ?_
    exact R _ _ _ _ dX0_faultOf_77 (Nat.le_of_ble_eq_true rfl) ⟨_, _, _, _, _, _, _, h, rfl⟩
  have h := h.2 c
  refine st_aload_n G 70 rfl 0 rfl dX0_faultOf_69 rfl ?_
  refine st_get G inX0 rfl 3 (by decide) wd_447 73 rfl 0 rfl rfl dX0_faultOf_70 ?_
  refine st_goto G 77 dX0_faultOf_73 rfl ?_
  exact R _ _ _ _ dX0_faultOf_77 (Nat.le_of_ble_eq_true rfl) ⟨_, _, _, _, _, _, _, h, rfl⟩
set_option maxRecDepth 100000 in
set_option maxHeartbeats 4000000 in
theorem c_X0_faultOf (l : Launch) (D : va_G) (X : XT) (q_t q_t_md q_t_md_parts q_t_md_stack q_t_tape q_a1 q_a1_km q_a1_father q_a1_mother q_a1_from q_a1_spoons q_a1_owed q_a1_tape q_a1_tx0 q_a1_tx1 q_a1_waiting : Nat) (c_bytes : Int32) (c_place : Int32) (c_use : Int32) (c_failed : Int32) (md_size : Int32) (md_parts : Nat → Int32) (c_tape : Nat → Int32) (a1_people : Int32) (a1_year : Int32) (a1_z : Int32) (a1_bytes : Int32) (a1_waits : Int32) (a1_tape : Nat → Int32) (x2 : Int32) (Q : Int32 → (Int32) → (Int32) → (Int32) → (Int32) → (Int32) → (Nat → Int32) → (Nat → Int32) → Prop) (h : wp_X0_faultOf x2 c_bytes c_place c_use c_failed md_size md_parts c_tape a1_bytes a1_tape Q) : CTi l D X yX0_faultOf cX0_faultOf 3 .int rm_X0_faultOf [.ref q_t, .ref q_a1, .int x2] [(q_t, .inr (0, [.ref q_t_md, .ref q_t_tape, .int c_bytes, .int c_place, .int c_use, .int c_failed])), (q_t_md, .inr (3, [.ref q_t_md_parts, .ref q_t_md_stack, .int md_size])), (q_t_md_parts, .inl (X.cI, 60, .inl md_parts)), (q_t_tape, .inl (X.cI, 60, .inl c_tape)), (q_a1, .inr (5, [.int a1_people, .ref q_a1_km, .ref q_a1_father, .ref q_a1_mother, .ref q_a1_from, .ref q_a1_spoons, .ref q_a1_owed, .int a1_year, .int a1_z, .ref q_a1_tape, .int a1_bytes, .ref q_a1_tx0, .ref q_a1_tx1, .ref q_a1_waiting, .int a1_waits])), (q_a1_tape, .inl (X.cI, 60, .inl a1_tape))] (fun (r : Int32) w => ∃ (c_bytes' : Int32) (c_place' : Int32) (c_use' : Int32) (c_failed' : Int32) (md_size' : Int32) (md_parts' : Nat → Int32) (c_tape' : Nat → Int32), Q r c_bytes' c_place' c_use' c_failed' md_size' md_parts' c_tape' ∧ w = [(q_t, .inr (0, [.ref q_t_md, .ref q_t_tape, .int c_bytes', .int c_place', .int c_use', .int c_failed'])), (q_t_md, .inr (3, [.ref q_t_md_parts, .ref q_t_md_stack, .int md_size'])), (q_t_md_parts, .inl (X.cI, 60, .inl md_parts')), (q_t_tape, .inl (X.cI, 60, .inl c_tape')), (q_a1, .inr (5, [.int a1_people, .ref q_a1_km, .ref q_a1_father, .ref q_a1_mother, .ref q_a1_from, .ref q_a1_spoons, .ref q_a1_owed, .int a1_year, .int a1_z, .ref q_a1_tape, .int a1_bytes, .ref q_a1_tx0, .ref q_a1_tx1, .ref q_a1_waiting, .int a1_waits])), (q_a1_tape, .inl (X.cI, 60, .inl a1_tape))]) :=
  ct_i (by decide) (Nat.le_of_ble_eq_true rfl) (fun g hl hD hX G R => by subst hl; subst hD; subst hX; exact b_X0_faultOf_e G R h)
set_option maxRecDepth 100000 in
set_option maxHeartbeats 4000000 in
theorem b_X3_copyFrom_e {g : GT} (G : GOOD g RX3 cX3_copyFrom 2 rm_X3_copyFrom) {q_t q_t_parts q_t_stack q_a1 q_a1_parts q_a1_stack : Nat} {c_size : Int32} {c_parts : Nat → Int32} {a1_size : Int32} {a1_parts : Nat → Int32} {Q : (Int32) → (Nat → Int32) → Prop} (R : RETv g cX3_copyFrom 0 0 4 (fun w => ∃ (c_size' : Int32) (c_parts' : Nat → Int32), Q c_size' c_parts' ∧ w = [(q_t, .inr (3, [.ref q_t_parts, .ref q_t_stack, .int c_size'])), (q_t_parts, .inl (g.X.cI, 60, .inl c_parts')), (q_a1, .inr (3, [.ref q_a1_parts, .ref q_a1_stack, .int a1_size])), (q_a1_parts, .inl (g.X.cI, 60, .inl a1_parts))])) (h : wp_X3_copyFrom c_size c_parts a1_size a1_parts Q) : ST g 0 0 0 [(0, .ref q_t), (1, .ref q_a1)] [] [(q_t, .inr (3, [.ref q_t_parts, .ref q_t_stack, .int c_size])), (q_t_parts, .inl (g.X.cI, 60, .inl c_parts)), (q_a1, .inr (3, [.ref q_a1_parts, .ref q_a1_stack, .int a1_size])), (q_a1_parts, .inl (g.X.cI, 60, .inl a1_parts))] := by
  unfold wp_X3_copyFrom at h
  refine st_aload_n G 1 rfl 1 rfl dX3_copyFrom_0 rfl ?_
  refine st_get G inX3 rfl 0 (by decide) wd_56 4 rfl 2 rfl rfl dX3_copyFrom_1 ?_
  refine st_iconst G 5 rfl (0 : Int32) (by decide) dX3_copyFrom_4 ?_
  refine st_aload_n G 6 rfl 0 rfl dX3_copyFrom_5 rfl ?_
  refine st_get G inX3 rfl 0 (by decide) wd_56 9 rfl 0 rfl rfl dX3_copyFrom_6 ?_
  refine st_iconst G 10 rfl (0 : Int32) (by decide) dX3_copyFrom_9 ?_
  refine st_bipush G 12 rfl (60 : Int32) (by decide) dX3_copyFrom_10 ?_
  obtain ⟨c_parts_12, ec_parts_12⟩ : ∃ y : Nat → Int32, y = va_cpy a1_parts c_parts (0 : Int32).toNatClampNeg (0 : Int32).toNatClampNeg (60 : Int32).toNatClampNeg := ⟨_, rfl⟩
  have h := h c_parts_12 ec_parts_12
  refine st_copy G wd_488 wd_441 wd_442 wd_443 ⟨Nat.le_of_ble_eq_true rfl, Nat.le_of_ble_eq_true rfl⟩ [(q_t, .inr (3, [.ref q_t_parts, .ref q_t_stack, .int c_size])), (q_t_parts, .inl (g.X.cI, 60, .inl c_parts_12)), (q_a1, .inr (3, [.ref q_a1_parts, .ref q_a1_stack, .int a1_size])), (q_a1_parts, .inl (g.X.cI, 60, .inl a1_parts))] 15 rfl 3 1 rfl rfl (by decide) (by decide) (by decide) (by decide) (by decide) (by subst ec_parts_12; rfl) dX3_copyFrom_12 ?_
  refine st_aload_n G 16 rfl 0 rfl dX3_copyFrom_15 rfl ?_
  refine st_aload_n G 17 rfl 1 rfl dX3_copyFrom_16 rfl ?_
  refine st_get G inX3 rfl 2 (by decide) wd_219 20 rfl 2 rfl rfl dX3_copyFrom_17 ?_
  refine st_put G inX3 tyX3 tyX3_ok nmX3 rfl 2 (by decide) wd_219 rfl [(q_t, .inr (3, [.ref q_t_parts, .ref q_t_stack, .int a1_size])), (q_t_parts, .inl (g.X.cI, 60, .inl c_parts_12)), (q_a1, .inr (3, [.ref q_a1_parts, .ref q_a1_stack, .int a1_size])), (q_a1_parts, .inl (g.X.cI, 60, .inl a1_parts))] 23 rfl 0 rfl rfl rfl (Nat.le_of_ble_eq_true rfl) rfl dX3_copyFrom_20 ?_
  exact R _ _ _ dX3_copyFrom_23 (Nat.le_of_ble_eq_true rfl) ⟨_, _, h, rfl⟩
set_option maxRecDepth 100000 in
set_option maxHeartbeats 4000000 in
theorem c_X3_copyFrom (l : Launch) (D : va_G) (X : XT) (q_t q_t_parts q_t_stack q_a1 q_a1_parts q_a1_stack : Nat) (c_size : Int32) (c_parts : Nat → Int32) (a1_size : Int32) (a1_parts : Nat → Int32) (Q : (Int32) → (Nat → Int32) → Prop) (h : wp_X3_copyFrom c_size c_parts a1_size a1_parts Q) : CTv l D X yX3_copyFrom cX3_copyFrom 2 rm_X3_copyFrom 0 0 [.ref q_t, .ref q_a1] [(q_t, .inr (3, [.ref q_t_parts, .ref q_t_stack, .int c_size])), (q_t_parts, .inl (X.cI, 60, .inl c_parts)), (q_a1, .inr (3, [.ref q_a1_parts, .ref q_a1_stack, .int a1_size])), (q_a1_parts, .inl (X.cI, 60, .inl a1_parts))] (fun w => ∃ (c_size' : Int32) (c_parts' : Nat → Int32), Q c_size' c_parts' ∧ w = [(q_t, .inr (3, [.ref q_t_parts, .ref q_t_stack, .int c_size'])), (q_t_parts, .inl (X.cI, 60, .inl c_parts')), (q_a1, .inr (3, [.ref q_a1_parts, .ref q_a1_stack, .int a1_size])), (q_a1_parts, .inl (X.cI, 60, .inl a1_parts))]) :=
  ct_v (by decide) (Nat.le_of_ble_eq_true rfl) (fun g hl hD hX G _ R => by subst hl; subst hD; subst hX; exact b_X3_copyFrom_e G R h)
set_option maxRecDepth 100000 in
set_option maxHeartbeats 4000000 in
theorem b_X6_text_e {g : GT} (G : GOOD g RX6 cX6_text 3 rm_X6_text) {q_t q_t_w q_t_w_km q_t_w_father q_t_w_mother q_t_w_from q_t_w_spoons q_t_w_owed q_t_w_tape q_t_w_tx0 q_t_w_tx0_parts q_t_w_tx0_stack q_t_w_tx1 q_t_w_tx1_parts q_t_w_tx1_stack q_t_w_waiting q_t_k q_t_errors q_t_sheets q_t_r q_t_r_md q_t_r_md_parts q_t_r_md_stack q_t_r_tape q_t_th q_t_sp : Nat} {c_images : Int32} {w_people : Int32} {w_year : Int32} {w_z : Int32} {w_bytes : Int32} {w_waits : Int32} {w_tape : Nat → Int32} {w_tx_size : Nat → Int32} {w_tx_parts : Nat → Nat → Int32} {c_errors : Nat → Int32} {r_bytes : Int32} {r_place : Int32} {r_use : Int32} {r_failed : Int32} {r_md_size : Int32} {r_md_parts : Nat → Int32} {r_tape : Nat → Int32} {x1 : Int32} {Q : Int32 → (Int32) → (Nat → Int32) → (Nat → Nat → Int32) → (Nat → Int32) → (Int32) → (Int32) → (Int32) → (Int32) → (Int32) → (Nat → Int32) → (Nat → Int32) → Prop} (R : RETi g cX6_text 12 (fun (r : Int32) w => ∃ (w_bytes' : Int32) (w_tx_size' : Nat → Int32) (w_tx_parts' : Nat → Nat → Int32) (c_errors' : Nat → Int32) (r_bytes' : Int32) (r_place' : Int32) (r_use' : Int32) (r_failed' : Int32) (r_md_size' : Int32) (r_md_parts' : Nat → Int32) (r_tape' : Nat → Int32), Q r w_bytes' w_tx_size' w_tx_parts' c_errors' r_bytes' r_place' r_use' r_failed' r_md_size' r_md_parts' r_tape' ∧ w = [(q_t, .inr (6, [.ref q_t_w, .ref q_t_k, .int c_images, .ref q_t_errors, .ref q_t_sheets, .ref q_t_r, .ref q_t_th, .ref q_t_sp])), (q_t_w, .inr (5, [.int w_people, .ref q_t_w_km, .ref q_t_w_father, .ref q_t_w_mother, .ref q_t_w_from, .ref q_t_w_spoons, .ref q_t_w_owed, .int w_year, .int w_z, .ref q_t_w_tape, .int w_bytes', .ref q_t_w_tx0, .ref q_t_w_tx1, .ref q_t_w_waiting, .int w_waits])), (q_t_w_tape, .inl (g.X.cI, 60, .inl w_tape)), (q_t_w_tx0, .inr (3, [.ref q_t_w_tx0_parts, .ref q_t_w_tx0_stack, .int (w_tx_size' 0)])), (q_t_w_tx0_parts, .inl (g.X.cI, 60, .inl (w_tx_parts' 0))), (q_t_w_tx1, .inr (3, [.ref q_t_w_tx1_parts, .ref q_t_w_tx1_stack, .int (w_tx_size' 1)])), (q_t_w_tx1_parts, .inl (g.X.cI, 60, .inl (w_tx_parts' 1))), (q_t_errors, .inl (g.X.cI, 7, .inl c_errors')), (q_t_r, .inr (0, [.ref q_t_r_md, .ref q_t_r_tape, .int r_bytes', .int r_place', .int r_use', .int r_failed'])), (q_t_r_md, .inr (3, [.ref q_t_r_md_parts, .ref q_t_r_md_stack, .int r_md_size'])), (q_t_r_md_parts, .inl (g.X.cI, 60, .inl r_md_parts')), (q_t_r_tape, .inl (g.X.cI, 60, .inl r_tape'))])) (h : wp_X6_text x1 w_bytes w_tape w_tx_size w_tx_parts c_errors r_bytes r_place r_use r_failed r_md_size r_md_parts r_tape Q) : ST g 0 0 0 [(0, .ref q_t), (1, .int x1)] [] [(q_t, .inr (6, [.ref q_t_w, .ref q_t_k, .int c_images, .ref q_t_errors, .ref q_t_sheets, .ref q_t_r, .ref q_t_th, .ref q_t_sp])), (q_t_w, .inr (5, [.int w_people, .ref q_t_w_km, .ref q_t_w_father, .ref q_t_w_mother, .ref q_t_w_from, .ref q_t_w_spoons, .ref q_t_w_owed, .int w_year, .int w_z, .ref q_t_w_tape, .int w_bytes, .ref q_t_w_tx0, .ref q_t_w_tx1, .ref q_t_w_waiting, .int w_waits])), (q_t_w_tape, .inl (g.X.cI, 60, .inl w_tape)), (q_t_w_tx0, .inr (3, [.ref q_t_w_tx0_parts, .ref q_t_w_tx0_stack, .int (w_tx_size 0)])), (q_t_w_tx0_parts, .inl (g.X.cI, 60, .inl (w_tx_parts 0))), (q_t_w_tx1, .inr (3, [.ref q_t_w_tx1_parts, .ref q_t_w_tx1_stack, .int (w_tx_size 1)])), (q_t_w_tx1_parts, .inl (g.X.cI, 60, .inl (w_tx_parts 1))), (q_t_errors, .inl (g.X.cI, 7, .inl c_errors)), (q_t_r, .inr (0, [.ref q_t_r_md, .ref q_t_r_tape, .int r_bytes, .int r_place, .int r_use, .int r_failed])), (q_t_r_md, .inr (3, [.ref q_t_r_md_parts, .ref q_t_r_md_stack, .int r_md_size])), (q_t_r_md_parts, .inl (g.X.cI, 60, .inl r_md_parts)), (q_t_r_tape, .inl (g.X.cI, 60, .inl r_tape))] := by
  unfold wp_X6_text at h
  refine st_iload_n G 1 rfl 1 rfl dX6_text_0 rfl ?_
  refine st_cSio G lk_X6_146 (c_X6_notUse g.l g.D g.X x1 _ h) ⟨rfl, rfl, ⟨Nat.le_of_ble_eq_true rfl, Nat.le_of_ble_eq_true rfl⟩, Nat.zero_le _, Nat.zero_le _⟩ 4 rfl [] rfl (by decide) rfl (Nat.le_of_ble_eq_true rfl) rfl dX6_text_1 (fun r_1 h => ?_)
  refine st_if_eq G 13 7 rfl dX6_text_4 rfl (fun c => ?_) (fun c => ?_)
  · have h := h.1 c
    refine st_aload_n G 14 rfl 0 rfl dX6_text_13 rfl ?_
    refine st_get G inX6 rfl 5 (by decide) wd_27 17 rfl 0 rfl rfl dX6_text_14 ?_
    refine st_aload_n G 18 rfl 0 rfl dX6_text_17 rfl ?_
    refine st_get G inX6 rfl 0 (by decide) wd_16 21 rfl 0 rfl rfl dX6_text_18 ?_
    refine st_iload_n G 22 rfl 1 rfl dX6_text_21 rfl ?_
    refine st_cVi G lk_X6_149 (c_X0_faultOf g.l g.D g.X q_t_r q_t_r_md q_t_r_md_parts q_t_r_md_stack q_t_r_tape q_t_w q_t_w_km q_t_w_father q_t_w_mother q_t_w_from q_t_w_spoons q_t_w_owed q_t_w_tape q_t_w_tx0 q_t_w_tx1 q_t_w_waiting r_bytes r_place r_use r_failed r_md_size r_md_parts r_tape w_people w_year w_z w_bytes w_waits w_tape x1 _ h) ⟨rfl, rfl, ⟨Nat.le_of_ble_eq_true rfl, Nat.le_of_ble_eq_true rfl⟩, Nat.zero_le _, Nat.zero_le _⟩ 25 rfl [8, 9, 10, 11, 1, 2] rfl (by decide) 0 0 rfl rfl rfl (Nat.le_of_ble_eq_true rfl) rfl dX6_text_22 (fun r_22 w hq => ?_)
    obtain ⟨r_bytes_22, r_place_22, r_use_22, r_failed_22, r_md_size_22, r_md_parts_22, r_tape_22, h, rfl⟩ := hq
    refine st_wp (ws' := [(q_t, .inr (6, [.ref q_t_w, .ref q_t_k, .int c_images, .ref q_t_errors, .ref q_t_sheets, .ref q_t_r, .ref q_t_th, .ref q_t_sp])), (q_t_w, .inr (5, [.int w_people, .ref q_t_w_km, .ref q_t_w_father, .ref q_t_w_mother, .ref q_t_w_from, .ref q_t_w_spoons, .ref q_t_w_owed, .int w_year, .int w_z, .ref q_t_w_tape, .int w_bytes, .ref q_t_w_tx0, .ref q_t_w_tx1, .ref q_t_w_waiting, .int w_waits])), (q_t_w_tape, .inl (g.X.cI, 60, .inl w_tape)), (q_t_w_tx0, .inr (3, [.ref q_t_w_tx0_parts, .ref q_t_w_tx0_stack, .int (w_tx_size 0)])), (q_t_w_tx0_parts, .inl (g.X.cI, 60, .inl (w_tx_parts 0))), (q_t_w_tx1, .inr (3, [.ref q_t_w_tx1_parts, .ref q_t_w_tx1_stack, .int (w_tx_size 1)])), (q_t_w_tx1_parts, .inl (g.X.cI, 60, .inl (w_tx_parts 1))), (q_t_errors, .inl (g.X.cI, 7, .inl c_errors)), (q_t_r, .inr (0, [.ref q_t_r_md, .ref q_t_r_tape, .int r_bytes_22, .int r_place_22, .int r_use_22, .int r_failed_22])), (q_t_r_md, .inr (3, [.ref q_t_r_md_parts, .ref q_t_r_md_stack, .int r_md_size_22])), (q_t_r_md_parts, .inl (g.X.cI, 60, .inl r_md_parts_22)), (q_t_r_tape, .inl (g.X.cI, 60, .inl r_tape_22))]) 12 [0, 3, 4, 5, 6, 7] (by decide) rfl rfl (by rfl) [(q_t, .inr (6, [.ref q_t_w, .ref q_t_k, .int c_images, .ref q_t_errors, .ref q_t_sheets, .ref q_t_r, .ref q_t_th, .ref q_t_sp])), (q_t_w_tx0, .inr (3, [.ref q_t_w_tx0_parts, .ref q_t_w_tx0_stack, .int (w_tx_size 0)])), (q_t_w_tx0_parts, .inl (g.X.cI, 60, .inl (w_tx_parts 0))), (q_t_w_tx1, .inr (3, [.ref q_t_w_tx1_parts, .ref q_t_w_tx1_stack, .int (w_tx_size 1)])), (q_t_w_tx1_parts, .inl (g.X.cI, 60, .inl (w_tx_parts 1))), (q_t_errors, .inl (g.X.cI, 7, .inl c_errors))] (by rfl) rfl ?_
    refine st_istore_n G 26 rfl [(2, .int r_22), (0, .ref q_t), (1, .int x1)] dX6_text_25 rfl (by decide) rfl ?_
    refine st_aload_n G 27 rfl 1 rfl dX6_text_26 rfl ?_
    refine st_get G inX6 rfl 0 (by decide) wd_16 30 rfl 0 rfl rfl dX6_text_27 ?_
    refine st_iconst G 31 rfl (0 : Int32) (by decide) dX6_text_30 ?_
    refine st_put G inX5 tyX5 tyX5_ok nmX5 rfl 10 (by decide) wd_420 rfl [(q_t, .inr (6, [.ref q_t_w, .ref q_t_k, .int c_images, .ref q_t_errors, .ref q_t_sheets, .ref q_t_r, .ref q_t_th, .ref q_t_sp])), (q_t_w, .inr (5, [.int w_people, .ref q_t_w_km, .ref q_t_w_father, .ref q_t_w_mother, .ref q_t_w_from, .ref q_t_w_spoons, .ref q_t_w_owed, .int w_year, .int w_z, .ref q_t_w_tape, .int (0 : Int32), .ref q_t_w_tx0, .ref q_t_w_tx1, .ref q_t_w_waiting, .int w_waits])), (q_t_w_tape, .inl (g.X.cI, 60, .inl w_tape)), (q_t_w_tx0, .inr (3, [.ref q_t_w_tx0_parts, .ref q_t_w_tx0_stack, .int (w_tx_size 0)])), (q_t_w_tx0_parts, .inl (g.X.cI, 60, .inl (w_tx_parts 0))), (q_t_w_tx1, .inr (3, [.ref q_t_w_tx1_parts, .ref q_t_w_tx1_stack, .int (w_tx_size 1)])), (q_t_w_tx1_parts, .inl (g.X.cI, 60, .inl (w_tx_parts 1))), (q_t_errors, .inl (g.X.cI, 7, .inl c_errors)), (q_t_r, .inr (0, [.ref q_t_r_md, .ref q_t_r_tape, .int r_bytes_22, .int r_place_22, .int r_use_22, .int r_failed_22])), (q_t_r_md, .inr (3, [.ref q_t_r_md_parts, .ref q_t_r_md_stack, .int r_md_size_22])), (q_t_r_md_parts, .inl (g.X.cI, 60, .inl r_md_parts_22)), (q_t_r_tape, .inl (g.X.cI, 60, .inl r_tape_22))] 34 rfl 1 rfl rfl rfl (Nat.le_of_ble_eq_true rfl) rfl dX6_text_31 ?_
    refine st_iload_n G 35 rfl 0 rfl dX6_text_34 rfl ?_
    refine st_if_lt G 43 38 rfl dX6_text_35 rfl (fun c => ?_) (fun c => ?_)
    · have h := h.1 c
      refine st_aload_n G 44 rfl 1 rfl dX6_text_43 rfl ?_
      refine st_get G inX6 rfl 0 (by decide) wd_16 47 rfl 0 rfl rfl dX6_text_44 ?_
      refine st_iload_n G 48 rfl 2 rfl dX6_text_47 rfl ?_
      refine st_cVao G lk_X6_153 (c_X5_textOf g.l g.D g.X q_t_w q_t_w_km q_t_w_father q_t_w_mother q_t_w_from q_t_w_spoons q_t_w_owed q_t_w_tape q_t_w_tx0 q_t_w_tx1 q_t_w_waiting w_people w_year w_z (0 : Int32) w_waits x1 _ h) ⟨rfl, rfl, ⟨Nat.le_of_ble_eq_true rfl, Nat.le_of_ble_eq_true rfl⟩, Nat.zero_le _, Nat.zero_le _⟩ 51 rfl [1] rfl (by decide) 0 5 rfl rfl rfl (Nat.le_of_ble_eq_true rfl) rfl dX6_text_48 (fun r hq => ?_)
      obtain ⟨hk, h⟩ := hq
      rcases hk with rfl | rfl
      · refine st_S (S' := [.ref q_t_w_tx0]) rfl ?_
        refine st_aload_n G 52 rfl 1 rfl dX6_text_51 rfl ?_
        refine st_get G inX6 rfl 5 (by decide) wd_27 55 rfl 0 rfl rfl dX6_text_52 ?_
        refine st_get G inX0 rfl 0 (by decide) wd_431 58 rfl 8 rfl rfl dX6_text_55 ?_
        refine st_cVv G lk_X6_161 (c_X3_copyFrom g.l g.D g.X q_t_w_tx0 q_t_w_tx0_parts q_t_w_tx0_stack q_t_r_md q_t_r_md_parts q_t_r_md_stack (w_tx_size 0) (w_tx_parts 0) r_md_size_22 r_md_parts_22 _ h) ⟨rfl, rfl, ⟨Nat.le_of_ble_eq_true rfl, Nat.le_of_ble_eq_true rfl⟩, Nat.zero_le _, Nat.zero_le _⟩ 61 rfl [3, 4, 9, 10] rfl (by decide) 0 3 rfl rfl rfl (Nat.le_of_ble_eq_true rfl) rfl dX6_text_58 (fun w hq => ?_)
        obtain ⟨o_58_size, o_58_parts, h, rfl⟩ := hq
        obtain ⟨w_tx_size_58, ew_tx_size_58⟩ : ∃ y : Nat → Int32, y = va_up w_tx_size 0 o_58_size := ⟨_, rfl⟩
        have h := h w_tx_size_58 ew_tx_size_58
        obtain ⟨w_tx_parts_58, ew_tx_parts_58⟩ : ∃ y : Nat → Nat → Int32, y = va_up w_tx_parts 0 o_58_parts := ⟨_, rfl⟩
        have h := h w_tx_parts_58 ew_tx_parts_58
        refine st_wp (ws' := [(q_t, .inr (6, [.ref q_t_w, .ref q_t_k, .int c_images, .ref q_t_errors, .ref q_t_sheets, .ref q_t_r, .ref q_t_th, .ref q_t_sp])), (q_t_w, .inr (5, [.int w_people, .ref q_t_w_km, .ref q_t_w_father, .ref q_t_w_mother, .ref q_t_w_from, .ref q_t_w_spoons, .ref q_t_w_owed, .int w_year, .int w_z, .ref q_t_w_tape, .int (0 : Int32), .ref q_t_w_tx0, .ref q_t_w_tx1, .ref q_t_w_waiting, .int w_waits])), (q_t_w_tape, .inl (g.X.cI, 60, .inl w_tape)), (q_t_w_tx0, .inr (3, [.ref q_t_w_tx0_parts, .ref q_t_w_tx0_stack, .int (w_tx_size_58 0)])), (q_t_w_tx0_parts, .inl (g.X.cI, 60, .inl (w_tx_parts_58 0))), (q_t_w_tx1, .inr (3, [.ref q_t_w_tx1_parts, .ref q_t_w_tx1_stack, .int (w_tx_size_58 1)])), (q_t_w_tx1_parts, .inl (g.X.cI, 60, .inl (w_tx_parts_58 1))), (q_t_errors, .inl (g.X.cI, 7, .inl c_errors)), (q_t_r, .inr (0, [.ref q_t_r_md, .ref q_t_r_tape, .int r_bytes_22, .int r_place_22, .int r_use_22, .int r_failed_22])), (q_t_r_md, .inr (3, [.ref q_t_r_md_parts, .ref q_t_r_md_stack, .int r_md_size_22])), (q_t_r_md_parts, .inl (g.X.cI, 60, .inl r_md_parts_22)), (q_t_r_tape, .inl (g.X.cI, 60, .inl r_tape_22))]) 12 [0, 1, 2, 5, 6, 7, 8, 11] (by decide) rfl rfl (by subst ew_tx_size_58; subst ew_tx_parts_58; rfl) [(q_t, .inr (6, [.ref q_t_w, .ref q_t_k, .int c_images, .ref q_t_errors, .ref q_t_sheets, .ref q_t_r, .ref q_t_th, .ref q_t_sp])), (q_t_w, .inr (5, [.int w_people, .ref q_t_w_km, .ref q_t_w_father, .ref q_t_w_mother, .ref q_t_w_from, .ref q_t_w_spoons, .ref q_t_w_owed, .int w_year, .int w_z, .ref q_t_w_tape, .int (0 : Int32), .ref q_t_w_tx0, .ref q_t_w_tx1, .ref q_t_w_waiting, .int w_waits])), (q_t_w_tape, .inl (g.X.cI, 60, .inl w_tape)), (q_t_w_tx1, .inr (3, [.ref q_t_w_tx1_parts, .ref q_t_w_tx1_stack, .int (w_tx_size 1)])), (q_t_w_tx1_parts, .inl (g.X.cI, 60, .inl (w_tx_parts 1))), (q_t_errors, .inl (g.X.cI, 7, .inl c_errors)), (q_t_r, .inr (0, [.ref q_t_r_md, .ref q_t_r_tape, .int r_bytes_22, .int r_place_22, .int r_use_22, .int r_failed_22])), (q_t_r_tape, .inl (g.X.cI, 60, .inl r_tape_22))] (by subst ew_tx_size_58; subst ew_tx_parts_58; rfl) rfl ?_
        refine st_iconst G 62 rfl (1 : Int32) (by decide) dX6_text_61 ?_
        exact R _ _ _ _ dX6_text_62 (Nat.le_of_ble_eq_true rfl) ⟨_, _, _, _, _, _, _, _, _, _, _, h, rfl⟩
      · refine st_S (S' := [.ref q_t_w_tx1]) rfl ?_
        refine st_aload_n G 52 rfl 1 rfl dX6_text_51 rfl ?_
        refine st_get G inX6 rfl 5 (by decide) wd_27 55 rfl 0 rfl rfl dX6_text_52 ?_
        refine st_get G inX0 rfl 0 (by decide) wd_431 58 rfl 8 rfl rfl dX6_text_55 ?_
        refine st_cVv G lk_X6_161 (c_X3_copyFrom g.l g.D g.X q_t_w_tx1 q_t_w_tx1_parts q_t_w_tx1_stack q_t_r_md q_t_r_md_parts q_t_r_md_stack (w_tx_size 1) (w_tx_parts 1) r_md_size_22 r_md_parts_22 _ h) ⟨rfl, rfl, ⟨Nat.le_of_ble_eq_true rfl, Nat.le_of_ble_eq_true rfl⟩, Nat.zero_le _, Nat.zero_le _⟩ 61 rfl [5, 6, 9, 10] rfl (by decide) 0 3 rfl rfl rfl (Nat.le_of_ble_eq_true rfl) rfl dX6_text_58 (fun w hq => ?_)
        obtain ⟨o_58_size, o_58_parts, h, rfl⟩ := hq
        obtain ⟨w_tx_size_58, ew_tx_size_58⟩ : ∃ y : Nat → Int32, y = va_up w_tx_size 1 o_58_size := ⟨_, rfl⟩
        have h := h w_tx_size_58 ew_tx_size_58
        obtain ⟨w_tx_parts_58, ew_tx_parts_58⟩ : ∃ y : Nat → Nat → Int32, y = va_up w_tx_parts 1 o_58_parts := ⟨_, rfl⟩
        have h := h w_tx_parts_58 ew_tx_parts_58
        refine st_wp (ws' := [(q_t, .inr (6, [.ref q_t_w, .ref q_t_k, .int c_images, .ref q_t_errors, .ref q_t_sheets, .ref q_t_r, .ref q_t_th, .ref q_t_sp])), (q_t_w, .inr (5, [.int w_people, .ref q_t_w_km, .ref q_t_w_father, .ref q_t_w_mother, .ref q_t_w_from, .ref q_t_w_spoons, .ref q_t_w_owed, .int w_year, .int w_z, .ref q_t_w_tape, .int (0 : Int32), .ref q_t_w_tx0, .ref q_t_w_tx1, .ref q_t_w_waiting, .int w_waits])), (q_t_w_tape, .inl (g.X.cI, 60, .inl w_tape)), (q_t_w_tx0, .inr (3, [.ref q_t_w_tx0_parts, .ref q_t_w_tx0_stack, .int (w_tx_size_58 0)])), (q_t_w_tx0_parts, .inl (g.X.cI, 60, .inl (w_tx_parts_58 0))), (q_t_w_tx1, .inr (3, [.ref q_t_w_tx1_parts, .ref q_t_w_tx1_stack, .int (w_tx_size_58 1)])), (q_t_w_tx1_parts, .inl (g.X.cI, 60, .inl (w_tx_parts_58 1))), (q_t_errors, .inl (g.X.cI, 7, .inl c_errors)), (q_t_r, .inr (0, [.ref q_t_r_md, .ref q_t_r_tape, .int r_bytes_22, .int r_place_22, .int r_use_22, .int r_failed_22])), (q_t_r_md, .inr (3, [.ref q_t_r_md_parts, .ref q_t_r_md_stack, .int r_md_size_22])), (q_t_r_md_parts, .inl (g.X.cI, 60, .inl r_md_parts_22)), (q_t_r_tape, .inl (g.X.cI, 60, .inl r_tape_22))]) 12 [0, 1, 2, 3, 4, 7, 8, 11] (by decide) rfl rfl (by subst ew_tx_size_58; subst ew_tx_parts_58; rfl) [(q_t, .inr (6, [.ref q_t_w, .ref q_t_k, .int c_images, .ref q_t_errors, .ref q_t_sheets, .ref q_t_r, .ref q_t_th, .ref q_t_sp])), (q_t_w, .inr (5, [.int w_people, .ref q_t_w_km, .ref q_t_w_father, .ref q_t_w_mother, .ref q_t_w_from, .ref q_t_w_spoons, .ref q_t_w_owed, .int w_year, .int w_z, .ref q_t_w_tape, .int (0 : Int32), .ref q_t_w_tx0, .ref q_t_w_tx1, .ref q_t_w_waiting, .int w_waits])), (q_t_w_tape, .inl (g.X.cI, 60, .inl w_tape)), (q_t_w_tx0, .inr (3, [.ref q_t_w_tx0_parts, .ref q_t_w_tx0_stack, .int (w_tx_size 0)])), (q_t_w_tx0_parts, .inl (g.X.cI, 60, .inl (w_tx_parts 0))), (q_t_errors, .inl (g.X.cI, 7, .inl c_errors)), (q_t_r, .inr (0, [.ref q_t_r_md, .ref q_t_r_tape, .int r_bytes_22, .int r_place_22, .int r_use_22, .int r_failed_22])), (q_t_r_tape, .inl (g.X.cI, 60, .inl r_tape_22))] (by subst ew_tx_size_58; subst ew_tx_parts_58; rfl) rfl ?_
        refine st_iconst G 62 rfl (1 : Int32) (by decide) dX6_text_61 ?_
        exact R _ _ _ _ dX6_text_62 (Nat.le_of_ble_eq_true rfl) ⟨_, _, _, _, _, _, _, _, _, _, _, h, rfl⟩
    have h := h.2 c
    refine st_bipush G 40 rfl (-10 : Int32) (by decide) dX6_text_38 ?_
    refine st_iload_n G 41 rfl 0 rfl dX6_text_40 rfl ?_
    refine st_isub G 42 rfl dX6_text_41 ?_
    exact R _ _ _ _ dX6_text_42 (Nat.le_of_ble_eq_true rfl) ⟨_, _, _, _, _, _, _, _, _, _, _, h, rfl⟩
  have h := h.2 c
  refine st_aload_n G 8 rfl 0 rfl dX6_text_7 rfl ?_
  refine st_iconst G 9 rfl (1 : Int32) (by decide) dX6_text_8 ?_
  refine st_cVi G lk_X6_55 (c_X6_error g.l g.D g.X q_t q_t_w q_t_k q_t_errors q_t_sheets q_t_r q_t_th q_t_sp c_images c_errors (1 : Int32) _ h) ⟨rfl, rfl, ⟨Nat.le_of_ble_eq_true rfl, Nat.le_of_ble_eq_true rfl⟩, Nat.zero_le _, Nat.zero_le _⟩ 12 rfl [0, 7] rfl (by decide) 0 6 rfl rfl rfl (Nat.le_of_ble_eq_true rfl) rfl dX6_text_9 (fun r_9 w hq => ?_)
  obtain ⟨c_errors_9, h, rfl⟩ := hq
  refine st_wp (ws' := [(q_t, .inr (6, [.ref q_t_w, .ref q_t_k, .int c_images, .ref q_t_errors, .ref q_t_sheets, .ref q_t_r, .ref q_t_th, .ref q_t_sp])), (q_t_w, .inr (5, [.int w_people, .ref q_t_w_km, .ref q_t_w_father, .ref q_t_w_mother, .ref q_t_w_from, .ref q_t_w_spoons, .ref q_t_w_owed, .int w_year, .int w_z, .ref q_t_w_tape, .int w_bytes, .ref q_t_w_tx0, .ref q_t_w_tx1, .ref q_t_w_waiting, .int w_waits])), (q_t_w_tape, .inl (g.X.cI, 60, .inl w_tape)), (q_t_w_tx0, .inr (3, [.ref q_t_w_tx0_parts, .ref q_t_w_tx0_stack, .int (w_tx_size 0)])), (q_t_w_tx0_parts, .inl (g.X.cI, 60, .inl (w_tx_parts 0))), (q_t_w_tx1, .inr (3, [.ref q_t_w_tx1_parts, .ref q_t_w_tx1_stack, .int (w_tx_size 1)])), (q_t_w_tx1_parts, .inl (g.X.cI, 60, .inl (w_tx_parts 1))), (q_t_errors, .inl (g.X.cI, 7, .inl c_errors_9)), (q_t_r, .inr (0, [.ref q_t_r_md, .ref q_t_r_tape, .int r_bytes, .int r_place, .int r_use, .int r_failed])), (q_t_r_md, .inr (3, [.ref q_t_r_md_parts, .ref q_t_r_md_stack, .int r_md_size])), (q_t_r_md_parts, .inl (g.X.cI, 60, .inl r_md_parts)), (q_t_r_tape, .inl (g.X.cI, 60, .inl r_tape))]) 12 [1, 2, 3, 4, 5, 6, 8, 9, 10, 11] (by decide) rfl rfl (by rfl) [(q_t_w, .inr (5, [.int w_people, .ref q_t_w_km, .ref q_t_w_father, .ref q_t_w_mother, .ref q_t_w_from, .ref q_t_w_spoons, .ref q_t_w_owed, .int w_year, .int w_z, .ref q_t_w_tape, .int w_bytes, .ref q_t_w_tx0, .ref q_t_w_tx1, .ref q_t_w_waiting, .int w_waits])), (q_t_w_tape, .inl (g.X.cI, 60, .inl w_tape)), (q_t_w_tx0, .inr (3, [.ref q_t_w_tx0_parts, .ref q_t_w_tx0_stack, .int (w_tx_size 0)])), (q_t_w_tx0_parts, .inl (g.X.cI, 60, .inl (w_tx_parts 0))), (q_t_w_tx1, .inr (3, [.ref q_t_w_tx1_parts, .ref q_t_w_tx1_stack, .int (w_tx_size 1)])), (q_t_w_tx1_parts, .inl (g.X.cI, 60, .inl (w_tx_parts 1))), (q_t_r, .inr (0, [.ref q_t_r_md, .ref q_t_r_tape, .int r_bytes, .int r_place, .int r_use, .int r_failed])), (q_t_r_md, .inr (3, [.ref q_t_r_md_parts, .ref q_t_r_md_stack, .int r_md_size])), (q_t_r_md_parts, .inl (g.X.cI, 60, .inl r_md_parts)), (q_t_r_tape, .inl (g.X.cI, 60, .inl r_tape))] (by rfl) rfl ?_
  exact R _ _ _ _ dX6_text_12 (Nat.le_of_ble_eq_true rfl) ⟨_, _, _, _, _, _, _, _, _, _, _, h, rfl⟩
set_option maxRecDepth 100000 in
set_option maxHeartbeats 4000000 in
theorem c_X6_text (l : Launch) (D : va_G) (X : XT) (q_t q_t_w q_t_w_km q_t_w_father q_t_w_mother q_t_w_from q_t_w_spoons q_t_w_owed q_t_w_tape q_t_w_tx0 q_t_w_tx0_parts q_t_w_tx0_stack q_t_w_tx1 q_t_w_tx1_parts q_t_w_tx1_stack q_t_w_waiting q_t_k q_t_errors q_t_sheets q_t_r q_t_r_md q_t_r_md_parts q_t_r_md_stack q_t_r_tape q_t_th q_t_sp : Nat) (c_images : Int32) (w_people : Int32) (w_year : Int32) (w_z : Int32) (w_bytes : Int32) (w_waits : Int32) (w_tape : Nat → Int32) (w_tx_size : Nat → Int32) (w_tx_parts : Nat → Nat → Int32) (c_errors : Nat → Int32) (r_bytes : Int32) (r_place : Int32) (r_use : Int32) (r_failed : Int32) (r_md_size : Int32) (r_md_parts : Nat → Int32) (r_tape : Nat → Int32) (x1 : Int32) (Q : Int32 → (Int32) → (Nat → Int32) → (Nat → Nat → Int32) → (Nat → Int32) → (Int32) → (Int32) → (Int32) → (Int32) → (Int32) → (Nat → Int32) → (Nat → Int32) → Prop) (h : wp_X6_text x1 w_bytes w_tape w_tx_size w_tx_parts c_errors r_bytes r_place r_use r_failed r_md_size r_md_parts r_tape Q) : CTi l D X yX6_text cX6_text 3 .int rm_X6_text [.ref q_t, .int x1] [(q_t, .inr (6, [.ref q_t_w, .ref q_t_k, .int c_images, .ref q_t_errors, .ref q_t_sheets, .ref q_t_r, .ref q_t_th, .ref q_t_sp])), (q_t_w, .inr (5, [.int w_people, .ref q_t_w_km, .ref q_t_w_father, .ref q_t_w_mother, .ref q_t_w_from, .ref q_t_w_spoons, .ref q_t_w_owed, .int w_year, .int w_z, .ref q_t_w_tape, .int w_bytes, .ref q_t_w_tx0, .ref q_t_w_tx1, .ref q_t_w_waiting, .int w_waits])), (q_t_w_tape, .inl (X.cI, 60, .inl w_tape)), (q_t_w_tx0, .inr (3, [.ref q_t_w_tx0_parts, .ref q_t_w_tx0_stack, .int (w_tx_size 0)])), (q_t_w_tx0_parts, .inl (X.cI, 60, .inl (w_tx_parts 0))), (q_t_w_tx1, .inr (3, [.ref q_t_w_tx1_parts, .ref q_t_w_tx1_stack, .int (w_tx_size 1)])), (q_t_w_tx1_parts, .inl (X.cI, 60, .inl (w_tx_parts 1))), (q_t_errors, .inl (X.cI, 7, .inl c_errors)), (q_t_r, .inr (0, [.ref q_t_r_md, .ref q_t_r_tape, .int r_bytes, .int r_place, .int r_use, .int r_failed])), (q_t_r_md, .inr (3, [.ref q_t_r_md_parts, .ref q_t_r_md_stack, .int r_md_size])), (q_t_r_md_parts, .inl (X.cI, 60, .inl r_md_parts)), (q_t_r_tape, .inl (X.cI, 60, .inl r_tape))] (fun (r : Int32) w => ∃ (w_bytes' : Int32) (w_tx_size' : Nat → Int32) (w_tx_parts' : Nat → Nat → Int32) (c_errors' : Nat → Int32) (r_bytes' : Int32) (r_place' : Int32) (r_use' : Int32) (r_failed' : Int32) (r_md_size' : Int32) (r_md_parts' : Nat → Int32) (r_tape' : Nat → Int32), Q r w_bytes' w_tx_size' w_tx_parts' c_errors' r_bytes' r_place' r_use' r_failed' r_md_size' r_md_parts' r_tape' ∧ w = [(q_t, .inr (6, [.ref q_t_w, .ref q_t_k, .int c_images, .ref q_t_errors, .ref q_t_sheets, .ref q_t_r, .ref q_t_th, .ref q_t_sp])), (q_t_w, .inr (5, [.int w_people, .ref q_t_w_km, .ref q_t_w_father, .ref q_t_w_mother, .ref q_t_w_from, .ref q_t_w_spoons, .ref q_t_w_owed, .int w_year, .int w_z, .ref q_t_w_tape, .int w_bytes', .ref q_t_w_tx0, .ref q_t_w_tx1, .ref q_t_w_waiting, .int w_waits])), (q_t_w_tape, .inl (X.cI, 60, .inl w_tape)), (q_t_w_tx0, .inr (3, [.ref q_t_w_tx0_parts, .ref q_t_w_tx0_stack, .int (w_tx_size' 0)])), (q_t_w_tx0_parts, .inl (X.cI, 60, .inl (w_tx_parts' 0))), (q_t_w_tx1, .inr (3, [.ref q_t_w_tx1_parts, .ref q_t_w_tx1_stack, .int (w_tx_size' 1)])), (q_t_w_tx1_parts, .inl (X.cI, 60, .inl (w_tx_parts' 1))), (q_t_errors, .inl (X.cI, 7, .inl c_errors')), (q_t_r, .inr (0, [.ref q_t_r_md, .ref q_t_r_tape, .int r_bytes', .int r_place', .int r_use', .int r_failed'])), (q_t_r_md, .inr (3, [.ref q_t_r_md_parts, .ref q_t_r_md_stack, .int r_md_size'])), (q_t_r_md_parts, .inl (X.cI, 60, .inl r_md_parts')), (q_t_r_tape, .inl (X.cI, 60, .inl r_tape'))]) :=
  ct_i (by decide) (Nat.le_of_ble_eq_true rfl) (fun g hl hD hX G R => by subst hl; subst hD; subst hX; exact b_X6_text_e G R h)
