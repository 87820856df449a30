set_option maxRecDepth 100000 in
set_option maxHeartbeats 4000000 in
theorem b_X2_say_54 {g : GT} {d : Nat} {F_X2_say : Int32 → Int32 → Int32 → Int32 → (Int32) → (Int32) → (Int32) → (Int32) → (Int32) → (Nat → Int32) → (Int32 → (Int32) → (Int32) → (Nat → Int32) → Prop) → Prop} {F_X2_worked : Int32 → Int32 → Int32 → Int32 → (Int32) → (Int32) → (Int32) → (Int32) → (Int32) → (Nat → Int32) → (Int32 → (Int32) → (Int32) → (Nat → Int32) → Prop) → Prop} (G : GOOD g RX2 cX2_say 7 (rm_X2_say (d + 1))) {q_t q_t_bodies : Nat} {c_k : Int32} {c_m : Int32} {c_own : Int32} {Q : Int32 → (Int32) → (Int32) → (Nat → Int32) → Prop} (R : RETi g cX2_say 2 (fun (r : Int32) w => ∃ (c_begun' : Int32) (c_parted' : Int32) (c_bodies' : Nat → Int32), Q r c_begun' c_parted' c_bodies' ∧ w = [(q_t, .inr (2, [.ref q_t_bodies, .int c_begun', .int c_parted', .int c_k, .int c_m, .int c_own])), (q_t_bodies, .inl (g.X.cI, 30, .inl c_bodies'))])) (hF_X2_say : ∀ (q_t q_t_bodies : Nat) (c_begun : Int32) (c_parted : Int32) (c_k : Int32) (c_m : Int32) (c_own : Int32) (c_bodies : Nat → Int32) (x1 : Int32) (x2 : Int32) (x3 : Int32) (x4 : Int32) (Q : Int32 → (Int32) → (Int32) → (Nat → Int32) → Prop), F_X2_say x1 x2 x3 x4 c_begun c_parted c_k c_m c_own c_bodies Q → CTi g.l g.D g.X yX2_say cX2_say 7 .int (rm_X2_say d) [.ref q_t, .int x1, .int x2, .int x3, .int x4] [(q_t, .inr (2, [.ref q_t_bodies, .int c_begun, .int c_parted, .int c_k, .int c_m, .int c_own])), (q_t_bodies, .inl (g.X.cI, 30, .inl c_bodies))] (fun (r : Int32) w => ∃ (c_begun' : Int32) (c_parted' : Int32) (c_bodies' : Nat → Int32), Q r c_begun' c_parted' c_bodies' ∧ w = [(q_t, .inr (2, [.ref q_t_bodies, .int c_begun', .int c_parted', .int c_k, .int c_m, .int c_own])), (q_t_bodies, .inl (g.X.cI, 30, .inl c_bodies'))])) (hF_X2_worked : ∀ (q_t q_t_bodies : Nat) (c_begun : Int32) (c_parted : Int32) (c_k : Int32) (c_m : Int32) (c_own : Int32) (c_bodies : Nat → Int32) (x1 : Int32) (x2 : Int32) (x3 : Int32) (x4 : Int32) (Q : Int32 → (Int32) → (Int32) → (Nat → Int32) → Prop), F_X2_worked x1 x2 x3 x4 c_begun c_parted c_k c_m c_own c_bodies Q → CTi g.l g.D g.X yX2_worked cX2_worked 5 .int (rm_X2_say d) [.ref q_t, .int x1, .int x2, .int x3, .int x4] [(q_t, .inr (2, [.ref q_t_bodies, .int c_begun, .int c_parted, .int c_k, .int c_m, .int c_own])), (q_t_bodies, .inl (g.X.cI, 30, .inl c_bodies))] (fun (r : Int32) w => ∃ (c_begun' : Int32) (c_parted' : Int32) (c_bodies' : Nat → Int32), Q r c_begun' c_parted' c_bodies' ∧ w = [(q_t, .inr (2, [.ref q_t_bodies, .int c_begun', .int c_parted', .int c_k, .int c_m, .int c_own])), (q_t_bodies, .inl (g.X.cI, 30, .inl c_bodies'))])) {x1 : Int32} {x3 : Int32} {x4 : Int32} {x5 : Int32} {c_begun : Int32} {c_parted : Int32} {c_bodies : Nat → Int32} (h : wp_X2_say_b54 F_X2_say F_X2_worked Q c_k c_m c_own x1 x3 x4 x5 c_begun c_parted c_bodies) : ST g 0 0 54 [(0, .ref q_t), (1, .int x1), (3, .int x3), (4, .int x4), (5, .int x5)] [] [(q_t, .inr (2, [.ref q_t_bodies, .int c_begun, .int c_parted, .int c_k, .int c_m, .int c_own])), (q_t_bodies, .inl (g.X.cI, 30, .inl c_bodies))] := by
  unfold wp_X2_say_b54 at h
  refine st_iload G 56 rfl 4 rfl dX2_say_54 ?_
  refine st_if_lt G 66 59 rfl dX2_say_56 rfl (fun c => ?_) (fun c => ?_)
  · have h := h.1 c
    refine st_iconst G 67 rfl (0 : Int32) (by decide) dX2_say_66 ?_
    exact R _ _ _ _ dX2_say_67 (Nat.le_of_ble_eq_true rfl) ⟨_, _, _, h, rfl⟩
  have h := h.2 c
  refine st_iload G 61 rfl 3 rfl dX2_say_59 ?_
  refine st_bipush G 63 rfl (20 : Int32) (by decide) dX2_say_61 ?_
  refine st_icmp_lt G 68 66 rfl dX2_say_63 rfl (fun c => ?_) (fun c => ?_)
  · have h := h.1 c
    refine st_getBN G (by decide) 71 rfl dX2_say_68 ?_
    refine st_iload G 73 rfl 4 rfl dX2_say_71 ?_
    refine st_iconst G 74 rfl (4 : Int32) (by decide) dX2_say_73 ?_
    refine st_imul G 75 rfl dX2_say_74 ?_
    refine st_iload_n G 76 rfl 1 rfl dX2_say_75 rfl ?_
    refine st_iadd G 77 rfl dX2_say_76 ?_
    obtain ⟨hin, h⟩ := h
    refine st_aldB G 78 rfl hin dX2_say_77 ?_
    refine st_topi (fun x6_78 ex6_78 => ?_)
    have h := h x6_78 ex6_78
    refine st_istore G 80 rfl [(6, .int x6_78), (0, .ref q_t), (1, .int x1), (3, .int x3), (4, .int x4), (5, .int x5)] dX2_say_78 (by decide) rfl ?_
    refine st_aload_n G 81 rfl 1 rfl dX2_say_80 rfl ?_
    refine st_iload G 83 rfl 0 rfl dX2_say_81 ?_
    refine st_cVv G lk_X2_51 (c_X2_begin g.l g.D g.X q_t q_t_bodies c_begun c_parted c_k c_m c_own c_bodies x6_78 _ h) (rmk_X2_say_X2_begin d) 86 rfl [0, 1] rfl (by decide) 0 2 rfl rfl rfl (Nat.le_of_ble_eq_true rfl) rfl dX2_say_83 (fun w hq => ?_)
    obtain ⟨c_begun_83, c_bodies_83, h, rfl⟩ := hq
    refine st_wp (ws' := [(q_t, .inr (2, [.ref q_t_bodies, .int c_begun_83, .int c_parted, .int c_k, .int c_m, .int c_own])), (q_t_bodies, .inl (g.X.cI, 30, .inl c_bodies_83))]) 2 [] (by decide) rfl rfl (by rfl) [] (by rfl) rfl ?_
    refine st_aload_n G 87 rfl 1 rfl dX2_say_86 rfl ?_
    refine st_iload G 89 rfl 0 rfl dX2_say_87 ?_
    refine st_getAN G (by decide) 92 rfl dX2_say_89 ?_
    refine st_iload G 94 rfl 5 rfl dX2_say_92 ?_
    obtain ⟨hin, h⟩ := h
    refine st_aldA G 95 rfl hin dX2_say_94 ?_
    refine st_iload_n G 96 rfl 3 rfl dX2_say_95 rfl ?_
    refine st_iload G 98 rfl 4 rfl dX2_say_96 ?_
    refine st_iconst G 99 rfl (1 : Int32) (by decide) dX2_say_98 ?_
    refine st_iadd G 100 rfl dX2_say_99 ?_
    refine st_cVi G lk_X2_55 (hF_X2_worked q_t q_t_bodies c_begun_83 c_parted c_k c_m c_own c_bodies_83 x6_78 (cAb x5) x3 (x4 + (1 : Int32)) _ h) (rmk_X2_say_rec d (by decide)) 103 rfl [0, 1] rfl (by decide) 0 2 rfl rfl rfl (Nat.le_of_ble_eq_true rfl) rfl dX2_say_100 (fun r_100 w hq => ?_)
    obtain ⟨c_begun_100, c_parted_100, c_bodies_100, h, rfl⟩ := hq
    refine st_wp (ws' := [(q_t, .inr (2, [.ref q_t_bodies, .int c_begun_100, .int c_parted_100, .int c_k, .int c_m, .int c_own])), (q_t_bodies, .inl (g.X.cI, 30, .inl c_bodies_100))]) 2 [] (by decide) rfl rfl (by rfl) [] (by rfl) rfl ?_
    exact R _ _ _ _ dX2_say_103 (Nat.le_of_ble_eq_true rfl) ⟨_, _, _, h, rfl⟩
  have h := h.2 c
  refine st_iconst G 67 rfl (0 : Int32) (by decide) dX2_say_66 ?_
  exact R _ _ _ _ dX2_say_67 (Nat.le_of_ble_eq_true rfl) ⟨_, _, _, h, rfl⟩
set_option maxRecDepth 100000 in
set_option maxHeartbeats 4000000 in
theorem b_X2_say_15 {g : GT} {d : Nat} {F_X2_say : Int32 → Int32 → Int32 → Int32 → (Int32) → (Int32) → (Int32) → (Int32) → (Int32) → (Nat → Int32) → (Int32 → (Int32) → (Int32) → (Nat → Int32) → Prop) → Prop} {F_X2_worked : Int32 → Int32 → Int32 → Int32 → (Int32) → (Int32) → (Int32) → (Int32) → (Int32) → (Nat → Int32) → (Int32 → (Int32) → (Int32) → (Nat → Int32) → Prop) → Prop} (G : GOOD g RX2 cX2_say 7 (rm_X2_say (d + 1))) {q_t q_t_bodies : Nat} {c_k : Int32} {c_m : Int32} {c_own : Int32} {Q : Int32 → (Int32) → (Int32) → (Nat → Int32) → Prop} (R : RETi g cX2_say 2 (fun (r : Int32) w => ∃ (c_begun' : Int32) (c_parted' : Int32) (c_bodies' : Nat → Int32), Q r c_begun' c_parted' c_bodies' ∧ w = [(q_t, .inr (2, [.ref q_t_bodies, .int c_begun', .int c_parted', .int c_k, .int c_m, .int c_own])), (q_t_bodies, .inl (g.X.cI, 30, .inl c_bodies'))])) (hF_X2_say : ∀ (q_t q_t_bodies : Nat) (c_begun : Int32) (c_parted : Int32) (c_k : Int32) (c_m : Int32) (c_own : Int32) (c_bodies : Nat → Int32) (x1 : Int32) (x2 : Int32) (x3 : Int32) (x4 : Int32) (Q : Int32 → (Int32) → (Int32) → (Nat → Int32) → Prop), F_X2_say x1 x2 x3 x4 c_begun c_parted c_k c_m c_own c_bodies Q → CTi g.l g.D g.X yX2_say cX2_say 7 .int (rm_X2_say d) [.ref q_t, .int x1, .int x2, .int x3, .int x4] [(q_t, .inr (2, [.ref q_t_bodies, .int c_begun, .int c_parted, .int c_k, .int c_m, .int c_own])), (q_t_bodies, .inl (g.X.cI, 30, .inl c_bodies))] (fun (r : Int32) w => ∃ (c_begun' : Int32) (c_parted' : Int32) (c_bodies' : Nat → Int32), Q r c_begun' c_parted' c_bodies' ∧ w = [(q_t, .inr (2, [.ref q_t_bodies, .int c_begun', .int c_parted', .int c_k, .int c_m, .int c_own])), (q_t_bodies, .inl (g.X.cI, 30, .inl c_bodies'))])) (hF_X2_worked : ∀ (q_t q_t_bodies : Nat) (c_begun : Int32) (c_parted : Int32) (c_k : Int32) (c_m : Int32) (c_own : Int32) (c_bodies : Nat → Int32) (x1 : Int32) (x2 : Int32) (x3 : Int32) (x4 : Int32) (Q : Int32 → (Int32) → (Int32) → (Nat → Int32) → Prop), F_X2_worked x1 x2 x3 x4 c_begun c_parted c_k c_m c_own c_bodies Q → CTi g.l g.D g.X yX2_worked cX2_worked 5 .int (rm_X2_say d) [.ref q_t, .int x1, .int x2, .int x3, .int x4] [(q_t, .inr (2, [.ref q_t_bodies, .int c_begun, .int c_parted, .int c_k, .int c_m, .int c_own])), (q_t_bodies, .inl (g.X.cI, 30, .inl c_bodies))] (fun (r : Int32) w => ∃ (c_begun' : Int32) (c_parted' : Int32) (c_bodies' : Nat → Int32), Q r c_begun' c_parted' c_bodies' ∧ w = [(q_t, .inr (2, [.ref q_t_bodies, .int c_begun', .int c_parted', .int c_k, .int c_m, .int c_own])), (q_t_bodies, .inl (g.X.cI, 30, .inl c_bodies'))])) : ∀ (n : Nat) (x1 : Int32) (x3 : Int32) (x4 : Int32) (x5 : Int32) (x6 : Int32) (c_begun : Int32) (c_parted : Int32) (c_bodies : Nat → Int32), wp_X2_say_b15 F_X2_say F_X2_worked Q c_k c_m c_own n x1 x3 x4 x5 x6 c_begun c_parted c_bodies → ST g 0 0 15 [(0, .ref q_t), (1, .int x1), (3, .int x3), (4, .int x4), (5, .int x5), (6, .int x6)] [] [(q_t, .inr (2, [.ref q_t_bodies, .int c_begun, .int c_parted, .int c_k, .int c_m, .int c_own])), (q_t_bodies, .inl (g.X.cI, 30, .inl c_bodies))] := by
  intro n
  induction n with
  | zero => intro x1 x3 x4 x5 x6 c_begun c_parted c_bodies h; exact False.elim h
  | succ n hK15 =>
    intro x1 x3 x4 x5 x6 c_begun c_parted c_bodies h
    unfold wp_X2_say_b15 at h
    refine st_iload G 17 rfl 5 rfl dX2_say_15 ?_
    refine st_bipush G 19 rfl (7 : Int32) (by decide) dX2_say_17 ?_
    refine st_icmp_ge G 54 22 rfl dX2_say_19 rfl (fun c => ?_) (fun c => ?_)
    · have h := h.1 c
      refine st_L (L' := [(0, .ref q_t), (1, .int x1), (3, .int x3), (4, .int x4), (5, .int x5)]) [0, 1, 2, 3, 4] rfl ?_
      exact b_X2_say_54 G R hF_X2_say hF_X2_worked h
    have h := h.2 c
    refine st_iload G 24 rfl 4 rfl dX2_say_22 ?_
    refine st_if_lt G 54 27 rfl dX2_say_24 rfl (fun c => ?_) (fun c => ?_)
    · have h := h.1 c
      refine st_L (L' := [(0, .ref q_t), (1, .int x1), (3, .int x3), (4, .int x4), (5, .int x5)]) [0, 1, 2, 3, 4] rfl ?_
      exact b_X2_say_54 G R hF_X2_say hF_X2_worked h
    have h := h.2 c
    refine st_getBN G (by decide) 30 rfl dX2_say_27 ?_
    refine st_iload G 32 rfl 4 rfl dX2_say_30 ?_
    refine st_iconst G 33 rfl (4 : Int32) (by decide) dX2_say_32 ?_
    refine st_imul G 34 rfl dX2_say_33 ?_
    refine st_iload_n G 35 rfl 1 rfl dX2_say_34 rfl ?_
    refine st_iadd G 36 rfl dX2_say_35 ?_
    obtain ⟨hin, h⟩ := h
    refine st_aldB G 37 rfl hin dX2_say_36 ?_
    refine st_if_ne G 54 40 rfl dX2_say_37 rfl (fun c => ?_) (fun c => ?_)
    · have h := h.1 c
      refine st_L (L' := [(0, .ref q_t), (1, .int x1), (3, .int x3), (4, .int x4), (5, .int x5)]) [0, 1, 2, 3, 4] rfl ?_
      exact b_X2_say_54 G R hF_X2_say hF_X2_worked h
    have h := h.2 c
    refine st_getAN G (by decide) 43 rfl dX2_say_40 ?_
    refine st_iload G 45 rfl 4 rfl dX2_say_43 ?_
    obtain ⟨hin, h⟩ := h
    refine st_aldA G 46 rfl hin dX2_say_45 ?_
    refine st_topi (fun x5_46 ex5_46 => ?_)
    have h := h x5_46 ex5_46
    refine st_istore G 48 rfl [(5, .int x5_46), (0, .ref q_t), (1, .int x1), (3, .int x3), (4, .int x4), (6, .int x6)] dX2_say_46 (by decide) rfl ?_
    obtain ⟨x6_48, ex6_48⟩ : ∃ y : Int32, y = (x6 + (1 : Int32)) := ⟨_, rfl⟩
    have h := h x6_48 ex6_48
    refine st_iinc G 51 rfl [(6, .int x6_48), (5, .int x5_46), (0, .ref q_t), (1, .int x1), (3, .int x3), (4, .int x4)] x6_48 5 rfl (by rw [ex6_48]; rfl) dX2_say_48 (by decide) rfl ?_
    refine st_goto G 15 dX2_say_51 rfl ?_
    refine st_L (L' := [(0, .ref q_t), (1, .int x1), (3, .int x3), (4, .int x4), (5, .int x5_46), (6, .int x6_48)]) [2, 3, 4, 5, 1, 0] rfl ?_
    exact hK15 _ _ _ _ _ _ _ _ h
set_option maxRecDepth 100000 in
set_option maxHeartbeats 4000000 in
theorem b_X2_say_e {g : GT} {d : Nat} {F_X2_say : Int32 → Int32 → Int32 → Int32 → (Int32) → (Int32) → (Int32) → (Int32) → (Int32) → (Nat → Int32) → (Int32 → (Int32) → (Int32) → (Nat → Int32) → Prop) → Prop} {F_X2_worked : Int32 → Int32 → Int32 → Int32 → (Int32) → (Int32) → (Int32) → (Int32) → (Int32) → (Nat → Int32) → (Int32 → (Int32) → (Int32) → (Nat → Int32) → Prop) → Prop} (G : GOOD g RX2 cX2_say 7 (rm_X2_say (d + 1))) {q_t q_t_bodies : Nat} {c_begun : Int32} {c_parted : Int32} {c_k : Int32} {c_m : Int32} {c_own : Int32} {c_bodies : Nat → Int32} {x1 : Int32} {x2 : Int32} {x3 : Int32} {x4 : Int32} {Q : Int32 → (Int32) → (Int32) → (Nat → Int32) → Prop} (R : RETi g cX2_say 2 (fun (r : Int32) w => ∃ (c_begun' : Int32) (c_parted' : Int32) (c_bodies' : Nat → Int32), Q r c_begun' c_parted' c_bodies' ∧ w = [(q_t, .inr (2, [.ref q_t_bodies, .int c_begun', .int c_parted', .int c_k, .int c_m, .int c_own])), (q_t_bodies, .inl (g.X.cI, 30, .inl c_bodies'))])) (hF_X2_say : ∀ (q_t q_t_bodies : Nat) (c_begun : Int32) (c_parted : Int32) (c_k : Int32) (c_m : Int32) (c_own : Int32) (c_bodies : Nat → Int32) (x1 : Int32) (x2 : Int32) (x3 : Int32) (x4 : Int32) (Q : Int32 → (Int32) → (Int32) → (Nat → Int32) → Prop), F_X2_say x1 x2 x3 x4 c_begun c_parted c_k c_m c_own c_bodies Q → CTi g.l g.D g.X yX2_say cX2_say 7 .int (rm_X2_say d) [.ref q_t, .int x1, .int x2, .int x3, .int x4] [(q_t, .inr (2, [.ref q_t_bodies, .int c_begun, .int c_parted, .int c_k, .int c_m, .int c_own])), (q_t_bodies, .inl (g.X.cI, 30, .inl c_bodies))] (fun (r : Int32) w => ∃ (c_begun' : Int32) (c_parted' : Int32) (c_bodies' : Nat → Int32), Q r c_begun' c_parted' c_bodies' ∧ w = [(q_t, .inr (2, [.ref q_t_bodies, .int c_begun', .int c_parted', .int c_k, .int c_m, .int c_own])), (q_t_bodies, .inl (g.X.cI, 30, .inl c_bodies'))])) (hF_X2_worked : ∀ (q_t q_t_bodies : Nat) (c_begun : Int32) (c_parted : Int32) (c_k : Int32) (c_m : Int32) (c_own : Int32) (c_bodies : Nat → Int32) (x1 : Int32) (x2 : Int32) (x3 : Int32) (x4 : Int32) (Q : Int32 → (Int32) → (Int32) → (Nat → Int32) → Prop), F_X2_worked x1 x2 x3 x4 c_begun c_parted c_k c_m c_own c_bodies Q → CTi g.l g.D g.X yX2_worked cX2_worked 5 .int (rm_X2_say d) [.ref q_t, .int x1, .int x2, .int x3, .int x4] [(q_t, .inr (2, [.ref q_t_bodies, .int c_begun, .int c_parted, .int c_k, .int c_m, .int c_own])), (q_t_bodies, .inl (g.X.cI, 30, .inl c_bodies))] (fun (r : Int32) w => ∃ (c_begun' : Int32) (c_parted' : Int32) (c_bodies' : Nat → Int32), Q r c_begun' c_parted' c_bodies' ∧ w = [(q_t, .inr (2, [.ref q_t_bodies, .int c_begun', .int c_parted', .int c_k, .int c_m, .int c_own])), (q_t_bodies, .inl (g.X.cI, 30, .inl c_bodies'))])) (h : ws_X2_say F_X2_say F_X2_worked x1 x2 x3 x4 c_begun c_parted c_k c_m c_own c_bodies Q) : ST g 0 0 0 [(0, .ref q_t), (1, .int x1), (2, .int x2), (3, .int x3), (4, .int x4)] [] [(q_t, .inr (2, [.ref q_t_bodies, .int c_begun, .int c_parted, .int c_k, .int c_m, .int c_own])), (q_t_bodies, .inl (g.X.cI, 30, .inl c_bodies))] := by
  unfold ws_X2_say at h
  refine st_aload_n G 1 rfl 0 rfl dX2_say_0 rfl ?_
  refine st_get G inX2 rfl 2 (by decide) wd_819 4 rfl 0 rfl rfl dX2_say_1 ?_
  refine st_if_eq G 9 7 rfl dX2_say_4 rfl (fun c => ?_) (fun c => ?_)
  · have h := h.1 c
    refine st_iload_n G 10 rfl 2 rfl dX2_say_9 rfl ?_
    refine st_istore G 12 rfl [(5, .int x2), (0, .ref q_t), (1, .int x1), (2, .int x2), (3, .int x3), (4, .int x4)] dX2_say_10 (by decide) rfl ?_
    refine st_iconst G 13 rfl (0 : Int32) (by decide) dX2_say_12 ?_
    refine st_istore G 15 rfl [(6, .int (0 : Int32)), (5, .int x2), (0, .ref q_t), (1, .int x1), (2, .int x2), (3, .int x3), (4, .int x4)] dX2_say_13 (by decide) rfl ?_
    refine st_L (L' := [(0, .ref q_t), (1, .int x1), (3, .int x3), (4, .int x4), (5, .int x2), (6, .int (0 : Int32))]) [2, 3, 5, 6, 1, 0] rfl ?_
    obtain ⟨n, h⟩ := h
    exact b_X2_say_15 G R hF_X2_say hF_X2_worked n _ _ _ _ _ _ _ _ h
  have h := h.2 c
  refine st_iconst G 8 rfl (0 : Int32) (by decide) dX2_say_7 ?_
  exact R _ _ _ _ dX2_say_8 (Nat.le_of_ble_eq_true rfl) ⟨_, _, _, h, rfl⟩
set_option maxRecDepth 100000 in
set_option maxHeartbeats 4000000 in
theorem b_X2_worked_e {g : GT} {d : Nat} {F_X2_say : Int32 → Int32 → Int32 → Int32 → (Int32) → (Int32) → (Int32) → (Int32) → (Int32) → (Nat → Int32) → (Int32 → (Int32) → (Int32) → (Nat → Int32) → Prop) → Prop} {F_X2_worked : Int32 → Int32 → Int32 → Int32 → (Int32) → (Int32) → (Int32) → (Int32) → (Int32) → (Nat → Int32) → (Int32 → (Int32) → (Int32) → (Nat → Int32) → Prop) → Prop} (G : GOOD g RX2 cX2_worked 5 (rm_X2_say (d + 1))) {q_t q_t_bodies : Nat} {c_begun : Int32} {c_parted : Int32} {c_k : Int32} {c_m : Int32} {c_own : Int32} {c_bodies : Nat → Int32} {x1 : Int32} {x2 : Int32} {x3 : Int32} {x4 : Int32} {Q : Int32 → (Int32) → (Int32) → (Nat → Int32) → Prop} (R : RETi g cX2_worked 2 (fun (r : Int32) w => ∃ (c_begun' : Int32) (c_parted' : Int32) (c_bodies' : Nat → Int32), Q r c_begun' c_parted' c_bodies' ∧ w = [(q_t, .inr (2, [.ref q_t_bodies, .int c_begun', .int c_parted', .int c_k, .int c_m, .int c_own])), (q_t_bodies, .inl (g.X.cI, 30, .inl c_bodies'))])) (hF_X2_say : ∀ (q_t q_t_bodies : Nat) (c_begun : Int32) (c_parted : Int32) (c_k : Int32) (c_m : Int32) (c_own : Int32) (c_bodies : Nat → Int32) (x1 : Int32) (x2 : Int32) (x3 : Int32) (x4 : Int32) (Q : Int32 → (Int32) → (Int32) → (Nat → Int32) → Prop), F_X2_say x1 x2 x3 x4 c_begun c_parted c_k c_m c_own c_bodies Q → CTi g.l g.D g.X yX2_say cX2_say 7 .int (rm_X2_say d) [.ref q_t, .int x1, .int x2, .int x3, .int x4] [(q_t, .inr (2, [.ref q_t_bodies, .int c_begun, .int c_parted, .int c_k, .int c_m, .int c_own])), (q_t_bodies, .inl (g.X.cI, 30, .inl c_bodies))] (fun (r : Int32) w => ∃ (c_begun' : Int32) (c_parted' : Int32) (c_bodies' : Nat → Int32), Q r c_begun' c_parted' c_bodies' ∧ w = [(q_t, .inr (2, [.ref q_t_bodies, .int c_begun', .int c_parted', .int c_k, .int c_m, .int c_own])), (q_t_bodies, .inl (g.X.cI, 30, .inl c_bodies'))])) (hF_X2_worked : ∀ (q_t q_t_bodies : Nat) (c_begun : Int32) (c_parted : Int32) (c_k : Int32) (c_m : Int32) (c_own : Int32) (c_bodies : Nat → Int32) (x1 : Int32) (x2 : Int32) (x3 : Int32) (x4 : Int32) (Q : Int32 → (Int32) → (Int32) → (Nat → Int32) → Prop), F_X2_worked x1 x2 x3 x4 c_begun c_parted c_k c_m c_own c_bodies Q → CTi g.l g.D g.X yX2_worked cX2_worked 5 .int (rm_X2_say d) [.ref q_t, .int x1, .int x2, .int x3, .int x4] [(q_t, .inr (2, [.ref q_t_bodies, .int c_begun, .int c_parted, .int c_k, .int c_m, .int c_own])), (q_t_bodies, .inl (g.X.cI, 30, .inl c_bodies))] (fun (r : Int32) w => ∃ (c_begun' : Int32) (c_parted' : Int32) (c_bodies' : Nat → Int32), Q r c_begun' c_parted' c_bodies' ∧ w = [(q_t, .inr (2, [.ref q_t_bodies, .int c_begun', .int c_parted', .int c_k, .int c_m, .int c_own])), (q_t_bodies, .inl (g.X.cI, 30, .inl c_bodies'))])) (h : ws_X2_worked F_X2_say F_X2_worked x1 x2 x3 x4 c_begun c_parted c_k c_m c_own c_bodies Q) : ST g 0 0 0 [(0, .ref q_t), (1, .int x1), (2, .int x2), (3, .int x3), (4, .int x4)] [] [(q_t, .inr (2, [.ref q_t_bodies, .int c_begun, .int c_parted, .int c_k, .int c_m, .int c_own])), (q_t_bodies, .inl (g.X.cI, 30, .inl c_bodies))] := by
  unfold ws_X2_worked at h
  refine st_iload_n G 1 rfl 1 rfl dX2_worked_0 rfl ?_
  by_cases c0 : x1 = (10 : Int32)
  · have h := h.1 c0
    refine st_lookup G 116 (off := 115) dX2_worked_1 (by decide) (by rw [c0]; rfl) rfl ?_
    refine st_iload_n G 117 rfl 3 rfl dX2_worked_116 rfl ?_
    refine st_aload_n G 118 rfl 0 rfl dX2_worked_117 rfl ?_
    refine st_get G inX2 rfl 3 (by decide) wd_815 121 rfl 0 rfl rfl dX2_worked_118 ?_
    refine st_iadd G 122 rfl dX2_worked_121 ?_
    exact R _ _ _ _ dX2_worked_122 (Nat.le_of_ble_eq_true rfl) ⟨_, _, _, h, rfl⟩
  by_cases c1 : x1 = (11 : Int32)
  · have h := h.2.1 c1
    refine st_lookup G 123 (off := 122) dX2_worked_1 (by decide) (by rw [c1]; rfl) rfl ?_
    refine st_aload_n G 124 rfl 0 rfl dX2_worked_123 rfl ?_
    refine st_iconst G 125 rfl (0 : Int32) (by decide) dX2_worked_124 ?_
    refine st_aload_n G 126 rfl 0 rfl dX2_worked_125 rfl ?_
    refine st_get G inX2 rfl 5 (by decide) wd_817 129 rfl 0 rfl rfl dX2_worked_126 ?_
    refine st_iload_n G 130 rfl 3 rfl dX2_worked_129 rfl ?_
    refine st_iload G 132 rfl 4 rfl dX2_worked_130 ?_
    refine st_cVi G lk_X2_41 (hF_X2_say q_t q_t_bodies c_begun c_parted c_k c_m c_own c_bodies (0 : Int32) c_own x3 x4 _ h) (rmk_X2_say_rec d (by decide)) 135 rfl [0, 1] rfl (by decide) 0 2 rfl rfl rfl (Nat.le_of_ble_eq_true rfl) rfl dX2_worked_132 (fun r_132 w hq => ?_)
    obtain ⟨c_begun_132, c_parted_132, c_bodies_132, h, rfl⟩ := hq
    refine st_wp (ws' := [(q_t, .inr (2, [.ref q_t_bodies, .int c_begun_132, .int c_parted_132, .int c_k, .int c_m, .int c_own])), (q_t_bodies, .inl (g.X.cI, 30, .inl c_bodies_132))]) 2 [] (by decide) rfl rfl (by rfl) [] (by rfl) rfl ?_
    refine st_iconst G 136 rfl (2 : Int32) (by decide) dX2_worked_135 ?_
    refine st_imul G 137 rfl dX2_worked_136 ?_
    exact R _ _ _ _ dX2_worked_137 (Nat.le_of_ble_eq_true rfl) ⟨_, _, _, h, rfl⟩
  by_cases c2 : x1 = (12 : Int32)
  · have h := h.2.2.1 c2
    refine st_lookup G 138 (off := 137) dX2_worked_1 (by decide) (by rw [c2]; rfl) rfl ?_
    refine st_aload_n G 139 rfl 0 rfl dX2_worked_138 rfl ?_
    refine st_iconst G 140 rfl (1 : Int32) (by decide) dX2_worked_139 ?_
    refine st_aload_n G 141 rfl 0 rfl dX2_worked_140 rfl ?_
    refine st_get G inX2 rfl 5 (by decide) wd_817 144 rfl 0 rfl rfl dX2_worked_141 ?_
    refine st_iload_n G 145 rfl 3 rfl dX2_worked_144 rfl ?_
    refine st_iload G 147 rfl 4 rfl dX2_worked_145 ?_
    refine st_cVi G lk_X2_41 (hF_X2_say q_t q_t_bodies c_begun c_parted c_k c_m c_own c_bodies (1 : Int32) c_own x3 x4 _ h) (rmk_X2_say_rec d (by decide)) 150 rfl [0, 1] rfl (by decide) 0 2 rfl rfl rfl (Nat.le_of_ble_eq_true rfl) rfl dX2_worked_147 (fun r_147 w hq => ?_)
    obtain ⟨c_begun_147, c_parted_147, c_bodies_147, h, rfl⟩ := hq
    refine st_wp (ws' := [(q_t, .inr (2, [.ref q_t_bodies, .int c_begun_147, .int c_parted_147, .int c_k, .int c_m, .int c_own])), (q_t_bodies, .inl (g.X.cI, 30, .inl c_bodies_147))]) 2 [] (by decide) rfl rfl (by rfl) [] (by rfl) rfl ?_
    refine st_aload_n G 151 rfl 0 rfl dX2_worked_150 rfl ?_
    refine st_get G inX2 rfl 4 (by decide) wd_816 154 rfl 0 rfl rfl dX2_worked_151 ?_
    refine st_isub G 155 rfl dX2_worked_154 ?_
    exact R _ _ _ _ dX2_worked_155 (Nat.le_of_ble_eq_true rfl) ⟨_, _, _, h, rfl⟩
  by_cases c3 : x1 = (13 : Int32)
  · have h := h.2.2.2.1 c3
    refine st_lookup G 156 (off := 155) dX2_worked_1 (by decide) (by rw [c3]; rfl) rfl ?_
    refine st_aload_n G 157 rfl 0 rfl dX2_worked_156 rfl ?_
    refine st_iload_n G 158 rfl 3 rfl dX2_worked_157 rfl ?_
    refine st_aload_n G 159 rfl 0 rfl dX2_worked_158 rfl ?_
    refine st_get G inX2 rfl 4 (by decide) wd_816 162 rfl 0 rfl rfl dX2_worked_159 ?_
    refine st_aload_n G 163 rfl 0 rfl dX2_worked_162 rfl ?_
    refine st_get G inX2 rfl 3 (by decide) wd_815 166 rfl 0 rfl rfl dX2_worked_163 ?_
    refine st_isub G 167 rfl dX2_worked_166 ?_
    refine st_cVi G lk_X2_58 (c_X2_divided g.l g.D g.X q_t q_t_bodies c_begun c_parted c_k c_m c_own x3 (c_m - c_k) _ h) (rmk_X2_worked_X2_divided d) 170 rfl [0] rfl (by decide) 0 2 rfl rfl rfl (Nat.le_of_ble_eq_true rfl) rfl dX2_worked_167 (fun r_167 w hq => ?_)
    obtain ⟨c_parted_167, h, rfl⟩ := hq
    refine st_wp (ws' := [(q_t, .inr (2, [.ref q_t_bodies, .int c_begun, .int c_parted_167, .int c_k, .int c_m, .int c_own])), (q_t_bodies, .inl (g.X.cI, 30, .inl c_bodies))]) 2 [1] (by decide) rfl rfl (by rfl) [(q_t_bodies, .inl (g.X.cI, 30, .inl c_bodies))] (by rfl) rfl ?_
    exact R _ _ _ _ dX2_worked_170 (Nat.le_of_ble_eq_true rfl) ⟨_, _, _, h, rfl⟩
  by_cases c4 : x1 = (20 : Int32)
  · have h := h.2.2.2.2.1 c4
    refine st_lookup G 171 (off := 170) dX2_worked_1 (by decide) (by rw [c4]; rfl) rfl ?_
    refine st_aload_n G 172 rfl 0 rfl dX2_worked_171 rfl ?_
    refine st_iconst G 173 rfl (0 : Int32) (by decide) dX2_worked_172 ?_
    refine st_iload_n G 174 rfl 2 rfl dX2_worked_173 rfl ?_
    refine st_iload_n G 175 rfl 3 rfl dX2_worked_174 rfl ?_
    refine st_iload G 177 rfl 4 rfl dX2_worked_175 ?_
    refine st_cVi G lk_X2_41 (hF_X2_say q_t q_t_bodies c_begun c_parted c_k c_m c_own c_bodies (0 : Int32) x2 x3 x4 _ h) (rmk_X2_say_rec d (by decide)) 180 rfl [0, 1] rfl (by decide) 0 2 rfl rfl rfl (Nat.le_of_ble_eq_true rfl) rfl dX2_worked_177 (fun r_177 w hq => ?_)
    obtain ⟨c_begun_177, c_parted_177, c_bodies_177, h, rfl⟩ := hq
    refine st_wp (ws' := [(q_t, .inr (2, [.ref q_t_bodies, .int c_begun_177, .int c_parted_177, .int c_k, .int c_m, .int c_own])), (q_t_bodies, .inl (g.X.cI, 30, .inl c_bodies_177))]) 2 [] (by decide) rfl rfl (by rfl) [] (by rfl) rfl ?_
    refine st_iconst G 181 rfl (4 : Int32) (by decide) dX2_worked_180 ?_
    refine st_isub G 182 rfl dX2_worked_181 ?_
    exact R _ _ _ _ dX2_worked_182 (Nat.le_of_ble_eq_true rfl) ⟨_, _, _, h, rfl⟩
  by_cases c5 : x1 = (21 : Int32)
  · have h := h.2.2.2.2.2.1 c5
    refine st_lookup G 183 (off := 182) dX2_worked_1 (by decide) (by rw [c5]; rfl) rfl ?_
    refine st_aload_n G 184 rfl 0 rfl dX2_worked_183 rfl ?_
    refine st_iconst G 185 rfl (3 : Int32) (by decide) dX2_worked_184 ?_
    refine st_iload_n G 186 rfl 2 rfl dX2_worked_185 rfl ?_
    refine st_iload_n G 187 rfl 3 rfl dX2_worked_186 rfl ?_
    refine st_iload G 189 rfl 4 rfl dX2_worked_187 ?_
    refine st_cVi G lk_X2_41 (hF_X2_say q_t q_t_bodies c_begun c_parted c_k c_m c_own c_bodies (3 : Int32) x2 x3 x4 _ h) (rmk_X2_say_rec d (by decide)) 192 rfl [0, 1] rfl (by decide) 0 2 rfl rfl rfl (Nat.le_of_ble_eq_true rfl) rfl dX2_worked_189 (fun r_189 w hq => ?_)
    obtain ⟨c_begun_189, c_parted_189, c_bodies_189, h, rfl⟩ := hq
    refine st_wp (ws' := [(q_t, .inr (2, [.ref q_t_bodies, .int c_begun_189, .int c_parted_189, .int c_k, .int c_m, .int c_own])), (q_t_bodies, .inl (g.X.cI, 30, .inl c_bodies_189))]) 2 [] (by decide) rfl rfl (by rfl) [] (by rfl) rfl ?_
    refine st_aload_n G 193 rfl 0 rfl dX2_worked_192 rfl ?_
    refine st_iconst G 194 rfl (1 : Int32) (by decide) dX2_worked_193 ?_
    refine st_aload_n G 195 rfl 0 rfl dX2_worked_194 rfl ?_
    refine st_get G inX2 rfl 5 (by decide) wd_817 198 rfl 0 rfl rfl dX2_worked_195 ?_
    refine st_iconst G 199 rfl (1 : Int32) (by decide) dX2_worked_198 ?_
    refine st_iload G 201 rfl 4 rfl dX2_worked_199 ?_
    refine st_cVi G lk_X2_41 (hF_X2_say q_t q_t_bodies c_begun_189 c_parted_189 c_k c_m c_own c_bodies_189 (1 : Int32) c_own (1 : Int32) x4 _ h) (rmk_X2_say_rec d (by decide)) 204 rfl [0, 1] rfl (by decide) 0 2 rfl rfl rfl (Nat.le_of_ble_eq_true rfl) rfl dX2_worked_201 (fun r_201 w hq => ?_)
    obtain ⟨c_begun_201, c_parted_201, c_bodies_201, h, rfl⟩ := hq
    refine st_wp (ws' := [(q_t, .inr (2, [.ref q_t_bodies, .int c_begun_201, .int c_parted_201, .int c_k, .int c_m, .int c_own])), (q_t_bodies, .inl (g.X.cI, 30, .inl c_bodies_201))]) 2 [] (by decide) rfl rfl (by rfl) [] (by rfl) rfl ?_
    refine st_iadd G 205 rfl dX2_worked_204 ?_
    exact R _ _ _ _ dX2_worked_205 (Nat.le_of_ble_eq_true rfl) ⟨_, _, _, h, rfl⟩
  by_cases c6 : x1 = (30 : Int32)
  · have h := h.2.2.2.2.2.2.1 c6
    refine st_lookup G 206 (off := 205) dX2_worked_1 (by decide) (by rw [c6]; rfl) rfl ?_
    refine st_iconst G 207 rfl (0 : Int32) (by decide) dX2_worked_206 ?_
    refine st_aload_n G 208 rfl 0 rfl dX2_worked_207 rfl ?_
    refine st_iconst G 209 rfl (1 : Int32) (by decide) dX2_worked_208 ?_
    refine st_iload_n G 210 rfl 2 rfl dX2_worked_209 rfl ?_
    refine st_iload_n G 211 rfl 3 rfl dX2_worked_210 rfl ?_
    refine st_iload G 213 rfl 4 rfl dX2_worked_211 ?_
    refine st_cVi G lk_X2_41 (hF_X2_say q_t q_t_bodies c_begun c_parted c_k c_m c_own c_bodies (1 : Int32) x2 x3 x4 _ h) (rmk_X2_say_rec d (by decide)) 216 rfl [0, 1] rfl (by decide) 0 2 rfl rfl rfl (Nat.le_of_ble_eq_true rfl) rfl dX2_worked_213 (fun r_213 w hq => ?_)
    obtain ⟨c_begun_213, c_parted_213, c_bodies_213, h, rfl⟩ := hq
    refine st_wp (ws' := [(q_t, .inr (2, [.ref q_t_bodies, .int c_begun_213, .int c_parted_213, .int c_k, .int c_m, .int c_own])), (q_t_bodies, .inl (g.X.cI, 30, .inl c_bodies_213))]) 2 [] (by decide) rfl rfl (by rfl) [] (by rfl) rfl ?_
    refine st_isub G 217 rfl dX2_worked_216 ?_
    exact R _ _ _ _ dX2_worked_217 (Nat.le_of_ble_eq_true rfl) ⟨_, _, _, h, rfl⟩
  by_cases c7 : x1 = (40 : Int32)
  · have h := h.2.2.2.2.2.2.2.1 c7
    refine st_lookup G 218 (off := 217) dX2_worked_1 (by decide) (by rw [c7]; rfl) rfl ?_
    refine st_aload_n G 219 rfl 0 rfl dX2_worked_218 rfl ?_
    refine st_iconst G 220 rfl (2 : Int32) (by decide) dX2_worked_219 ?_
    refine st_iload_n G 221 rfl 2 rfl dX2_worked_220 rfl ?_
    refine st_iload_n G 222 rfl 3 rfl dX2_worked_221 rfl ?_
    refine st_iconst G 223 rfl (2 : Int32) (by decide) dX2_worked_222 ?_
    refine st_idiv G 224 rfl (by decide) dX2_worked_223 ?_
    refine st_iload G 226 rfl 4 rfl dX2_worked_224 ?_
    refine st_cVi G lk_X2_41 (hF_X2_say q_t q_t_bodies c_begun c_parted c_k c_m c_own c_bodies (2 : Int32) x2 (x3 / (2 : Int32)) x4 _ h) (rmk_X2_say_rec d (by decide)) 229 rfl [0, 1] rfl (by decide) 0 2 rfl rfl rfl (Nat.le_of_ble_eq_true rfl) rfl dX2_worked_226 (fun r_226 w hq => ?_)
    obtain ⟨c_begun_226, c_parted_226, c_bodies_226, h, rfl⟩ := hq
    refine st_wp (ws' := [(q_t, .inr (2, [.ref q_t_bodies, .int c_begun_226, .int c_parted_226, .int c_k, .int c_m, .int c_own])), (q_t_bodies, .inl (g.X.cI, 30, .inl c_bodies_226))]) 2 [] (by decide) rfl rfl (by rfl) [] (by rfl) rfl ?_
    exact R _ _ _ _ dX2_worked_229 (Nat.le_of_ble_eq_true rfl) ⟨_, _, _, h, rfl⟩
  by_cases c8 : x1 = (50 : Int32)
  · have h := h.2.2.2.2.2.2.2.2.1 c8
    refine st_lookup G 230 (off := 229) dX2_worked_1 (by decide) (by rw [c8]; rfl) rfl ?_
    refine st_aload_n G 231 rfl 0 rfl dX2_worked_230 rfl ?_
    refine st_iconst G 232 rfl (0 : Int32) (by decide) dX2_worked_231 ?_
    refine st_iload_n G 233 rfl 2 rfl dX2_worked_232 rfl ?_
    refine st_iload_n G 234 rfl 3 rfl dX2_worked_233 rfl ?_
    refine st_iload G 236 rfl 4 rfl dX2_worked_234 ?_
    refine st_cVi G lk_X2_41 (hF_X2_say q_t q_t_bodies c_begun c_parted c_k c_m c_own c_bodies (0 : Int32) x2 x3 x4 _ h) (rmk_X2_say_rec d (by decide)) 239 rfl [0, 1] rfl (by decide) 0 2 rfl rfl rfl (Nat.le_of_ble_eq_true rfl) rfl dX2_worked_236 (fun r_236 w hq => ?_)
    obtain ⟨c_begun_236, c_parted_236, c_bodies_236, h, rfl⟩ := hq
    refine st_wp (ws' := [(q_t, .inr (2, [.ref q_t_bodies, .int c_begun_236, .int c_parted_236, .int c_k, .int c_m, .int c_own])), (q_t_bodies, .inl (g.X.cI, 30, .inl c_bodies_236))]) 2 [] (by decide) rfl rfl (by rfl) [] (by rfl) rfl ?_
    refine st_iconst G 240 rfl (3 : Int32) (by decide) dX2_worked_239 ?_
    refine st_imul G 241 rfl dX2_worked_240 ?_
    exact R _ _ _ _ dX2_worked_241 (Nat.le_of_ble_eq_true rfl) ⟨_, _, _, h, rfl⟩
  by_cases c9 : x1 = (51 : Int32)
  · have h := h.2.2.2.2.2.2.2.2.2.1 c9
    refine st_lookup G 242 (off := 241) dX2_worked_1 (by decide) (by rw [c9]; rfl) rfl ?_
    refine st_aload_n G 243 rfl 0 rfl dX2_worked_242 rfl ?_
    refine st_iconst G 244 rfl (2 : Int32) (by decide) dX2_worked_243 ?_
    refine st_iload_n G 245 rfl 2 rfl dX2_worked_244 rfl ?_
    refine st_iload_n G 246 rfl 3 rfl dX2_worked_245 rfl ?_
    refine st_iload G 248 rfl 4 rfl dX2_worked_246 ?_
    refine st_cVi G lk_X2_41 (hF_X2_say q_t q_t_bodies c_begun c_parted c_k c_m c_own c_bodies (2 : Int32) x2 x3 x4 _ h) (rmk_X2_say_rec d (by decide)) 251 rfl [0, 1] rfl (by decide) 0 2 rfl rfl rfl (Nat.le_of_ble_eq_true rfl) rfl dX2_worked_248 (fun r_248 w hq => ?_)
    obtain ⟨c_begun_248, c_parted_248, c_bodies_248, h, rfl⟩ := hq
    refine st_wp (ws' := [(q_t, .inr (2, [.ref q_t_bodies, .int c_begun_248, .int c_parted_248, .int c_k, .int c_m, .int c_own])), (q_t_bodies, .inl (g.X.cI, 30, .inl c_bodies_248))]) 2 [] (by decide) rfl rfl (by rfl) [] (by rfl) rfl ?_
    refine st_aload_n G 252 rfl 0 rfl dX2_worked_251 rfl ?_
    refine st_get G inX2 rfl 3 (by decide) wd_815 255 rfl 0 rfl rfl dX2_worked_252 ?_
    refine st_ixor G 256 rfl dX2_worked_255 ?_
    exact R _ _ _ _ dX2_worked_256 (Nat.le_of_ble_eq_true rfl) ⟨_, _, _, h, rfl⟩
  by_cases c10 : x1 = (60 : Int32)
  · have h := h.2.2.2.2.2.2.2.2.2.2.1 c10
    refine st_lookup G 257 (off := 256) dX2_worked_1 (by decide) (by rw [c10]; rfl) rfl ?_
    refine st_aload_n G 258 rfl 0 rfl dX2_worked_257 rfl ?_
    refine st_iconst G 259 rfl (1 : Int32) (by decide) dX2_worked_258 ?_
    refine st_iload_n G 260 rfl 2 rfl dX2_worked_259 rfl ?_
    refine st_iload_n G 261 rfl 3 rfl dX2_worked_260 rfl ?_
    refine st_iconst G 262 rfl (1 : Int32) (by decide) dX2_worked_261 ?_
    refine st_iadd G 263 rfl dX2_worked_262 ?_
    refine st_iload G 265 rfl 4 rfl dX2_worked_263 ?_
    refine st_cVi G lk_X2_41 (hF_X2_say q_t q_t_bodies c_begun c_parted c_k c_m c_own c_bodies (1 : Int32) x2 (x3 + (1 : Int32)) x4 _ h) (rmk_X2_say_rec d (by decide)) 268 rfl [0, 1] rfl (by decide) 0 2 rfl rfl rfl (Nat.le_of_ble_eq_true rfl) rfl dX2_worked_265 (fun r_265 w hq => ?_)
    obtain ⟨c_begun_265, c_parted_265, c_bodies_265, h, rfl⟩ := hq
    refine st_wp (ws' := [(q_t, .inr (2, [.ref q_t_bodies, .int c_begun_265, .int c_parted_265, .int c_k, .int c_m, .int c_own])), (q_t_bodies, .inl (g.X.cI, 30, .inl c_bodies_265))]) 2 [] (by decide) rfl rfl (by rfl) [] (by rfl) rfl ?_
    exact R _ _ _ _ dX2_worked_268 (Nat.le_of_ble_eq_true rfl) ⟨_, _, _, h, rfl⟩
  by_cases c11 : x1 = (70 : Int32)
  · have h := h.2.2.2.2.2.2.2.2.2.2.2.1 c11
    refine st_lookup G 269 (off := 268) dX2_worked_1 (by decide) (by rw [c11]; rfl) rfl ?_
    refine st_bipush G 271 rfl (9 : Int32) (by decide) dX2_worked_269 ?_
    exact R _ _ _ _ dX2_worked_271 (Nat.le_of_ble_eq_true rfl) ⟨_, _, _, h, rfl⟩
  by_cases c12 : x1 = (71 : Int32)
  · have h := h.2.2.2.2.2.2.2.2.2.2.2.2.1 c12
    refine st_lookup G 272 (off := 271) dX2_worked_1 (by decide) (by rw [c12]; rfl) rfl ?_
    refine st_aload_n G 273 rfl 0 rfl dX2_worked_272 rfl ?_
    refine st_iconst G 274 rfl (1 : Int32) (by decide) dX2_worked_273 ?_
    refine st_iload_n G 275 rfl 2 rfl dX2_worked_274 rfl ?_
    refine st_iload_n G 276 rfl 3 rfl dX2_worked_275 rfl ?_
    refine st_iload G 278 rfl 4 rfl dX2_worked_276 ?_
    refine st_cVi G lk_X2_41 (hF_X2_say q_t q_t_bodies c_begun c_parted c_k c_m c_own c_bodies (1 : Int32) x2 x3 x4 _ h) (rmk_X2_say_rec d (by decide)) 281 rfl [0, 1] rfl (by decide) 0 2 rfl rfl rfl (Nat.le_of_ble_eq_true rfl) rfl dX2_worked_278 (fun r_278 w hq => ?_)
    obtain ⟨c_begun_278, c_parted_278, c_bodies_278, h, rfl⟩ := hq
    refine st_wp (ws' := [(q_t, .inr (2, [.ref q_t_bodies, .int c_begun_278, .int c_parted_278, .int c_k, .int c_m, .int c_own])), (q_t_bodies, .inl (g.X.cI, 30, .inl c_bodies_278))]) 2 [] (by decide) rfl rfl (by rfl) [] (by rfl) rfl ?_
    refine st_aload_n G 282 rfl 0 rfl dX2_worked_281 rfl ?_
    refine st_get G inX2 rfl 4 (by decide) wd_816 285 rfl 0 rfl rfl dX2_worked_282 ?_
    refine st_iadd G 286 rfl dX2_worked_285 ?_
    exact R _ _ _ _ dX2_worked_286 (Nat.le_of_ble_eq_true rfl) ⟨_, _, _, h, rfl⟩
  have h := h.2.2.2.2.2.2.2.2.2.2.2.2.2 c0 c1 c2 c3 c4 c5 c6 c7 c8 c9 c10 c11 c12
  refine st_lookup G 287 (off := 286) dX2_worked_1 (by decide) (by have w0 := ne_toInt (n := 10) c0; have w1 := ne_toInt (n := 11) c1; have w2 := ne_toInt (n := 12) c2; have w3 := ne_toInt (n := 13) c3; have w4 := ne_toInt (n := 20) c4; have w5 := ne_toInt (n := 21) c5; have w6 := ne_toInt (n := 30) c6; have w7 := ne_toInt (n := 40) c7; have w8 := ne_toInt (n := 50) c8; have w9 := ne_toInt (n := 51) c9; have w10 := ne_toInt (n := 60) c10; have w11 := ne_toInt (n := 70) c11; have w12 := ne_toInt (n := 71) c12; simp only [Op.lookupswitch.offset]; rw [if_neg (Ne.symm w0), if_neg (Ne.symm w1), if_neg (Ne.symm w2), if_neg (Ne.symm w3), if_neg (Ne.symm w4), if_neg (Ne.symm w5), if_neg (Ne.symm w6), if_neg (Ne.symm w7), if_neg (Ne.symm w8), if_neg (Ne.symm w9), if_neg (Ne.symm w10), if_neg (Ne.symm w11), if_neg (Ne.symm w12)]) rfl ?_
  refine st_iconst G 288 rfl (0 : Int32) (by decide) dX2_worked_287 ?_
  exact R _ _ _ _ dX2_worked_288 (Nat.le_of_ble_eq_true rfl) ⟨_, _, _, h, rfl⟩
set_option maxRecDepth 100000 in
set_option maxHeartbeats 4000000 in
theorem cg_X2_say (l : Launch) (D : va_G) (X : XT) : ∀ d : Nat, (∀ (q_t q_t_bodies : Nat) (c_begun : Int32) (c_parted : Int32) (c_k : Int32) (c_m : Int32) (c_own : Int32) (c_bodies : Nat → Int32) (x1 : Int32) (x2 : Int32) (x3 : Int32) (x4 : Int32) (Q : Int32 → (Int32) → (Int32) → (Nat → Int32) → Prop), wp_X2_say d x1 x2 x3 x4 c_begun c_parted c_k c_m c_own c_bodies Q → CTi l D X yX2_say cX2_say 7 .int (rm_X2_say d) [.ref q_t, .int x1, .int x2, .int x3, .int x4] [(q_t, .inr (2, [.ref q_t_bodies, .int c_begun, .int c_parted, .int c_k, .int c_m, .int c_own])), (q_t_bodies, .inl (X.cI, 30, .inl c_bodies))] (fun (r : Int32) w => ∃ (c_begun' : Int32) (c_parted' : Int32) (c_bodies' : Nat → Int32), Q r c_begun' c_parted' c_bodies' ∧ w = [(q_t, .inr (2, [.ref q_t_bodies, .int c_begun', .int c_parted', .int c_k, .int c_m, .int c_own])), (q_t_bodies, .inl (X.cI, 30, .inl c_bodies'))])) ∧ (∀ (q_t q_t_bodies : Nat) (c_begun : Int32) (c_parted : Int32) (c_k : Int32) (c_m : Int32) (c_own : Int32) (c_bodies : Nat → Int32) (x1 : Int32) (x2 : Int32) (x3 : Int32) (x4 : Int32) (Q : Int32 → (Int32) → (Int32) → (Nat → Int32) → Prop), wp_X2_worked d x1 x2 x3 x4 c_begun c_parted c_k c_m c_own c_bodies Q → CTi l D X yX2_worked cX2_worked 5 .int (rm_X2_say d) [.ref q_t, .int x1, .int x2, .int x3, .int x4] [(q_t, .inr (2, [.ref q_t_bodies, .int c_begun, .int c_parted, .int c_k, .int c_m, .int c_own])), (q_t_bodies, .inl (X.cI, 30, .inl c_bodies))] (fun (r : Int32) w => ∃ (c_begun' : Int32) (c_parted' : Int32) (c_bodies' : Nat → Int32), Q r c_begun' c_parted' c_bodies' ∧ w = [(q_t, .inr (2, [.ref q_t_bodies, .int c_begun', .int c_parted', .int c_k, .int c_m, .int c_own])), (q_t_bodies, .inl (X.cI, 30, .inl c_bodies'))])) := by
  intro d
  induction d with
  | zero => refine ⟨?_, ?_⟩ <;> (intros; rename_i h; exact False.elim h)
  | succ d ih =>
    refine ⟨?_, ?_⟩
    · intro q_t q_t_bodies c_begun c_parted c_k c_m c_own c_bodies x1 x2 x3 x4 Q h
      exact ct_i (by decide) (Nat.le_of_ble_eq_true rfl) (fun g hl hD hX G R => by subst hl; subst hD; subst hX; exact b_X2_say_e G R ih.1 ih.2 h)
    · intro q_t q_t_bodies c_begun c_parted c_k c_m c_own c_bodies x1 x2 x3 x4 Q h
      exact ct_i (by decide) (Nat.le_of_ble_eq_true rfl) (fun g hl hD hX G R => by subst hl; subst hD; subst hX; exact b_X2_worked_e G R ih.1 ih.2 h)
set_option maxRecDepth 100000 in
set_option maxHeartbeats 4000000 in
theorem c_X2_say (d : Nat) (l : Launch) (D : va_G) (X : XT) (q_t q_t_bodies : Nat) (c_begun : Int32) (c_parted : Int32) (c_k : Int32) (c_m : Int32) (c_own : Int32) (c_bodies : Nat → Int32) (x1 : Int32) (x2 : Int32) (x3 : Int32) (x4 : Int32) (Q : Int32 → (Int32) → (Int32) → (Nat → Int32) → Prop) (h : wp_X2_say d x1 x2 x3 x4 c_begun c_parted c_k c_m c_own c_bodies Q) : CTi l D X yX2_say cX2_say 7 .int (rm_X2_say d) [.ref q_t, .int x1, .int x2, .int x3, .int x4] [(q_t, .inr (2, [.ref q_t_bodies, .int c_begun, .int c_parted, .int c_k, .int c_m, .int c_own])), (q_t_bodies, .inl (X.cI, 30, .inl c_bodies))] (fun (r : Int32) w => ∃ (c_begun' : Int32) (c_parted' : Int32) (c_bodies' : Nat → Int32), Q r c_begun' c_parted' c_bodies' ∧ w = [(q_t, .inr (2, [.ref q_t_bodies, .int c_begun', .int c_parted', .int c_k, .int c_m, .int c_own])), (q_t_bodies, .inl (X.cI, 30, .inl c_bodies'))]) :=
  (cg_X2_say l D X d).1 q_t q_t_bodies c_begun c_parted c_k c_m c_own c_bodies x1 x2 x3 x4 Q h
set_option maxRecDepth 100000 in
set_option maxHeartbeats 4000000 in
theorem c_X2_worked (d : Nat) (l : Launch) (D : va_G) (X : XT) (q_t q_t_bodies : Nat) (c_begun : Int32) (c_parted : Int32) (c_k : Int32) (c_m : Int32) (c_own : Int32) (c_bodies : Nat → Int32) (x1 : Int32) (x2 : Int32) (x3 : Int32) (x4 : Int32) (Q : Int32 → (Int32) → (Int32) → (Nat → Int32) → Prop) (h : wp_X2_worked d x1 x2 x3 x4 c_begun c_parted c_k c_m c_own c_bodies Q) : CTi l D X yX2_worked cX2_worked 5 .int (rm_X2_say d) [.ref q_t, .int x1, .int x2, .int x3, .int x4] [(q_t, .inr (2, [.ref q_t_bodies, .int c_begun, .int c_parted, .int c_k, .int c_m, .int c_own])), (q_t_bodies, .inl (X.cI, 30, .inl c_bodies))] (fun (r : Int32) w => ∃ (c_begun' : Int32) (c_parted' : Int32) (c_bodies' : Nat → Int32), Q r c_begun' c_parted' c_bodies' ∧ w = [(q_t, .inr (2, [.ref q_t_bodies, .int c_begun', .int c_parted', .int c_k, .int c_m, .int c_own])), (q_t_bodies, .inl (X.cI, 30, .inl c_bodies'))]) :=
  (cg_X2_say l D X d).2 q_t q_t_bodies c_begun c_parted c_k c_m c_own c_bodies x1 x2 x3 x4 Q h
set_option maxRecDepth 100000 in
set_option maxHeartbeats 4000000 in
theorem b_X2_speak_e {g : GT} (G : GOOD g RX2 cX2_speak 5 rm_X2_speak) {q_t q_t_bodies q_a1 q_a1_km q_a1_father q_a1_mother q_a1_from q_a1_spoons q_a1_owed q_a1_tape q_a1_tx0 q_a1_tx1 q_a1_waiting : Nat} {c_begun : Int32} {c_parted : Int32} {c_k : Int32} {c_m : Int32} {c_own : Int32} {c_bodies : Nat → Int32} {a1_people : Int32} {a1_year : Int32} {a1_z : Int32} {a1_bytes : Int32} {a1_waits : Int32} {a1_km : Nat → Int32} {x2 : Int32} {x3 : Int32} {x4 : Int32} {Q : Int32 → (Int32) → (Int32) → (Int32) → (Int32) → (Int32) → (Nat → Int32) → Prop} (R : RETi g cX2_speak 4 (fun (r : Int32) w => ∃ (c_begun' : Int32) (c_parted' : Int32) (c_k' : Int32) (c_m' : Int32) (c_own' : Int32) (c_bodies' : Nat → Int32), Q r c_begun' c_parted' c_k' c_m' c_own' c_bodies' ∧ w = [(q_t, .inr (2, [.ref q_t_bodies, .int c_begun', .int c_parted', .int c_k', .int c_m', .int c_own'])), (q_t_bodies, .inl (g.X.cI, 30, .inl c_bodies')), (q_a1, .inr (5, [.int a1_people, .ref q_a1_km, .ref q_a1_father, .ref q_a1_mother, .ref q_a1_from, .ref q_a1_spoons, .ref q_a1_owed, .int a1_year, .int a1_z, .ref q_a1_tape, .int a1_bytes, .ref q_a1_tx0, .ref q_a1_tx1, .ref q_a1_waiting, .int a1_waits])), (q_a1_km, .inl (g.X.cI, 8, .inl a1_km))])) (h : wp_X2_speak x2 x3 x4 c_begun c_parted c_k c_m c_own c_bodies a1_km Q) : ST g 0 0 0 [(0, .ref q_t), (1, .ref q_a1), (2, .int x2), (3, .int x3), (4, .int x4)] [] [(q_t, .inr (2, [.ref q_t_bodies, .int c_begun, .int c_parted, .int c_k, .int c_m, .int c_own])), (q_t_bodies, .inl (g.X.cI, 30, .inl c_bodies)), (q_a1, .inr (5, [.int a1_people, .ref q_a1_km, .ref q_a1_father, .ref q_a1_mother, .ref q_a1_from, .ref q_a1_spoons, .ref q_a1_owed, .int a1_year, .int a1_z, .ref q_a1_tape, .int a1_bytes, .ref q_a1_tx0, .ref q_a1_tx1, .ref q_a1_waiting, .int a1_waits])), (q_a1_km, .inl (g.X.cI, 8, .inl a1_km))] := by
  unfold wp_X2_speak at h
  refine st_aload_n G 1 rfl 0 rfl dX2_speak_0 rfl ?_
  refine st_iload_n G 2 rfl 2 rfl dX2_speak_1 rfl ?_
  refine st_put G inX2 tyX2 tyX2_ok nmX2 rfl 3 (by decide) wd_815 rfl [(q_t, .inr (2, [.ref q_t_bodies, .int c_begun, .int c_parted, .int x2, .int c_m, .int c_own])), (q_t_bodies, .inl (g.X.cI, 30, .inl c_bodies)), (q_a1, .inr (5, [.int a1_people, .ref q_a1_km, .ref q_a1_father, .ref q_a1_mother, .ref q_a1_from, .ref q_a1_spoons, .ref q_a1_owed, .int a1_year, .int a1_z, .ref q_a1_tape, .int a1_bytes, .ref q_a1_tx0, .ref q_a1_tx1, .ref q_a1_waiting, .int a1_waits])), (q_a1_km, .inl (g.X.cI, 8, .inl a1_km))] 5 rfl 0 rfl rfl rfl (Nat.le_of_ble_eq_true rfl) rfl dX2_speak_2 ?_
  refine st_aload_n G 6 rfl 0 rfl dX2_speak_5 rfl ?_
  refine st_aload_n G 7 rfl 1 rfl dX2_speak_6 rfl ?_
  refine st_iload_n G 8 rfl 2 rfl dX2_speak_7 rfl ?_
  refine st_cVio G lk_X2_19 (c_X5_numberOf g.l g.D g.X q_a1 q_a1_km q_a1_father q_a1_mother q_a1_from q_a1_spoons q_a1_owed q_a1_tape q_a1_tx0 q_a1_tx1 q_a1_waiting a1_people a1_year a1_z a1_bytes a1_waits a1_km x2 _ h) ⟨rfl, rfl, ⟨Nat.le_of_ble_eq_true rfl, Nat.le_of_ble_eq_true rfl⟩, Nat.zero_le _, Nat.zero_le _⟩ 11 rfl [2, 3] rfl (by decide) 0 5 rfl rfl rfl (Nat.le_of_ble_eq_true rfl) rfl dX2_speak_8 (fun r_8 h => ?_)
  refine st_put G inX2 tyX2 tyX2_ok nmX2 rfl 4 (by decide) wd_816 rfl [(q_t, .inr (2, [.ref q_t_bodies, .int c_begun, .int c_parted, .int x2, .int r_8, .int c_own])), (q_t_bodies, .inl (g.X.cI, 30, .inl c_bodies)), (q_a1, .inr (5, [.int a1_people, .ref q_a1_km, .ref q_a1_father, .ref q_a1_mother, .ref q_a1_from, .ref q_a1_spoons, .ref q_a1_owed, .int a1_year, .int a1_z, .ref q_a1_tape, .int a1_bytes, .ref q_a1_tx0, .ref q_a1_tx1, .ref q_a1_waiting, .int a1_waits])), (q_a1_km, .inl (g.X.cI, 8, .inl a1_km))] 14 rfl 0 rfl rfl rfl (Nat.le_of_ble_eq_true rfl) rfl dX2_speak_11 ?_
  refine st_aload_n G 15 rfl 0 rfl dX2_speak_14 rfl ?_
  refine st_aload_n G 16 rfl 1 rfl dX2_speak_15 rfl ?_
  refine st_iload_n G 17 rfl 2 rfl dX2_speak_16 rfl ?_
  refine st_cVio G lk_X2_28 (c_X5_kindOf g.l g.D g.X q_a1 q_a1_km q_a1_father q_a1_mother q_a1_from q_a1_spoons q_a1_owed q_a1_tape q_a1_tx0 q_a1_tx1 q_a1_waiting a1_people a1_year a1_z a1_bytes a1_waits a1_km x2 _ h) ⟨rfl, rfl, ⟨Nat.le_of_ble_eq_true rfl, Nat.le_of_ble_eq_true rfl⟩, Nat.zero_le _, Nat.zero_le _⟩ 20 rfl [2, 3] rfl (by decide) 0 5 rfl rfl rfl (Nat.le_of_ble_eq_true rfl) rfl dX2_speak_17 (fun r_17 h => ?_)
  refine st_put G inX2 tyX2 tyX2_ok nmX2 rfl 5 (by decide) wd_817 rfl [(q_t, .inr (2, [.ref q_t_bodies, .int c_begun, .int c_parted, .int x2, .int r_8, .int r_17])), (q_t_bodies, .inl (g.X.cI, 30, .inl c_bodies)), (q_a1, .inr (5, [.int a1_people, .ref q_a1_km, .ref q_a1_father, .ref q_a1_mother, .ref q_a1_from, .ref q_a1_spoons, .ref q_a1_owed, .int a1_year, .int a1_z, .ref q_a1_tape, .int a1_bytes, .ref q_a1_tx0, .ref q_a1_tx1, .ref q_a1_waiting, .int a1_waits])), (q_a1_km, .inl (g.X.cI, 8, .inl a1_km))] 23 rfl 0 rfl rfl rfl (Nat.le_of_ble_eq_true rfl) rfl dX2_speak_20 ?_
  refine st_aload_n G 24 rfl 0 rfl dX2_speak_23 rfl ?_
  refine st_iconst G 25 rfl (0 : Int32) (by decide) dX2_speak_24 ?_
  refine st_put G inX2 tyX2 tyX2_ok nmX2 rfl 1 (by decide) wd_818 rfl [(q_t, .inr (2, [.ref q_t_bodies, .int (0 : Int32), .int c_parted, .int x2, .int r_8, .int r_17])), (q_t_bodies, .inl (g.X.cI, 30, .inl c_bodies)), (q_a1, .inr (5, [.int a1_people, .ref q_a1_km, .ref q_a1_father, .ref q_a1_mother, .ref q_a1_from, .ref q_a1_spoons, .ref q_a1_owed, .int a1_year, .int a1_z, .ref q_a1_tape, .int a1_bytes, .ref q_a1_tx0, .ref q_a1_tx1, .ref q_a1_waiting, .int a1_waits])), (q_a1_km, .inl (g.X.cI, 8, .inl a1_km))] 28 rfl 0 rfl rfl rfl (Nat.le_of_ble_eq_true rfl) rfl dX2_speak_25 ?_
  refine st_aload_n G 29 rfl 0 rfl dX2_speak_28 rfl ?_
  refine st_iconst G 30 rfl (0 : Int32) (by decide) dX2_speak_29 ?_
  refine st_put G inX2 tyX2 tyX2_ok nmX2 rfl 2 (by decide) wd_819 rfl [(q_t, .inr (2, [.ref q_t_bodies, .int (0 : Int32), .int (0 : Int32), .int x2, .int r_8, .int r_17])), (q_t_bodies, .inl (g.X.cI, 30, .inl c_bodies)), (q_a1, .inr (5, [.int a1_people, .ref q_a1_km, .ref q_a1_father, .ref q_a1_mother, .ref q_a1_from, .ref q_a1_spoons, .ref q_a1_owed, .int a1_year, .int a1_z, .ref q_a1_tape, .int a1_bytes, .ref q_a1_tx0, .ref q_a1_tx1, .ref q_a1_waiting, .int a1_waits])), (q_a1_km, .inl (g.X.cI, 8, .inl a1_km))] 33 rfl 0 rfl rfl rfl (Nat.le_of_ble_eq_true rfl) rfl dX2_speak_30 ?_
  refine st_aload_n G 34 rfl 0 rfl dX2_speak_33 rfl ?_
  refine st_iload_n G 35 rfl 3 rfl dX2_speak_34 rfl ?_
  refine st_aload_n G 36 rfl 0 rfl dX2_speak_35 rfl ?_
  refine st_get G inX2 rfl 5 (by decide) wd_817 39 rfl 0 rfl rfl dX2_speak_36 ?_
  refine st_iload G 41 rfl 4 rfl dX2_speak_39 ?_
  refine st_iconst G 42 rfl (0 : Int32) (by decide) dX2_speak_41 ?_
  refine st_cVi G lk_X2_41 (c_X2_say 64 g.l g.D g.X q_t q_t_bodies (0 : Int32) (0 : Int32) x2 r_8 r_17 c_bodies x3 r_17 x4 (0 : Int32) _ h) ⟨rfl, rfl, ⟨Nat.le_of_ble_eq_true rfl, Nat.le_of_ble_eq_true rfl⟩, Nat.zero_le _, Nat.zero_le _⟩ 45 rfl [0, 1] rfl (by decide) 0 2 rfl rfl rfl (Nat.le_of_ble_eq_true rfl) rfl dX2_speak_42 (fun r_42 w hq => ?_)
  obtain ⟨c_begun_42, c_parted_42, c_bodies_42, h, rfl⟩ := hq
  refine st_wp (ws' := [(q_t, .inr (2, [.ref q_t_bodies, .int c_begun_42, .int c_parted_42, .int x2, .int r_8, .int r_17])), (q_t_bodies, .inl (g.X.cI, 30, .inl c_bodies_42)), (q_a1, .inr (5, [.int a1_people, .ref q_a1_km, .ref q_a1_father, .ref q_a1_mother, .ref q_a1_from, .ref q_a1_spoons, .ref q_a1_owed, .int a1_year, .int a1_z, .ref q_a1_tape, .int a1_bytes, .ref q_a1_tx0, .ref q_a1_tx1, .ref q_a1_waiting, .int a1_waits])), (q_a1_km, .inl (g.X.cI, 8, .inl a1_km))]) 4 [2, 3] (by decide) rfl rfl (by rfl) [(q_a1, .inr (5, [.int a1_people, .ref q_a1_km, .ref q_a1_father, .ref q_a1_mother, .ref q_a1_from, .ref q_a1_spoons, .ref q_a1_owed, .int a1_year, .int a1_z, .ref q_a1_tape, .int a1_bytes, .ref q_a1_tx0, .ref q_a1_tx1, .ref q_a1_waiting, .int a1_waits])), (q_a1_km, .inl (g.X.cI, 8, .inl a1_km))] (by rfl) rfl ?_
  exact R _ _ _ _ dX2_speak_45 (Nat.le_of_ble_eq_true rfl) ⟨_, _, _, _, _, _, h, rfl⟩
set_option maxRecDepth 100000 in
set_option maxHeartbeats 4000000 in
theorem c_X2_speak (l : Launch) (D : va_G) (X : XT) (q_t q_t_bodies q_a1 q_a1_km q_a1_father q_a1_mother q_a1_from q_a1_spoons q_a1_owed q_a1_tape q_a1_tx0 q_a1_tx1 q_a1_waiting : Nat) (c_begun : Int32) (c_parted : Int32) (c_k : Int32) (c_m : Int32) (c_own : Int32) (c_bodies : Nat → Int32) (a1_people : Int32) (a1_year : Int32) (a1_z : Int32) (a1_bytes : Int32) (a1_waits : Int32) (a1_km : Nat → Int32) (x2 : Int32) (x3 : Int32) (x4 : Int32) (Q : Int32 → (Int32) → (Int32) → (Int32) → (Int32) → (Int32) → (Nat → Int32) → Prop) (h : wp_X2_speak x2 x3 x4 c_begun c_parted c_k c_m c_own c_bodies a1_km Q) : CTi l D X yX2_speak cX2_speak 5 .int rm_X2_speak [.ref q_t, .ref q_a1, .int x2, .int x3, .int x4] [(q_t, .inr (2, [.ref q_t_bodies, .int c_begun, .int c_parted, .int c_k, .int c_m, .int c_own])), (q_t_bodies, .inl (X.cI, 30, .inl c_bodies)), (q_a1, .inr (5, [.int a1_people, .ref q_a1_km, .ref q_a1_father, .ref q_a1_mother, .ref q_a1_from, .ref q_a1_spoons, .ref q_a1_owed, .int a1_year, .int a1_z, .ref q_a1_tape, .int a1_bytes, .ref q_a1_tx0, .ref q_a1_tx1, .ref q_a1_waiting, .int a1_waits])), (q_a1_km, .inl (X.cI, 8, .inl a1_km))] (fun (r : Int32) w => ∃ (c_begun' : Int32) (c_parted' : Int32) (c_k' : Int32) (c_m' : Int32) (c_own' : Int32) (c_bodies' : Nat → Int32), Q r c_begun' c_parted' c_k' c_m' c_own' c_bodies' ∧ w = [(q_t, .inr (2, [.ref q_t_bodies, .int c_begun', .int c_parted', .int c_k', .int c_m', .int c_own'])), (q_t_bodies, .inl (X.cI, 30, .inl c_bodies')), (q_a1, .inr (5, [.int a1_people, .ref q_a1_km, .ref q_a1_father, .ref q_a1_mother, .ref q_a1_from, .ref q_a1_spoons, .ref q_a1_owed, .int a1_year, .int a1_z, .ref q_a1_tape, .int a1_bytes, .ref q_a1_tx0, .ref q_a1_tx1, .ref q_a1_waiting, .int a1_waits])), (q_a1_km, .inl (X.cI, 8, .inl a1_km))]) :=
  ct_i (by decide) (Nat.le_of_ble_eq_true rfl) (fun g hl hD hX G R => by subst hl; subst hD; subst hX; exact b_X2_speak_e G R h)
set_option maxRecDepth 100000 in
set_option maxHeartbeats 4000000 in
theorem b_X6_voice_e {g : GT} (G : GOOD g RX6 cX6_voice 5 rm_X6_voice) {q_t q_t_w q_t_w_km q_t_w_father q_t_w_mother q_t_w_from q_t_w_spoons q_t_w_owed q_t_w_tape q_t_w_tx0 q_t_w_tx1 q_t_w_waiting q_t_k q_t_errors q_t_sheets q_t_r q_t_th q_t_sp q_t_sp_bodies : Nat} {c_images : Int32} {w_people : Int32} {w_year : Int32} {w_z : Int32} {w_bytes : Int32} {w_waits : Int32} {w_km : Nat → Int32} {c_errors : Nat → Int32} {sp_begun : Int32} {sp_parted : Int32} {sp_k : Int32} {sp_m : Int32} {sp_own : Int32} {sp_bodies : Nat → Int32} {x1 : Int32} {x2 : Int32} {x3 : Int32} {Q : Int32 → (Nat → Int32) → (Int32) → (Int32) → (Int32) → (Int32) → (Int32) → (Nat → Int32) → Prop} (R : RETi g cX6_voice 6 (fun (r : Int32) w => ∃ (c_errors' : Nat → Int32) (sp_begun' : Int32) (sp_parted' : Int32) (sp_k' : Int32) (sp_m' : Int32) (sp_own' : Int32) (sp_bodies' : Nat → Int32), Q r c_errors' sp_begun' sp_parted' sp_k' sp_m' sp_own' sp_bodies' ∧ w = [(q_t, .inr (6, [.ref q_t_w, .ref q_t_k, .int c_images, .ref q_t_errors, .ref q_t_sheets, .ref q_t_r, .ref q_t_th, .ref q_t_sp])), (q_t_w, .inr (5, [.int w_people, .ref q_t_w_km, .ref q_t_w_father, .ref q_t_w_mother, .ref q_t_w_from, .ref q_t_w_spoons, .ref q_t_w_owed, .int w_year, .int w_z, .ref q_t_w_tape, .int w_bytes, .ref q_t_w_tx0, .ref q_t_w_tx1, .ref q_t_w_waiting, .int w_waits])), (q_t_w_km, .inl (g.X.cI, 8, .inl w_km)), (q_t_errors, .inl (g.X.cI, 7, .inl c_errors')), (q_t_sp, .inr (2, [.ref q_t_sp_bodies, .int sp_begun', .int sp_parted', .int sp_k', .int sp_m', .int sp_own'])), (q_t_sp_bodies, .inl (g.X.cI, 30, .inl sp_bodies'))])) (h : wp_X6_voice x1 x2 x3 w_people w_km c_errors sp_begun sp_parted sp_k sp_m sp_own sp_bodies Q) : ST g 0 0 0 [(0, .ref q_t), (1, .int x1), (2, .int x2), (3, .int x3)] [] [(q_t, .inr (6, [.ref q_t_w, .ref q_t_k, .int c_images, .ref q_t_errors, .ref q_t_sheets, .ref q_t_r, .ref q_t_th, .ref q_t_sp])), (q_t_w, .inr (5, [.int w_people, .ref q_t_w_km, .ref q_t_w_father, .ref q_t_w_mother, .ref q_t_w_from, .ref q_t_w_spoons, .ref q_t_w_owed, .int w_year, .int w_z, .ref q_t_w_tape, .int w_bytes, .ref q_t_w_tx0, .ref q_t_w_tx1, .ref q_t_w_waiting, .int w_waits])), (q_t_w_km, .inl (g.X.cI, 8, .inl w_km)), (q_t_errors, .inl (g.X.cI, 7, .inl c_errors)), (q_t_sp, .inr (2, [.ref q_t_sp_bodies, .int sp_begun, .int sp_parted, .int sp_k, .int sp_m, .int sp_own])), (q_t_sp_bodies, .inl (g.X.cI, 30, .inl sp_bodies))] := by
  unfold wp_X6_voice at h
  refine st_aload_n G 1 rfl 0 rfl dX6_voice_0 rfl ?_
  refine st_iload_n G 2 rfl 1 rfl dX6_voice_1 rfl ?_
  refine st_cVio G lk_X6_74 (c_X6_notOne g.l g.D g.X q_t q_t_w q_t_w_km q_t_w_father q_t_w_mother q_t_w_from q_t_w_spoons q_t_w_owed q_t_w_tape q_t_w_tx0 q_t_w_tx1 q_t_w_waiting q_t_k q_t_errors q_t_sheets q_t_r q_t_th q_t_sp c_images w_people w_year w_z w_bytes w_waits x1 _ h) ⟨rfl, rfl, ⟨Nat.le_of_ble_eq_true rfl, Nat.le_of_ble_eq_true rfl⟩, Nat.zero_le _, Nat.zero_le _⟩ 5 rfl [0, 1] rfl (by decide) 0 6 rfl rfl rfl (Nat.le_of_ble_eq_true rfl) rfl dX6_voice_2 (fun r_2 h => ?_)
  refine st_if_ne G 17 8 rfl dX6_voice_5 rfl (fun c => ?_) (fun c => ?_)
  · have h := h.1 c
    refine st_aload_n G 18 rfl 0 rfl dX6_voice_17 rfl ?_
    refine st_iconst G 19 rfl (1 : Int32) (by decide) dX6_voice_18 ?_
    refine st_cVi G lk_X6_55 (c_X6_error g.l g.D g.X q_t q_t_w q_t_k q_t_errors q_t_sheets q_t_r q_t_th q_t_sp c_images c_errors (1 : Int32) _ h) ⟨rfl, rfl, ⟨Nat.le_of_ble_eq_true rfl, Nat.le_of_ble_eq_true rfl⟩, Nat.zero_le _, Nat.zero_le _⟩ 22 rfl [0, 3] rfl (by decide) 0 6 rfl rfl rfl (Nat.le_of_ble_eq_true rfl) rfl dX6_voice_19 (fun r_19 w hq => ?_)
    obtain ⟨c_errors_19, h, rfl⟩ := hq
    refine st_wp (ws' := [(q_t, .inr (6, [.ref q_t_w, .ref q_t_k, .int c_images, .ref q_t_errors, .ref q_t_sheets, .ref q_t_r, .ref q_t_th, .ref q_t_sp])), (q_t_w, .inr (5, [.int w_people, .ref q_t_w_km, .ref q_t_w_father, .ref q_t_w_mother, .ref q_t_w_from, .ref q_t_w_spoons, .ref q_t_w_owed, .int w_year, .int w_z, .ref q_t_w_tape, .int w_bytes, .ref q_t_w_tx0, .ref q_t_w_tx1, .ref q_t_w_waiting, .int w_waits])), (q_t_w_km, .inl (g.X.cI, 8, .inl w_km)), (q_t_errors, .inl (g.X.cI, 7, .inl c_errors_19)), (q_t_sp, .inr (2, [.ref q_t_sp_bodies, .int sp_begun, .int sp_parted, .int sp_k, .int sp_m, .int sp_own])), (q_t_sp_bodies, .inl (g.X.cI, 30, .inl sp_bodies))]) 6 [1, 2, 4, 5] (by decide) rfl rfl (by rfl) [(q_t_w, .inr (5, [.int w_people, .ref q_t_w_km, .ref q_t_w_father, .ref q_t_w_mother, .ref q_t_w_from, .ref q_t_w_spoons, .ref q_t_w_owed, .int w_year, .int w_z, .ref q_t_w_tape, .int w_bytes, .ref q_t_w_tx0, .ref q_t_w_tx1, .ref q_t_w_waiting, .int w_waits])), (q_t_w_km, .inl (g.X.cI, 8, .inl w_km)), (q_t_sp, .inr (2, [.ref q_t_sp_bodies, .int sp_begun, .int sp_parted, .int sp_k, .int sp_m, .int sp_own])), (q_t_sp_bodies, .inl (g.X.cI, 30, .inl sp_bodies))] (by rfl) rfl ?_
    exact R _ _ _ _ dX6_voice_22 (Nat.le_of_ble_eq_true rfl) ⟨_, _, _, _, _, _, _, h, rfl⟩
  have h := h.2 c
  refine st_iload_n G 9 rfl 2 rfl dX6_voice_8 rfl ?_
  refine st_iconst G 10 rfl (0 : Int32) (by decide) dX6_voice_9 ?_
  refine st_iconst G 11 rfl (3 : Int32) (by decide) dX6_voice_10 ?_
  refine st_cSio G lk_X6_115 (c_X6_notWithin g.l g.D g.X x2 (0 : Int32) (3 : Int32) _ h) ⟨rfl, rfl, ⟨Nat.le_of_ble_eq_true rfl, Nat.le_of_ble_eq_true rfl⟩, Nat.zero_le _, Nat.zero_le _⟩ 14 rfl [] rfl (by decide) rfl (Nat.le_of_ble_eq_true rfl) rfl dX6_voice_11 (fun r_11 h => ?_)
  refine st_if_eq G 23 17 rfl dX6_voice_14 rfl (fun c => ?_) (fun c => ?_)
  · have h := h.1 c
    refine st_aload_n G 24 rfl 0 rfl dX6_voice_23 rfl ?_
    refine st_get G inX6 rfl 7 (by decide) wd_35 27 rfl 0 rfl rfl dX6_voice_24 ?_
    refine st_aload_n G 28 rfl 0 rfl dX6_voice_27 rfl ?_
    refine st_get G inX6 rfl 0 (by decide) wd_16 31 rfl 0 rfl rfl dX6_voice_28 ?_
    refine st_iload_n G 32 rfl 1 rfl dX6_voice_31 rfl ?_
    refine st_iload_n G 33 rfl 2 rfl dX6_voice_32 rfl ?_
    refine st_iload_n G 34 rfl 3 rfl dX6_voice_33 rfl ?_
    refine st_cVi G lk_X6_241 (c_X2_speak g.l g.D g.X q_t_sp q_t_sp_bodies q_t_w q_t_w_km q_t_w_father q_t_w_mother q_t_w_from q_t_w_spoons q_t_w_owed q_t_w_tape q_t_w_tx0 q_t_w_tx1 q_t_w_waiting sp_begun sp_parted sp_k sp_m sp_own sp_bodies w_people w_year w_z w_bytes w_waits w_km x1 x2 x3 _ h) ⟨rfl, rfl, ⟨Nat.le_of_ble_eq_true rfl, Nat.le_of_ble_eq_true rfl⟩, Nat.zero_le _, Nat.zero_le _⟩ 37 rfl [4, 5, 1, 2] rfl (by decide) 0 2 rfl rfl rfl (Nat.le_of_ble_eq_true rfl) rfl dX6_voice_34 (fun r_34 w hq => ?_)
    obtain ⟨sp_begun_34, sp_parted_34, sp_k_34, sp_m_34, sp_own_34, sp_bodies_34, h, rfl⟩ := hq
    refine st_wp (ws' := [(q_t, .inr (6, [.ref q_t_w, .ref q_t_k, .int c_images, .ref q_t_errors, .ref q_t_sheets, .ref q_t_r, .ref q_t_th, .ref q_t_sp])), (q_t_w, .inr (5, [.int w_people, .ref q_t_w_km, .ref q_t_w_father, .ref q_t_w_mother, .ref q_t_w_from, .ref q_t_w_spoons, .ref q_t_w_owed, .int w_year, .int w_z, .ref q_t_w_tape, .int w_bytes, .ref q_t_w_tx0, .ref q_t_w_tx1, .ref q_t_w_waiting, .int w_waits])), (q_t_w_km, .inl (g.X.cI, 8, .inl w_km)), (q_t_errors, .inl (g.X.cI, 7, .inl c_errors)), (q_t_sp, .inr (2, [.ref q_t_sp_bodies, .int sp_begun_34, .int sp_parted_34, .int sp_k_34, .int sp_m_34, .int sp_own_34])), (q_t_sp_bodies, .inl (g.X.cI, 30, .inl sp_bodies_34))]) 6 [0, 3] (by decide) rfl rfl (by rfl) [(q_t, .inr (6, [.ref q_t_w, .ref q_t_k, .int c_images, .ref q_t_errors, .ref q_t_sheets, .ref q_t_r, .ref q_t_th, .ref q_t_sp])), (q_t_errors, .inl (g.X.cI, 7, .inl c_errors))] (by rfl) rfl ?_
    refine st_istore G 39 rfl [(4, .int r_34), (0, .ref q_t), (1, .int x1), (2, .int x2), (3, .int x3)] dX6_voice_37 (by decide) rfl ?_
    refine st_aload_n G 40 rfl 1 rfl dX6_voice_39 rfl ?_
    refine st_get G inX6 rfl 7 (by decide) wd_35 43 rfl 0 rfl rfl dX6_voice_40 ?_
    refine st_get G inX2 rfl 2 (by decide) wd_810 46 rfl 4 rfl rfl dX6_voice_43 ?_
    refine st_if_eq G 58 49 rfl dX6_voice_46 rfl (fun c => ?_) (fun c => ?_)
    · have h := h.1 c
      refine st_iload G 60 rfl 0 rfl dX6_voice_58 ?_
      exact R _ _ _ _ dX6_voice_60 (Nat.le_of_ble_eq_true rfl) ⟨_, _, _, _, _, _, _, h, rfl⟩
    have h := h.2 c
    refine st_aload_n G 50 rfl 1 rfl dX6_voice_49 rfl ?_
    refine st_bipush G 52 rfl (6 : Int32) (by decide) dX6_voice_50 ?_
    refine st_cVi G lk_X6_55 (c_X6_error g.l g.D g.X q_t q_t_w q_t_k q_t_errors q_t_sheets q_t_r q_t_th q_t_sp c_images c_errors (6 : Int32) _ h) ⟨rfl, rfl, ⟨Nat.le_of_ble_eq_true rfl, Nat.le_of_ble_eq_true rfl⟩, Nat.zero_le _, Nat.zero_le _⟩ 55 rfl [0, 3] rfl (by decide) 0 6 rfl rfl rfl (Nat.le_of_ble_eq_true rfl) rfl dX6_voice_52 (fun r_52 w hq => ?_)
    obtain ⟨c_errors_52, h, rfl⟩ := hq
    refine st_wp (ws' := [(q_t, .inr (6, [.ref q_t_w, .ref q_t_k, .int c_images, .ref q_t_errors, .ref q_t_sheets, .ref q_t_r, .ref q_t_th, .ref q_t_sp])), (q_t_w, .inr (5, [.int w_people, .ref q_t_w_km, .ref q_t_w_father, .ref q_t_w_mother, .ref q_t_w_from, .ref q_t_w_spoons, .ref q_t_w_owed, .int w_year, .int w_z, .ref q_t_w_tape, .int w_bytes, .ref q_t_w_tx0, .ref q_t_w_tx1, .ref q_t_w_waiting, .int w_waits])), (q_t_w_km, .inl (g.X.cI, 8, .inl w_km)), (q_t_errors, .inl (g.X.cI, 7, .inl c_errors_52)), (q_t_sp, .inr (2, [.ref q_t_sp_bodies, .int sp_begun_34, .int sp_parted_34, .int sp_k_34, .int sp_m_34, .int sp_own_34])), (q_t_sp_bodies, .inl (g.X.cI, 30, .inl sp_bodies_34))]) 6 [1, 2, 4, 5] (by decide) rfl rfl (by rfl) [(q_t_w, .inr (5, [.int w_people, .ref q_t_w_km, .ref q_t_w_father, .ref q_t_w_mother, .ref q_t_w_from, .ref q_t_w_spoons, .ref q_t_w_owed, .int w_year, .int w_z, .ref q_t_w_tape, .int w_bytes, .ref q_t_w_tx0, .ref q_t_w_tx1, .ref q_t_w_waiting, .int w_waits])), (q_t_w_km, .inl (g.X.cI, 8, .inl w_km)), (q_t_sp, .inr (2, [.ref q_t_sp_bodies, .int sp_begun_34, .int sp_parted_34, .int sp_k_34, .int sp_m_34, .int sp_own_34])), (q_t_sp_bodies, .inl (g.X.cI, 30, .inl sp_bodies_34))] (by rfl) rfl ?_
    refine st_goto G 60 dX6_voice_55 rfl ?_
    exact R _ _ _ _ dX6_voice_60 (Nat.le_of_ble_eq_true rfl) ⟨_, _, _, _, _, _, _, h, rfl⟩
  have h := h.2 c
  refine st_aload_n G 18 rfl 0 rfl dX6_voice_17 rfl ?_
  refine st_iconst G 19 rfl (1 : Int32) (by decide) dX6_voice_18 ?_
  refine st_cVi G lk_X6_55 (c_X6_error g.l g.D g.X q_t q_t_w q_t_k q_t_errors q_t_sheets q_t_r q_t_th q_t_sp c_images c_errors (1 : Int32) _ h) ⟨rfl, rfl, ⟨Nat.le_of_ble_eq_true rfl, Nat.le_of_ble_eq_true rfl⟩, Nat.zero_le _, Nat.zero_le _⟩ 22 rfl [0, 3] rfl (by decide) 0 6 rfl rfl rfl (Nat.le_of_ble_eq_true rfl) rfl dX6_voice_19 (fun r_19 w hq => ?_)
  obtain ⟨c_errors_19, h, rfl⟩ := hq
  refine st_wp (ws' := [(q_t, .inr (6, [.ref q_t_w, .ref q_t_k, .int c_images, .ref q_t_errors, .ref q_t_sheets, .ref q_t_r, .ref q_t_th, .ref q_t_sp])), (q_t_w, .inr (5, [.int w_people, .ref q_t_w_km, .ref q_t_w_father, .ref q_t_w_mother, .ref q_t_w_from, .ref q_t_w_spoons, .ref q_t_w_owed, .int w_year, .int w_z, .ref q_t_w_tape, .int w_bytes, .ref q_t_w_tx0, .ref q_t_w_tx1, .ref q_t_w_waiting, .int w_waits])), (q_t_w_km, .inl (g.X.cI, 8, .inl w_km)), (q_t_errors, .inl (g.X.cI, 7, .inl c_errors_19)), (q_t_sp, .inr (2, [.ref q_t_sp_bodies, .int sp_begun, .int sp_parted, .int sp_k, .int sp_m, .int sp_own])), (q_t_sp_bodies, .inl (g.X.cI, 30, .inl sp_bodies))]) 6 [1, 2, 4, 5] (by decide) rfl rfl (by rfl) [(q_t_w, .inr (5, [.int w_people, .ref q_t_w_km, .ref q_t_w_father, .ref q_t_w_mother, .ref q_t_w_from, .ref q_t_w_spoons, .ref q_t_w_owed, .int w_year, .int w_z, .ref q_t_w_tape, .int w_bytes, .ref q_t_w_tx0, .ref q_t_w_tx1, .ref q_t_w_waiting, .int w_waits])), (q_t_w_km, .inl (g.X.cI, 8, .inl w_km)), (q_t_sp, .inr (2, [.ref q_t_sp_bodies, .int sp_begun, .int sp_parted, .int sp_k, .int sp_m, .int sp_own])), (q_t_sp_bodies, .inl (g.X.cI, 30, .inl sp_bodies))] (by rfl) rfl ?_
  exact R _ _ _ _ dX6_voice_22 (Nat.le_of_ble_eq_true rfl) ⟨_, _, _, _, _, _, _, h, rfl⟩
set_option maxRecDepth 100000 in
set_option maxHeartbeats 4000000 in
theorem c_X6_voice (l : Launch) (D : va_G) (X : XT) (q_t q_t_w q_t_w_km q_t_w_father q_t_w_mother q_t_w_from q_t_w_spoons q_t_w_owed q_t_w_tape q_t_w_tx0 q_t_w_tx1 q_t_w_waiting q_t_k q_t_errors q_t_sheets q_t_r q_t_th q_t_sp q_t_sp_bodies : Nat) (c_images : Int32) (w_people : Int32) (w_year : Int32) (w_z : Int32) (w_bytes : Int32) (w_waits : Int32) (w_km : Nat → Int32) (c_errors : Nat → Int32) (sp_begun : Int32) (sp_parted : Int32) (sp_k : Int32) (sp_m : Int32) (sp_own : Int32) (sp_bodies : Nat → Int32) (x1 : Int32) (x2 : Int32) (x3 : Int32) (Q : Int32 → (Nat → Int32) → (Int32) → (Int32) → (Int32) → (Int32) → (Int32) → (Nat → Int32) → Prop) (h : wp_X6_voice x1 x2 x3 w_people w_km c_errors sp_begun sp_parted sp_k sp_m sp_own sp_bodies Q) : CTi l D X yX6_voice cX6_voice 5 .int rm_X6_voice [.ref q_t, .int x1, .int x2, .int x3] [(q_t, .inr (6, [.ref q_t_w, .ref q_t_k, .int c_images, .ref q_t_errors, .ref q_t_sheets, .ref q_t_r, .ref q_t_th, .ref q_t_sp])), (q_t_w, .inr (5, [.int w_people, .ref q_t_w_km, .ref q_t_w_father, .ref q_t_w_mother, .ref q_t_w_from, .ref q_t_w_spoons, .ref q_t_w_owed, .int w_year, .int w_z, .ref q_t_w_tape, .int w_bytes, .ref q_t_w_tx0, .ref q_t_w_tx1, .ref q_t_w_waiting, .int w_waits])), (q_t_w_km, .inl (X.cI, 8, .inl w_km)), (q_t_errors, .inl (X.cI, 7, .inl c_errors)), (q_t_sp, .inr (2, [.ref q_t_sp_bodies, .int sp_begun, .int sp_parted, .int sp_k, .int sp_m, .int sp_own])), (q_t_sp_bodies, .inl (X.cI, 30, .inl sp_bodies))] (fun (r : Int32) w => ∃ (c_errors' : Nat → Int32) (sp_begun' : Int32) (sp_parted' : Int32) (sp_k' : Int32) (sp_m' : Int32) (sp_own' : Int32) (sp_bodies' : Nat → Int32), Q r c_errors' sp_begun' sp_parted' sp_k' sp_m' sp_own' sp_bodies' ∧ w = [(q_t, .inr (6, [.ref q_t_w, .ref q_t_k, .int c_images, .ref q_t_errors, .ref q_t_sheets, .ref q_t_r, .ref q_t_th, .ref q_t_sp])), (q_t_w, .inr (5, [.int w_people, .ref q_t_w_km, .ref q_t_w_father, .ref q_t_w_mother, .ref q_t_w_from, .ref q_t_w_spoons, .ref q_t_w_owed, .int w_year, .int w_z, .ref q_t_w_tape, .int w_bytes, .ref q_t_w_tx0, .ref q_t_w_tx1, .ref q_t_w_waiting, .int w_waits])), (q_t_w_km, .inl (X.cI, 8, .inl w_km)), (q_t_errors, .inl (X.cI, 7, .inl c_errors')), (q_t_sp, .inr (2, [.ref q_t_sp_bodies, .int sp_begun', .int sp_parted', .int sp_k', .int sp_m', .int sp_own'])), (q_t_sp_bodies, .inl (X.cI, 30, .inl sp_bodies'))]) :=
  ct_i (by decide) (Nat.le_of_ble_eq_true rfl) (fun g hl hD hX G R => by subst hl; subst hD; subst hX; exact b_X6_voice_e G R h)
set_option maxRecDepth 100000 in
set_option maxHeartbeats 4000000 in
theorem b_X6_body_e {g : GT} (G : GOOD g RX6 cX6_body 2 rm_X6_body) {q_t q_t_w q_t_k q_t_errors q_t_sheets q_t_r q_t_th q_t_sp q_t_sp_bodies : Nat} {c_images : Int32} {c_errors : Nat → Int32} {sp_begun : Int32} {sp_parted : Int32} {sp_k : Int32} {sp_m : Int32} {sp_own : Int32} {sp_bodies : Nat → Int32} {x1 : Int32} {Q : Int32 → (Nat → Int32) → Prop} (R : RETi g cX6_body 4 (fun (r : Int32) w => ∃ (c_errors' : Nat → Int32), Q r c_errors' ∧ w = [(q_t, .inr (6, [.ref q_t_w, .ref q_t_k, .int c_images, .ref q_t_errors, .ref q_t_sheets, .ref q_t_r, .ref q_t_th, .ref q_t_sp])), (q_t_errors, .inl (g.X.cI, 7, .inl c_errors')), (q_t_sp, .inr (2, [.ref q_t_sp_bodies, .int sp_begun, .int sp_parted, .int sp_k, .int sp_m, .int sp_own])), (q_t_sp_bodies, .inl (g.X.cI, 30, .inl sp_bodies))])) (h : wp_X6_body x1 c_errors sp_begun sp_bodies Q) : ST g 0 0 0 [(0, .ref q_t), (1, .int x1)] [] [(q_t, .inr (6, [.ref q_t_w, .ref q_t_k, .int c_images, .ref q_t_errors, .ref q_t_sheets, .ref q_t_r, .ref q_t_th, .ref q_t_sp])), (q_t_errors, .inl (g.X.cI, 7, .inl c_errors)), (q_t_sp, .inr (2, [.ref q_t_sp_bodies, .int sp_begun, .int sp_parted, .int sp_k, .int sp_m, .int sp_own])), (q_t_sp_bodies, .inl (g.X.cI, 30, .inl sp_bodies))] := by
  unfold wp_X6_body at h
  refine st_iload_n G 1 rfl 1 rfl dX6_body_0 rfl ?_
  refine st_if_lt G 15 4 rfl dX6_body_1 rfl (fun c => ?_) (fun c => ?_)
  · have h := h.1 c
    refine st_aload_n G 16 rfl 0 rfl dX6_body_15 rfl ?_
    refine st_iconst G 17 rfl (2 : Int32) (by decide) dX6_body_16 ?_
    refine st_cVi G lk_X6_55 (c_X6_error g.l g.D g.X q_t q_t_w q_t_k q_t_errors q_t_sheets q_t_r q_t_th q_t_sp c_images c_errors (2 : Int32) _ h) ⟨rfl, rfl, ⟨Nat.le_of_ble_eq_true rfl, Nat.le_of_ble_eq_true rfl⟩, Nat.zero_le _, Nat.zero_le _⟩ 20 rfl [0, 1] rfl (by decide) 0 6 rfl rfl rfl (Nat.le_of_ble_eq_true rfl) rfl dX6_body_17 (fun r_17 w hq => ?_)
    obtain ⟨c_errors_17, h, rfl⟩ := hq
    refine st_wp (ws' := [(q_t, .inr (6, [.ref q_t_w, .ref q_t_k, .int c_images, .ref q_t_errors, .ref q_t_sheets, .ref q_t_r, .ref q_t_th, .ref q_t_sp])), (q_t_errors, .inl (g.X.cI, 7, .inl c_errors_17)), (q_t_sp, .inr (2, [.ref q_t_sp_bodies, .int sp_begun, .int sp_parted, .int sp_k, .int sp_m, .int sp_own])), (q_t_sp_bodies, .inl (g.X.cI, 30, .inl sp_bodies))]) 4 [2, 3] (by decide) rfl rfl (by rfl) [(q_t_sp, .inr (2, [.ref q_t_sp_bodies, .int sp_begun, .int sp_parted, .int sp_k, .int sp_m, .int sp_own])), (q_t_sp_bodies, .inl (g.X.cI, 30, .inl sp_bodies))] (by rfl) rfl ?_
    exact R _ _ _ _ dX6_body_20 (Nat.le_of_ble_eq_true rfl) ⟨_, h, rfl⟩
  have h := h.2 c
  refine st_iload_n G 5 rfl 1 rfl dX6_body_4 rfl ?_
  refine st_aload_n G 6 rfl 0 rfl dX6_body_5 rfl ?_
  refine st_get G inX6 rfl 7 (by decide) wd_35 9 rfl 0 rfl rfl dX6_body_6 ?_
  refine st_get G inX2 rfl 1 (by decide) wd_877 12 rfl 2 rfl rfl dX6_body_9 ?_
  refine st_icmp_lt G 21 15 rfl dX6_body_12 rfl (fun c => ?_) (fun c => ?_)
  · have h := h.1 c
    refine st_aload_n G 22 rfl 0 rfl dX6_body_21 rfl ?_
    refine st_get G inX6 rfl 7 (by decide) wd_35 25 rfl 0 rfl rfl dX6_body_22 ?_
    refine st_get G inX2 rfl 0 (by decide) wd_878 28 rfl 2 rfl rfl dX6_body_25 ?_
    refine st_iload_n G 29 rfl 1 rfl dX6_body_28 rfl ?_
    obtain ⟨hin, h⟩ := h
    refine st_iald G 30 rfl 3 rfl hin dX6_body_29 ?_
    exact R _ _ _ _ dX6_body_30 (Nat.le_of_ble_eq_true rfl) ⟨_, h, rfl⟩
  have h := h.2 c
  refine st_aload_n G 16 rfl 0 rfl dX6_body_15 rfl ?_
  refine st_iconst G 17 rfl (2 : Int32) (by decide) dX6_body_16 ?_
  refine st_cVi G lk_X6_55 (c_X6_error g.l g.D g.X q_t q_t_w q_t_k q_t_errors q_t_sheets q_t_r q_t_th q_t_sp c_images c_errors (2 : Int32) _ h) ⟨rfl, rfl, ⟨Nat.le_of_ble_eq_true rfl, Nat.le_of_ble_eq_true rfl⟩, Nat.zero_le _, Nat.zero_le _⟩ 20 rfl [0, 1] rfl (by decide) 0 6 rfl rfl rfl (Nat.le_of_ble_eq_true rfl) rfl dX6_body_17 (fun r_17 w hq => ?_)
  obtain ⟨c_errors_17, h, rfl⟩ := hq
  refine st_wp (ws' := [(q_t, .inr (6, [.ref q_t_w, .ref q_t_k, .int c_images, .ref q_t_errors, .ref q_t_sheets, .ref q_t_r, .ref q_t_th, .ref q_t_sp])), (q_t_errors, .inl (g.X.cI, 7, .inl c_errors_17)), (q_t_sp, .inr (2, [.ref q_t_sp_bodies, .int sp_begun, .int sp_parted, .int sp_k, .int sp_m, .int sp_own])), (q_t_sp_bodies, .inl (g.X.cI, 30, .inl sp_bodies))]) 4 [2, 3] (by decide) rfl rfl (by rfl) [(q_t_sp, .inr (2, [.ref q_t_sp_bodies, .int sp_begun, .int sp_parted, .int sp_k, .int sp_m, .int sp_own])), (q_t_sp_bodies, .inl (g.X.cI, 30, .inl sp_bodies))] (by rfl) rfl ?_
  exact R _ _ _ _ dX6_body_20 (Nat.le_of_ble_eq_true rfl) ⟨_, h, rfl⟩
set_option maxRecDepth 100000 in
set_option maxHeartbeats 4000000 in
theorem c_X6_body (l : Launch) (D : va_G) (X : XT) (q_t q_t_w q_t_k q_t_errors q_t_sheets q_t_r q_t_th q_t_sp q_t_sp_bodies : Nat) (c_images : Int32) (c_errors : Nat → Int32) (sp_begun : Int32) (sp_parted : Int32) (sp_k : Int32) (sp_m : Int32) (sp_own : Int32) (sp_bodies : Nat → Int32) (x1 : Int32) (Q : Int32 → (Nat → Int32) → Prop) (h : wp_X6_body x1 c_errors sp_begun sp_bodies Q) : CTi l D X yX6_body cX6_body 2 .int rm_X6_body [.ref q_t, .int x1] [(q_t, .inr (6, [.ref q_t_w, .ref q_t_k, .int c_images, .ref q_t_errors, .ref q_t_sheets, .ref q_t_r, .ref q_t_th, .ref q_t_sp])), (q_t_errors, .inl (X.cI, 7, .inl c_errors)), (q_t_sp, .inr (2, [.ref q_t_sp_bodies, .int sp_begun, .int sp_parted, .int sp_k, .int sp_m, .int sp_own])), (q_t_sp_bodies, .inl (X.cI, 30, .inl sp_bodies))] (fun (r : Int32) w => ∃ (c_errors' : Nat → Int32), Q r c_errors' ∧ w = [(q_t, .inr (6, [.ref q_t_w, .ref q_t_k, .int c_images, .ref q_t_errors, .ref q_t_sheets, .ref q_t_r, .ref q_t_th, .ref q_t_sp])), (q_t_errors, .inl (X.cI, 7, .inl c_errors')), (q_t_sp, .inr (2, [.ref q_t_sp_bodies, .int sp_begun, .int sp_parted, .int sp_k, .int sp_m, .int sp_own])), (q_t_sp_bodies, .inl (X.cI, 30, .inl sp_bodies))]) :=
  ct_i (by decide) (Nat.le_of_ble_eq_true rfl) (fun g hl hD hX G R => by subst hl; subst hD; subst hX; exact b_X6_body_e G R h)
set_option maxRecDepth 100000 in
set_option maxHeartbeats 4000000 in
theorem b_X1_begin_12 {g : GT} (G : GOOD g RX1 cX1_begin 4 rm_X1_begin) {q_t q_t_numbers : Nat} {Q : (Int32) → (Int32) → (Nat → Int32) → Prop} (R : RETv g cX1_begin 0 0 2 (fun w => ∃ (c_bits' : Int32) (c_length' : Int32) (c_numbers' : Nat → Int32), Q c_bits' c_length' c_numbers' ∧ w = [(q_t, .inr (1, [.ref q_t_numbers, .int c_bits', .int c_length'])), (q_t_numbers, .inl (g.X.cI, 24, .inl c_numbers'))])) : ∀ (n : Nat) (x3 : Int32) (c_bits : Int32) (c_length : Int32) (c_numbers : Nat → Int32), wp_X1_begin_b12 Q n x3 c_bits c_length c_numbers → ST g 0 0 12 [(0, .ref q_t), (3, .int x3)] [] [(q_t, .inr (1, [.ref q_t_numbers, .int c_bits, .int c_length])), (q_t_numbers, .inl (g.X.cI, 24, .inl c_numbers))] := by
  intro n
  induction n with
  | zero => intro x3 c_bits c_length c_numbers h; exact False.elim h
  | succ n hK12 =>
    intro x3 c_bits c_length c_numbers h
    unfold wp_X1_begin_b12 at h
    refine st_iload_n G 13 rfl 1 rfl dX1_begin_12 rfl ?_
    refine st_bipush G 15 rfl (24 : Int32) (by decide) dX1_begin_13 ?_
    refine st_icmp_ge G 31 18 rfl dX1_begin_15 rfl (fun c => ?_) (fun c => ?_)
    · have h := h.1 c
      exact R _ _ _ dX1_begin_31 (Nat.le_of_ble_eq_true rfl) ⟨_, _, _, h, rfl⟩
    have h := h.2 c
    refine st_aload_n G 19 rfl 0 rfl dX1_begin_18 rfl ?_
    refine st_get G inX1 rfl 0 (by decide) wd_61 22 rfl 0 rfl rfl dX1_begin_19 ?_
    refine st_iload_n G 23 rfl 1 rfl dX1_begin_22 rfl ?_
    refine st_iconst G 24 rfl (0 : Int32) (by decide) dX1_begin_23 ?_
    obtain ⟨hin, h⟩ := h
    obtain ⟨c_numbers_24, ec_numbers_24⟩ : ∃ y : Nat → Int32, y = upd c_numbers x3.toNatClampNeg (0 : Int32) := ⟨_, rfl⟩
    have h := h c_numbers_24 ec_numbers_24
    refine st_iast G [(q_t, .inr (1, [.ref q_t_numbers, .int c_bits, .int c_length])), (q_t_numbers, .inl (g.X.cI, 24, .inl c_numbers_24))] 25 rfl 1 rfl hin (by subst ec_numbers_24; rfl) dX1_begin_24 ?_
    obtain ⟨x3_25, ex3_25⟩ : ∃ y : Int32, y = (x3 + (1 : Int32)) := ⟨_, rfl⟩
    have h := h x3_25 ex3_25
    refine st_iinc G 28 rfl [(3, .int x3_25), (0, .ref q_t)] x3_25 1 rfl (by rw [ex3_25]; rfl) dX1_begin_25 (by decide) rfl ?_
    refine st_goto G 12 dX1_begin_28 rfl ?_
    refine st_L (L' := [(0, .ref q_t), (3, .int x3_25)]) [1, 0] rfl ?_
    exact hK12 _ _ _ _ h
set_option maxRecDepth 100000 in
set_option maxHeartbeats 4000000 in
theorem b_X1_begin_e {g : GT} (G : GOOD g RX1 cX1_begin 4 rm_X1_begin) {q_t q_t_numbers : Nat} {c_bits : Int32} {c_length : Int32} {c_numbers : Nat → Int32} {x1 : Int32} {x2 : Int32} {Q : (Int32) → (Int32) → (Nat → Int32) → Prop} (R : RETv g cX1_begin 0 0 2 (fun w => ∃ (c_bits' : Int32) (c_length' : Int32) (c_numbers' : Nat → Int32), Q c_bits' c_length' c_numbers' ∧ w = [(q_t, .inr (1, [.ref q_t_numbers, .int c_bits', .int c_length'])), (q_t_numbers, .inl (g.X.cI, 24, .inl c_numbers'))])) (h : wp_X1_begin x1 x2 c_bits c_length c_numbers Q) : ST g 0 0 0 [(0, .ref q_t), (1, .int x1), (2, .int x2)] [] [(q_t, .inr (1, [.ref q_t_numbers, .int c_bits, .int c_length])), (q_t_numbers, .inl (g.X.cI, 24, .inl c_numbers))] := by
  unfold wp_X1_begin at h
  refine st_aload_n G 1 rfl 0 rfl dX1_begin_0 rfl ?_
  refine st_iload_n G 2 rfl 1 rfl dX1_begin_1 rfl ?_
  refine st_put G inX1 tyX1 tyX1_ok nmX1 rfl 1 (by decide) wd_776 rfl [(q_t, .inr (1, [.ref q_t_numbers, .int x1, .int c_length])), (q_t_numbers, .inl (g.X.cI, 24, .inl c_numbers))] 5 rfl 0 rfl rfl rfl (Nat.le_of_ble_eq_true rfl) rfl dX1_begin_2 ?_
  refine st_aload_n G 6 rfl 0 rfl dX1_begin_5 rfl ?_
  refine st_iload_n G 7 rfl 2 rfl dX1_begin_6 rfl ?_
  refine st_put G inX1 tyX1 tyX1_ok nmX1 rfl 2 (by decide) wd_895 rfl [(q_t, .inr (1, [.ref q_t_numbers, .int x1, .int x2])), (q_t_numbers, .inl (g.X.cI, 24, .inl c_numbers))] 10 rfl 0 rfl rfl rfl (Nat.le_of_ble_eq_true rfl) rfl dX1_begin_7 ?_
  refine st_iconst G 11 rfl (0 : Int32) (by decide) dX1_begin_10 ?_
  refine st_istore_n G 12 rfl [(3, .int (0 : Int32)), (0, .ref q_t), (1, .int x1), (2, .int x2)] dX1_begin_11 rfl (by decide) rfl ?_
  refine st_L (L' := [(0, .ref q_t), (3, .int (0 : Int32))]) [1, 0] rfl ?_
  obtain ⟨n, h⟩ := h
  exact b_X1_begin_12 G R n _ _ _ _ h
set_option maxRecDepth 100000 in
set_option maxHeartbeats 4000000 in
theorem c_X1_begin (l : Launch) (D : va_G) (X : XT) (q_t q_t_numbers : Nat) (c_bits : Int32) (c_length : Int32) (c_numbers : Nat → Int32) (x1 : Int32) (x2 : Int32) (Q : (Int32) → (Int32) → (Nat → Int32) → Prop) (h : wp_X1_begin x1 x2 c_bits c_length c_numbers Q) : CTv l D X yX1_begin cX1_begin 4 rm_X1_begin 0 0 [.ref q_t, .int x1, .int x2] [(q_t, .inr (1, [.ref q_t_numbers, .int c_bits, .int c_length])), (q_t_numbers, .inl (X.cI, 24, .inl c_numbers))] (fun w => ∃ (c_bits' : Int32) (c_length' : Int32) (c_numbers' : Nat → Int32), Q c_bits' c_length' c_numbers' ∧ w = [(q_t, .inr (1, [.ref q_t_numbers, .int c_bits', .int c_length'])), (q_t_numbers, .inl (X.cI, 24, .inl c_numbers'))]) :=
  ct_v (by decide) (Nat.le_of_ble_eq_true rfl) (fun g hl hD hX G _ R => by subst hl; subst hD; subst hX; exact b_X1_begin_e G R h)
set_option maxRecDepth 100000 in
set_option maxHeartbeats 4000000 in
theorem b_X1_lose_e {g : GT} (G : GOOD g RX1 cX1_lose 1 rm_X1_lose) {q_t q_t_numbers : Nat} {c_bits : Int32} {c_length : Int32} {c_numbers : Nat → Int32} {Q : (Int32) → (Int32) → (Nat → Int32) → Prop} (R : RETv g cX1_lose 0 0 2 (fun w => ∃ (c_bits' : Int32) (c_length' : Int32) (c_numbers' : Nat → Int32), Q c_bits' c_length' c_numbers' ∧ w = [(q_t, .inr (1, [.ref q_t_numbers, .int c_bits', .int c_length'])), (q_t_numbers, .inl (g.X.cI, 24, .inl c_numbers'))])) (h : wp_X1_lose c_bits c_length c_numbers Q) : ST g 0 0 0 [(0, .ref q_t)] [] [(q_t, .inr (1, [.ref q_t_numbers, .int c_bits, .int c_length])), (q_t_numbers, .inl (g.X.cI, 24, .inl c_numbers))] := by
  unfold wp_X1_lose at h
  refine st_aload_n G 1 rfl 0 rfl dX1_lose_0 rfl ?_
  refine st_iconst G 2 rfl (0 : Int32) (by decide) dX1_lose_1 ?_
  refine st_iconst G 3 rfl (0 : Int32) (by decide) dX1_lose_2 ?_
  refine st_cVv G lk_X1_19 (c_X1_begin g.l g.D g.X q_t q_t_numbers c_bits c_length c_numbers (0 : Int32) (0 : Int32) _ h) ⟨rfl, rfl, ⟨Nat.le_of_ble_eq_true rfl, Nat.le_of_ble_eq_true rfl⟩, Nat.zero_le _, Nat.zero_le _⟩ 6 rfl [0, 1] rfl (by decide) 0 1 rfl rfl rfl (Nat.le_of_ble_eq_true rfl) rfl dX1_lose_3 (fun w hq => ?_)
  obtain ⟨c_bits_3, c_length_3, c_numbers_3, h, rfl⟩ := hq
  refine st_wp (ws' := [(q_t, .inr (1, [.ref q_t_numbers, .int c_bits_3, .int c_length_3])), (q_t_numbers, .inl (g.X.cI, 24, .inl c_numbers_3))]) 2 [] (by decide) rfl rfl (by rfl) [] (by rfl) rfl ?_
  exact R _ _ _ dX1_lose_6 (Nat.le_of_ble_eq_true rfl) ⟨_, _, _, h, rfl⟩
set_option maxRecDepth 100000 in
set_option maxHeartbeats 4000000 in
theorem c_X1_lose (l : Launch) (D : va_G) (X : XT) (q_t q_t_numbers : Nat) (c_bits : Int32) (c_length : Int32) (c_numbers : Nat → Int32) (Q : (Int32) → (Int32) → (Nat → Int32) → Prop) (h : wp_X1_lose c_bits c_length c_numbers Q) : CTv l D X yX1_lose cX1_lose 1 rm_X1_lose 0 0 [.ref q_t] [(q_t, .inr (1, [.ref q_t_numbers, .int c_bits, .int c_length])), (q_t_numbers, .inl (X.cI, 24, .inl c_numbers))] (fun w => ∃ (c_bits' : Int32) (c_length' : Int32) (c_numbers' : Nat → Int32), Q c_bits' c_length' c_numbers' ∧ w = [(q_t, .inr (1, [.ref q_t_numbers, .int c_bits', .int c_length'])), (q_t_numbers, .inl (X.cI, 24, .inl c_numbers'))]) :=
  ct_v (by decide) (Nat.le_of_ble_eq_true rfl) (fun g hl hD hX G _ R => by subst hl; subst hD; subst hX; exact b_X1_lose_e G R h)
set_option maxRecDepth 100000 in
set_option maxHeartbeats 4000000 in
theorem b_X6_sheet_35 {g : GT} (G : GOOD g RX6 cX6_sheet 4 rm_X6_sheet) {q_t q_t_w q_t_k q_t_errors q_t_sheets q_t_sh0 q_t_sh0_numbers q_t_sh1 q_t_sh1_numbers q_t_sh2 q_t_sh2_numbers q_t_sh3 q_t_sh3_numbers q_t_r q_t_th q_t_sp : Nat} {c_images : Int32} {Q : Int32 → (Nat → Int32) → (Nat → Int32) → (Nat → Int32) → (Nat → Nat → Int32) → Prop} (R : RETi g cX6_sheet 11 (fun (r : Int32) w => ∃ (c_errors' : Nat → Int32) (c_sh_bits' : Nat → Int32) (c_sh_length' : Nat → Int32) (c_sh_numbers' : Nat → Nat → Int32), Q r c_errors' c_sh_bits' c_sh_length' c_sh_numbers' ∧ w = [(q_t, .inr (6, [.ref q_t_w, .ref q_t_k, .int c_images, .ref q_t_errors, .ref q_t_sheets, .ref q_t_r, .ref q_t_th, .ref q_t_sp])), (q_t_errors, .inl (g.X.cI, 7, .inl c_errors')), (q_t_sheets, .inl (g.X.cS, 4, .inr (.inr (.inr (.inr (shf q_t_sh0 q_t_sh1 q_t_sh2 q_t_sh3)))))), (q_t_sh0, .inr (1, [.ref q_t_sh0_numbers, .int (c_sh_bits' 0), .int (c_sh_length' 0)])), (q_t_sh0_numbers, .inl (g.X.cI, 24, .inl (c_sh_numbers' 0))), (q_t_sh1, .inr (1, [.ref q_t_sh1_numbers, .int (c_sh_bits' 1), .int (c_sh_length' 1)])), (q_t_sh1_numbers, .inl (g.X.cI, 24, .inl (c_sh_numbers' 1))), (q_t_sh2, .inr (1, [.ref q_t_sh2_numbers, .int (c_sh_bits' 2), .int (c_sh_length' 2)])), (q_t_sh2_numbers, .inl (g.X.cI, 24, .inl (c_sh_numbers' 2))), (q_t_sh3, .inr (1, [.ref q_t_sh3_numbers, .int (c_sh_bits' 3), .int (c_sh_length' 3)])), (q_t_sh3_numbers, .inl (g.X.cI, 24, .inl (c_sh_numbers' 3)))])) {x1 : Int32} {x2 : Int32} {x3 : Int32} {c_errors : Nat → Int32} {c_sh_bits : Nat → Int32} {c_sh_length : Nat → Int32} {c_sh_numbers : Nat → Nat → Int32} (h : wp_X6_sheet_b35 Q x1 x2 x3 c_errors c_sh_bits c_sh_length c_sh_numbers) : ST g 0 0 35 [(0, .ref q_t), (1, .int x1), (2, .int x2), (3, .int x3)] [] [(q_t, .inr (6, [.ref q_t_w, .ref q_t_k, .int c_images, .ref q_t_errors, .ref q_t_sheets, .ref q_t_r, .ref q_t_th, .ref q_t_sp])), (q_t_errors, .inl (g.X.cI, 7, .inl c_errors)), (q_t_sheets, .inl (g.X.cS, 4, .inr (.inr (.inr (.inr (shf q_t_sh0 q_t_sh1 q_t_sh2 q_t_sh3)))))), (q_t_sh0, .inr (1, [.ref q_t_sh0_numbers, .int (c_sh_bits 0), .int (c_sh_length 0)])), (q_t_sh0_numbers, .inl (g.X.cI, 24, .inl (c_sh_numbers 0))), (q_t_sh1, .inr (1, [.ref q_t_sh1_numbers, .int (c_sh_bits 1), .int (c_sh_length 1)])), (q_t_sh1_numbers, .inl (g.X.cI, 24, .inl (c_sh_numbers 1))), (q_t_sh2, .inr (1, [.ref q_t_sh2_numbers, .int (c_sh_bits 2), .int (c_sh_length 2)])), (q_t_sh2_numbers, .inl (g.X.cI, 24, .inl (c_sh_numbers 2))), (q_t_sh3, .inr (1, [.ref q_t_sh3_numbers, .int (c_sh_bits 3), .int (c_sh_length 3)])), (q_t_sh3_numbers, .inl (g.X.cI, 24, .inl (c_sh_numbers 3)))] := by
  unfold wp_X6_sheet_b35 at h
  refine st_iload_n G 36 rfl 2 rfl dX6_sheet_35 rfl ?_
  refine st_if_ne G 50 39 rfl dX6_sheet_36 rfl (fun c => ?_) (fun c => ?_)
  · have h := h.1 c
    refine st_iload_n G 51 rfl 3 rfl dX6_sheet_50 rfl ?_
    refine st_if_ge G 60 54 rfl dX6_sheet_51 rfl (fun c => ?_) (fun c => ?_)
    · have h := h.1 c
      refine st_iload_n G 61 rfl 3 rfl dX6_sheet_60 rfl ?_
      refine st_bipush G 63 rfl (24 : Int32) (by decide) dX6_sheet_61 ?_
      refine st_icmp_le G 72 66 rfl dX6_sheet_63 rfl (fun c => ?_) (fun c => ?_)
      · have h := h.1 c
        refine st_aload_n G 73 rfl 0 rfl dX6_sheet_72 rfl ?_
        refine st_get G inX6 rfl 4 (by decide) wd_21 76 rfl 0 rfl rfl dX6_sheet_73 ?_
        refine st_iload_n G 77 rfl 1 rfl dX6_sheet_76 rfl ?_
        obtain ⟨hin, h⟩ := h
        obtain ⟨K_77, hk, ek⟩ := vp_in_of hin (by decide)
        have h := h K_77 hk ek
        rcases (show K_77 = 0 ∨ K_77 = 1 ∨ K_77 = 2 ∨ K_77 = 3 by omega) with rfl | rfl | rfl | rfl
        · refine st_aald G 78 rfl 2 rfl hin (v := .ref q_t_sh0) (by rw [ek]; rfl) dX6_sheet_77 ?_
          refine st_iload_n G 79 rfl 2 rfl dX6_sheet_78 rfl ?_
          refine st_iload_n G 80 rfl 3 rfl dX6_sheet_79 rfl ?_
          refine st_cVv G lk_X6_257 (c_X1_begin g.l g.D g.X q_t_sh0 q_t_sh0_numbers (c_sh_bits 0) (c_sh_length 0) (c_sh_numbers 0) x2 x3 _ h) ⟨rfl, rfl, ⟨Nat.le_of_ble_eq_true rfl, Nat.le_of_ble_eq_true rfl⟩, Nat.zero_le _, Nat.zero_le _⟩ 83 rfl [3, 4] rfl (by decide) 0 1 rfl rfl rfl (Nat.le_of_ble_eq_true rfl) rfl dX6_sheet_80 (fun w hq => ?_)
          obtain ⟨o_80_bits, o_80_length, o_80_numbers, h, rfl⟩ := hq
          obtain ⟨c_sh_bits_80, ec_sh_bits_80⟩ : ∃ y : Nat → Int32, y = va_up c_sh_bits 0 o_80_bits := ⟨_, rfl⟩
          have h := h c_sh_bits_80 ec_sh_bits_80
          obtain ⟨c_sh_length_80, ec_sh_length_80⟩ : ∃ y : Nat → Int32, y = va_up c_sh_length 0 o_80_length := ⟨_, rfl⟩
          have h := h c_sh_length_80 ec_sh_length_80
          obtain ⟨c_sh_numbers_80, ec_sh_numbers_80⟩ : ∃ y : Nat → Nat → Int32, y = va_up c_sh_numbers 0 o_80_numbers := ⟨_, rfl⟩
          have h := h c_sh_numbers_80 ec_sh_numbers_80
          refine st_wp (ws' := [(q_t, .inr (6, [.ref q_t_w, .ref q_t_k, .int c_images, .ref q_t_errors, .ref q_t_sheets, .ref q_t_r, .ref q_t_th, .ref q_t_sp])), (q_t_errors, .inl (g.X.cI, 7, .inl c_errors)), (q_t_sheets, .inl (g.X.cS, 4, .inr (.inr (.inr (.inr (shf q_t_sh0 q_t_sh1 q_t_sh2 q_t_sh3)))))), (q_t_sh0, .inr (1, [.ref q_t_sh0_numbers, .int (c_sh_bits_80 0), .int (c_sh_length_80 0)])), (q_t_sh0_numbers, .inl (g.X.cI, 24, .inl (c_sh_numbers_80 0))), (q_t_sh1, .inr (1, [.ref q_t_sh1_numbers, .int (c_sh_bits_80 1), .int (c_sh_length_80 1)])), (q_t_sh1_numbers, .inl (g.X.cI, 24, .inl (c_sh_numbers_80 1))), (q_t_sh2, .inr (1, [.ref q_t_sh2_numbers, .int (c_sh_bits_80 2), .int (c_sh_length_80 2)])), (q_t_sh2_numbers, .inl (g.X.cI, 24, .inl (c_sh_numbers_80 2))), (q_t_sh3, .inr (1, [.ref q_t_sh3_numbers, .int (c_sh_bits_80 3), .int (c_sh_length_80 3)])), (q_t_sh3_numbers, .inl (g.X.cI, 24, .inl (c_sh_numbers_80 3)))]) 11 [0, 1, 2, 5, 6, 7, 8, 9, 10] (by decide) rfl rfl (by subst ec_sh_bits_80; subst ec_sh_length_80; subst ec_sh_numbers_80; rfl) [(q_t, .inr (6, [.ref q_t_w, .ref q_t_k, .int c_images, .ref q_t_errors, .ref q_t_sheets, .ref q_t_r, .ref q_t_th, .ref q_t_sp])), (q_t_errors, .inl (g.X.cI, 7, .inl c_errors)), (q_t_sheets, .inl (g.X.cS, 4, .inr (.inr (.inr (.inr (shf q_t_sh0 q_t_sh1 q_t_sh2 q_t_sh3)))))), (q_t_sh1, .inr (1, [.ref q_t_sh1_numbers, .int (c_sh_bits 1), .int (c_sh_length 1)])), (q_t_sh1_numbers, .inl (g.X.cI, 24, .inl (c_sh_numbers 1))), (q_t_sh2, .inr (1, [.ref q_t_sh2_numbers, .int (c_sh_bits 2), .int (c_sh_length 2)])), (q_t_sh2_numbers, .inl (g.X.cI, 24, .inl (c_sh_numbers 2))), (q_t_sh3, .inr (1, [.ref q_t_sh3_numbers, .int (c_sh_bits 3), .int (c_sh_length 3)])), (q_t_sh3_numbers, .inl (g.X.cI, 24, .inl (c_sh_numbers 3)))] (by subst ec_sh_bits_80; subst ec_sh_length_80; subst ec_sh_numbers_80; rfl) rfl ?_
          refine st_iconst G 84 rfl (1 : Int32) (by decide) dX6_sheet_83 ?_
          exact R _ _ _ _ dX6_sheet_84 (Nat.le_of_ble_eq_true rfl) ⟨_, _, _, _, h, rfl⟩
        · refine st_aald G 78 rfl 2 rfl hin (v := .ref q_t_sh1) (by rw [ek]; rfl) dX6_sheet_77 ?_
          refine st_iload_n G 79 rfl 2 rfl dX6_sheet_78 rfl ?_
          refine st_iload_n G 80 rfl 3 rfl dX6_sheet_79 rfl ?_
          refine st_cVv G lk_X6_257 (c_X1_begin g.l g.D g.X q_t_sh1 q_t_sh1_numbers (c_sh_bits 1) (c_sh_length 1) (c_sh_numbers 1) x2 x3 _ h) ⟨rfl, rfl, ⟨Nat.le_of_ble_eq_true rfl, Nat.le_of_ble_eq_true rfl⟩, Nat.zero_le _, Nat.zero_le _⟩ 83 rfl [5, 6] rfl (by decide) 0 1 rfl rfl rfl (Nat.le_of_ble_eq_true rfl) rfl dX6_sheet_80 (fun w hq => ?_)
          obtain ⟨o_80_bits, o_80_length, o_80_numbers, h, rfl⟩ := hq
          obtain ⟨c_sh_bits_80, ec_sh_bits_80⟩ : ∃ y : Nat → Int32, y = va_up c_sh_bits 1 o_80_bits := ⟨_, rfl⟩
          have h := h c_sh_bits_80 ec_sh_bits_80
          obtain ⟨c_sh_length_80, ec_sh_length_80⟩ : ∃ y : Nat → Int32, y = va_up c_sh_length 1 o_80_length := ⟨_, rfl⟩
          have h := h c_sh_length_80 ec_sh_length_80
          obtain ⟨c_sh_numbers_80, ec_sh_numbers_80⟩ : ∃ y : Nat → Nat → Int32, y = va_up c_sh_numbers 1 o_80_numbers := ⟨_, rfl⟩
          have h := h c_sh_numbers_80 ec_sh_numbers_80
          refine st_wp (ws' := [(q_t, .inr (6, [.ref q_t_w, .ref q_t_k, .int c_images, .ref q_t_errors, .ref q_t_sheets, .ref q_t_r, .ref q_t_th, .ref q_t_sp])), (q_t_errors, .inl (g.X.cI, 7, .inl c_errors)), (q_t_sheets, .inl (g.X.cS, 4, .inr (.inr (.inr (.inr (shf q_t_sh0 q_t_sh1 q_t_sh2 q_t_sh3)))))), (q_t_sh0, .inr (1, [.ref q_t_sh0_numbers, .int (c_sh_bits_80 0), .int (c_sh_length_80 0)])), (q_t_sh0_numbers, .inl (g.X.cI, 24, .inl (c_sh_numbers_80 0))), (q_t_sh1, .inr (1, [.ref q_t_sh1_numbers, .int (c_sh_bits_80 1), .int (c_sh_length_80 1)])), (q_t_sh1_numbers, .inl (g.X.cI, 24, .inl (c_sh_numbers_80 1))), (q_t_sh2, .inr (1, [.ref q_t_sh2_numbers, .int (c_sh_bits_80 2), .int (c_sh_length_80 2)])), (q_t_sh2_numbers, .inl (g.X.cI, 24, .inl (c_sh_numbers_80 2))), (q_t_sh3, .inr (1, [.ref q_t_sh3_numbers, .int (c_sh_bits_80 3), .int (c_sh_length_80 3)])), (q_t_sh3_numbers, .inl (g.X.cI, 24, .inl (c_sh_numbers_80 3)))]) 11 [0, 1, 2, 3, 4, 7, 8, 9, 10] (by decide) rfl rfl (by subst ec_sh_bits_80; subst ec_sh_length_80; subst ec_sh_numbers_80; rfl) [(q_t, .inr (6, [.ref q_t_w, .ref q_t_k, .int c_images, .ref q_t_errors, .ref q_t_sheets, .ref q_t_r, .ref q_t_th, .ref q_t_sp])), (q_t_errors, .inl (g.X.cI, 7, .inl c_errors)), (q_t_sheets, .inl (g.X.cS, 4, .inr (.inr (.inr (.inr (shf q_t_sh0 q_t_sh1 q_t_sh2 q_t_sh3)))))), (q_t_sh0, .inr (1, [.ref q_t_sh0_numbers, .int (c_sh_bits 0), .int (c_sh_length 0)])), (q_t_sh0_numbers, .inl (g.X.cI, 24, .inl (c_sh_numbers 0))), (q_t_sh2, .inr (1, [.ref q_t_sh2_numbers, .int (c_sh_bits 2), .int (c_sh_length 2)])), (q_t_sh2_numbers, .inl (g.X.cI, 24, .inl (c_sh_numbers 2))), (q_t_sh3, .inr (1, [.ref q_t_sh3_numbers, .int (c_sh_bits 3), .int (c_sh_length 3)])), (q_t_sh3_numbers, .inl (g.X.cI, 24, .inl (c_sh_numbers 3)))] (by subst ec_sh_bits_80; subst ec_sh_length_80; subst ec_sh_numbers_80; rfl) rfl ?_
          refine st_iconst G 84 rfl (1 : Int32) (by decide) dX6_sheet_83 ?_
          exact R _ _ _ _ dX6_sheet_84 (Nat.le_of_ble_eq_true rfl) ⟨_, _, _, _, h, rfl⟩
        · refine st_aald G 78 rfl 2 rfl hin (v := .ref q_t_sh2) (by rw [ek]; rfl) dX6_sheet_77 ?_
          refine st_iload_n G 79 rfl 2 rfl dX6_sheet_78 rfl ?_
          refine st_iload_n G 80 rfl 3 rfl dX6_sheet_79 rfl ?_
          refine st_cVv G lk_X6_257 (c_X1_begin g.l g.D g.X q_t_sh2 q_t_sh2_numbers (c_sh_bits 2) (c_sh_length 2) (c_sh_numbers 2) x2 x3 _ h) ⟨rfl, rfl, ⟨Nat.le_of_ble_eq_true rfl, Nat.le_of_ble_eq_true rfl⟩, Nat.zero_le _, Nat.zero_le _⟩ 83 rfl [7, 8] rfl (by decide) 0 1 rfl rfl rfl (Nat.le_of_ble_eq_true rfl) rfl dX6_sheet_80 (fun w hq => ?_)
          obtain ⟨o_80_bits, o_80_length, o_80_numbers, h, rfl⟩ := hq
          obtain ⟨c_sh_bits_80, ec_sh_bits_80⟩ : ∃ y : Nat → Int32, y = va_up c_sh_bits 2 o_80_bits := ⟨_, rfl⟩
          have h := h c_sh_bits_80 ec_sh_bits_80
          obtain ⟨c_sh_length_80, ec_sh_length_80⟩ : ∃ y : Nat → Int32, y = va_up c_sh_length 2 o_80_length := ⟨_, rfl⟩
          have h := h c_sh_length_80 ec_sh_length_80
          obtain ⟨c_sh_numbers_80, ec_sh_numbers_80⟩ : ∃ y : Nat → Nat → Int32, y = va_up c_sh_numbers 2 o_80_numbers := ⟨_, rfl⟩
          have h := h c_sh_numbers_80 ec_sh_numbers_80
          refine st_wp (ws' := [(q_t, .inr (6, [.ref q_t_w, .ref q_t_k, .int c_images, .ref q_t_errors, .ref q_t_sheets, .ref q_t_r, .ref q_t_th, .ref q_t_sp])), (q_t_errors, .inl (g.X.cI, 7, .inl c_errors)), (q_t_sheets, .inl (g.X.cS, 4, .inr (.inr (.inr (.inr (shf q_t_sh0 q_t_sh1 q_t_sh2 q_t_sh3)))))), (q_t_sh0, .inr (1, [.ref q_t_sh0_numbers, .int (c_sh_bits_80 0), .int (c_sh_length_80 0)])), (q_t_sh0_numbers, .inl (g.X.cI, 24, .inl (c_sh_numbers_80 0))), (q_t_sh1, .inr (1, [.ref q_t_sh1_numbers, .int (c_sh_bits_80 1), .int (c_sh_length_80 1)])), (q_t_sh1_numbers, .inl (g.X.cI, 24, .inl (c_sh_numbers_80 1))), (q_t_sh2, .inr (1, [.ref q_t_sh2_numbers, .int (c_sh_bits_80 2), .int (c_sh_length_80 2)])), (q_t_sh2_numbers, .inl (g.X.cI, 24, .inl (c_sh_numbers_80 2))), (q_t_sh3, .inr (1, [.ref q_t_sh3_numbers, .int (c_sh_bits_80 3), .int (c_sh_length_80 3)])), (q_t_sh3_numbers, .inl (g.X.cI, 24, .inl (c_sh_numbers_80 3)))]) 11 [0, 1, 2, 3, 4, 5, 6, 9, 10] (by decide) rfl rfl (by subst ec_sh_bits_80; subst ec_sh_length_80; subst ec_sh_numbers_80; rfl) [(q_t, .inr (6, [.ref q_t_w, .ref q_t_k, .int c_images, .ref q_t_errors, .ref q_t_sheets, .ref q_t_r, .ref q_t_th, .ref q_t_sp])), (q_t_errors, .inl (g.X.cI, 7, .inl c_errors)), (q_t_sheets, .inl (g.X.cS, 4, .inr (.inr (.inr (.inr (shf q_t_sh0 q_t_sh1 q_t_sh2 q_t_sh3)))))), (q_t_sh0, .inr (1, [.ref q_t_sh0_numbers, .int (c_sh_bits 0), .int (c_sh_length 0)])), (q_t_sh0_numbers, .inl (g.X.cI, 24, .inl (c_sh_numbers 0))), (q_t_sh1, .inr (1, [.ref q_t_sh1_numbers, .int (c_sh_bits 1), .int (c_sh_length 1)])), (q_t_sh1_numbers, .inl (g.X.cI, 24, .inl (c_sh_numbers 1))), (q_t_sh3, .inr (1, [.ref q_t_sh3_numbers, .int (c_sh_bits 3), .int (c_sh_length 3)])), (q_t_sh3_numbers, .inl (g.X.cI, 24, .inl (c_sh_numbers 3)))] (by subst ec_sh_bits_80; subst ec_sh_length_80; subst ec_sh_numbers_80; rfl) rfl ?_
          refine st_iconst G 84 rfl (1 : Int32) (by decide) dX6_sheet_83 ?_
          exact R _ _ _ _ dX6_sheet_84 (Nat.le_of_ble_eq_true rfl) ⟨_, _, _, _, h, rfl⟩
        · refine st_aald G 78 rfl 2 rfl hin (v := .ref q_t_sh3) (by rw [ek]; rfl) dX6_sheet_77 ?_
          refine st_iload_n G 79 rfl 2 rfl dX6_sheet_78 rfl ?_
          refine st_iload_n G 80 rfl 3 rfl dX6_sheet_79 rfl ?_
          refine st_cVv G lk_X6_257 (c_X1_begin g.l g.D g.X q_t_sh3 q_t_sh3_numbers (c_sh_bits 3) (c_sh_length 3) (c_sh_numbers 3) x2 x3 _ h) ⟨rfl, rfl, ⟨Nat.le_of_ble_eq_true rfl, Nat.le_of_ble_eq_true rfl⟩, Nat.zero_le _, Nat.zero_le _⟩ 83 rfl [9, 10] rfl (by decide) 0 1 rfl rfl rfl (Nat.le_of_ble_eq_true rfl) rfl dX6_sheet_80 (fun w hq => ?_)
          obtain ⟨o_80_bits, o_80_length, o_80_numbers, h, rfl⟩ := hq
          obtain ⟨c_sh_bits_80, ec_sh_bits_80⟩ : ∃ y : Nat → Int32, y = va_up c_sh_bits 3 o_80_bits := ⟨_, rfl⟩
          have h := h c_sh_bits_80 ec_sh_bits_80
          obtain ⟨c_sh_length_80, ec_sh_length_80⟩ : ∃ y : Nat → Int32, y = va_up c_sh_length 3 o_80_length := ⟨_, rfl⟩
          have h := h c_sh_length_80 ec_sh_length_80
          obtain ⟨c_sh_numbers_80, ec_sh_numbers_80⟩ : ∃ y : Nat → Nat → Int32, y = va_up c_sh_numbers 3 o_80_numbers := ⟨_, rfl⟩
          have h := h c_sh_numbers_80 ec_sh_numbers_80
          refine st_wp (ws' := [(q_t, .inr (6, [.ref q_t_w, .ref q_t_k, .int c_images, .ref q_t_errors, .ref q_t_sheets, .ref q_t_r, .ref q_t_th, .ref q_t_sp])), (q_t_errors, .inl (g.X.cI, 7, .inl c_errors)), (q_t_sheets, .inl (g.X.cS, 4, .inr (.inr (.inr (.inr (shf q_t_sh0 q_t_sh1 q_t_sh2 q_t_sh3)))))), (q_t_sh0, .inr (1, [.ref q_t_sh0_numbers, .int (c_sh_bits_80 0), .int (c_sh_length_80 0)])), (q_t_sh0_numbers, .inl (g.X.cI, 24, .inl (c_sh_numbers_80 0))), (q_t_sh1, .inr (1, [.ref q_t_sh1_numbers, .int (c_sh_bits_80 1), .int (c_sh_length_80 1)])), (q_t_sh1_numbers, .inl (g.X.cI, 24, .inl (c_sh_numbers_80 1))), (q_t_sh2, .inr (1, [.ref q_t_sh2_numbers, .int (c_sh_bits_80 2), .int (c_sh_length_80 2)])), (q_t_sh2_numbers, .inl (g.X.cI, 24, .inl (c_sh_numbers_80 2))), (q_t_sh3, .inr (1, [.ref q_t_sh3_numbers, .int (c_sh_bits_80 3), .int (c_sh_length_80 3)])), (q_t_sh3_numbers, .inl (g.X.cI, 24, .inl (c_sh_numbers_80 3)))]) 11 [0, 1, 2, 3, 4, 5, 6, 7, 8] (by decide) rfl rfl (by subst ec_sh_bits_80; subst ec_sh_length_80; subst ec_sh_numbers_80; rfl) [(q_t, .inr (6, [.ref q_t_w, .ref q_t_k, .int c_images, .ref q_t_errors, .ref q_t_sheets, .ref q_t_r, .ref q_t_th, .ref q_t_sp])), (q_t_errors, .inl (g.X.cI, 7, .inl c_errors)), (q_t_sheets, .inl (g.X.cS, 4, .inr (.inr (.inr (.inr (shf q_t_sh0 q_t_sh1 q_t_sh2 q_t_sh3)))))), (q_t_sh0, .inr (1, [.ref q_t_sh0_numbers, .int (c_sh_bits 0), .int (c_sh_length 0)])), (q_t_sh0_numbers, .inl (g.X.cI, 24, .inl (c_sh_numbers 0))), (q_t_sh1, .inr (1, [.ref q_t_sh1_numbers, .int (c_sh_bits 1), .int (c_sh_length 1)])), (q_t_sh1_numbers, .inl (g.X.cI, 24, .inl (c_sh_numbers 1))), (q_t_sh2, .inr (1, [.ref q_t_sh2_numbers, .int (c_sh_bits 2), .int (c_sh_length 2)])), (q_t_sh2_numbers, .inl (g.X.cI, 24, .inl (c_sh_numbers 2)))] (by subst ec_sh_bits_80; subst ec_sh_length_80; subst ec_sh_numbers_80; rfl) rfl ?_
          refine st_iconst G 84 rfl (1 : Int32) (by decide) dX6_sheet_83 ?_
          exact R _ _ _ _ dX6_sheet_84 (Nat.le_of_ble_eq_true rfl) ⟨_, _, _, _, h, rfl⟩
      have h := h.2 c
      refine st_aload_n G 67 rfl 0 rfl dX6_sheet_66 rfl ?_
      refine st_iconst G 68 rfl (1 : Int32) (by decide) dX6_sheet_67 ?_
      refine st_cVi G lk_X6_55 (c_X6_error g.l g.D g.X q_t q_t_w q_t_k q_t_errors q_t_sheets q_t_r q_t_th q_t_sp c_images c_errors (1 : Int32) _ h) ⟨rfl, rfl, ⟨Nat.le_of_ble_eq_true rfl, Nat.le_of_ble_eq_true rfl⟩, Nat.zero_le _, Nat.zero_le _⟩ 71 rfl [0, 1] rfl (by decide) 0 6 rfl rfl rfl (Nat.le_of_ble_eq_true rfl) rfl dX6_sheet_68 (fun r_68 w hq => ?_)
      obtain ⟨c_errors_68, h, rfl⟩ := hq
      refine st_wp (ws' := [(q_t, .inr (6, [.ref q_t_w, .ref q_t_k, .int c_images, .ref q_t_errors, .ref q_t_sheets, .ref q_t_r, .ref q_t_th, .ref q_t_sp])), (q_t_errors, .inl (g.X.cI, 7, .inl c_errors_68)), (q_t_sheets, .inl (g.X.cS, 4, .inr (.inr (.inr (.inr (shf q_t_sh0 q_t_sh1 q_t_sh2 q_t_sh3)))))), (q_t_sh0, .inr (1, [.ref q_t_sh0_numbers, .int (c_sh_bits 0), .int (c_sh_length 0)])), (q_t_sh0_numbers, .inl (g.X.cI, 24, .inl (c_sh_numbers 0))), (q_t_sh1, .inr (1, [.ref q_t_sh1_numbers, .int (c_sh_bits 1), .int (c_sh_length 1)])), (q_t_sh1_numbers, .inl (g.X.cI, 24, .inl (c_sh_numbers 1))), (q_t_sh2, .inr (1, [.ref q_t_sh2_numbers, .int (c_sh_bits 2), .int (c_sh_length 2)])), (q_t_sh2_numbers, .inl (g.X.cI, 24, .inl (c_sh_numbers 2))), (q_t_sh3, .inr (1, [.ref q_t_sh3_numbers, .int (c_sh_bits 3), .int (c_sh_length 3)])), (q_t_sh3_numbers, .inl (g.X.cI, 24, .inl (c_sh_numbers 3)))]) 11 [2, 3, 4, 5, 6, 7, 8, 9, 10] (by decide) rfl rfl (by rfl) [(q_t_sheets, .inl (g.X.cS, 4, .inr (.inr (.inr (.inr (shf q_t_sh0 q_t_sh1 q_t_sh2 q_t_sh3)))))), (q_t_sh0, .inr (1, [.ref q_t_sh0_numbers, .int (c_sh_bits 0), .int (c_sh_length 0)])), (q_t_sh0_numbers, .inl (g.X.cI, 24, .inl (c_sh_numbers 0))), (q_t_sh1, .inr (1, [.ref q_t_sh1_numbers, .int (c_sh_bits 1), .int (c_sh_length 1)])), (q_t_sh1_numbers, .inl (g.X.cI, 24, .inl (c_sh_numbers 1))), (q_t_sh2, .inr (1, [.ref q_t_sh2_numbers, .int (c_sh_bits 2), .int (c_sh_length 2)])), (q_t_sh2_numbers, .inl (g.X.cI, 24, .inl (c_sh_numbers 2))), (q_t_sh3, .inr (1, [.ref q_t_sh3_numbers, .int (c_sh_bits 3), .int (c_sh_length 3)])), (q_t_sh3_numbers, .inl (g.X.cI, 24, .inl (c_sh_numbers 3)))] (by rfl) rfl ?_
      exact R _ _ _ _ dX6_sheet_71 (Nat.le_of_ble_eq_true rfl) ⟨_, _, _, _, h, rfl⟩
    have h := h.2 c
    refine st_aload_n G 55 rfl 0 rfl dX6_sheet_54 rfl ?_
    refine st_iconst G 56 rfl (3 : Int32) (by decide) dX6_sheet_55 ?_
    refine st_cVi G lk_X6_55 (c_X6_error g.l g.D g.X q_t q_t_w q_t_k q_t_errors q_t_sheets q_t_r q_t_th q_t_sp c_images c_errors (3 : Int32) _ h) ⟨rfl, rfl, ⟨Nat.le_of_ble_eq_true rfl, Nat.le_of_ble_eq_true rfl⟩, Nat.zero_le _, Nat.zero_le _⟩ 59 rfl [0, 1] rfl (by decide) 0 6 rfl rfl rfl (Nat.le_of_ble_eq_true rfl) rfl dX6_sheet_56 (fun r_56 w hq => ?_)
    obtain ⟨c_errors_56, h, rfl⟩ := hq
    refine st_wp (ws' := [(q_t, .inr (6, [.ref q_t_w, .ref q_t_k, .int c_images, .ref q_t_errors, .ref q_t_sheets, .ref q_t_r, .ref q_t_th, .ref q_t_sp])), (q_t_errors, .inl (g.X.cI, 7, .inl c_errors_56)), (q_t_sheets, .inl (g.X.cS, 4, .inr (.inr (.inr (.inr (shf q_t_sh0 q_t_sh1 q_t_sh2 q_t_sh3)))))), (q_t_sh0, .inr (1, [.ref q_t_sh0_numbers, .int (c_sh_bits 0), .int (c_sh_length 0)])), (q_t_sh0_numbers, .inl (g.X.cI, 24, .inl (c_sh_numbers 0))), (q_t_sh1, .inr (1, [.ref q_t_sh1_numbers, .int (c_sh_bits 1), .int (c_sh_length 1)])), (q_t_sh1_numbers, .inl (g.X.cI, 24, .inl (c_sh_numbers 1))), (q_t_sh2, .inr (1, [.ref q_t_sh2_numbers, .int (c_sh_bits 2), .int (c_sh_length 2)])), (q_t_sh2_numbers, .inl (g.X.cI, 24, .inl (c_sh_numbers 2))), (q_t_sh3, .inr (1, [.ref q_t_sh3_numbers, .int (c_sh_bits 3), .int (c_sh_length 3)])), (q_t_sh3_numbers, .inl (g.X.cI, 24, .inl (c_sh_numbers 3)))]) 11 [2, 3, 4, 5, 6, 7, 8, 9, 10] (by decide) rfl rfl (by rfl) [(q_t_sheets, .inl (g.X.cS, 4, .inr (.inr (.inr (.inr (shf q_t_sh0 q_t_sh1 q_t_sh2 q_t_sh3)))))), (q_t_sh0, .inr (1, [.ref q_t_sh0_numbers, .int (c_sh_bits 0), .int (c_sh_length 0)])), (q_t_sh0_numbers, .inl (g.X.cI, 24, .inl (c_sh_numbers 0))), (q_t_sh1, .inr (1, [.ref q_t_sh1_numbers, .int (c_sh_bits 1), .int (c_sh_length 1)])), (q_t_sh1_numbers, .inl (g.X.cI, 24, .inl (c_sh_numbers 1))), (q_t_sh2, .inr (1, [.ref q_t_sh2_numbers, .int (c_sh_bits 2), .int (c_sh_length 2)])), (q_t_sh2_numbers, .inl (g.X.cI, 24, .inl (c_sh_numbers 2))), (q_t_sh3, .inr (1, [.ref q_t_sh3_numbers, .int (c_sh_bits 3), .int (c_sh_length 3)])), (q_t_sh3_numbers, .inl (g.X.cI, 24, .inl (c_sh_numbers 3)))] (by rfl) rfl ?_
    exact R _ _ _ _ dX6_sheet_59 (Nat.le_of_ble_eq_true rfl) ⟨_, _, _, _, h, rfl⟩
  have h := h.2 c
  refine st_aload_n G 40 rfl 0 rfl dX6_sheet_39 rfl ?_
  refine st_get G inX6 rfl 4 (by decide) wd_21 43 rfl 0 rfl rfl dX6_sheet_40 ?_
  refine st_iload_n G 44 rfl 1 rfl dX6_sheet_43 rfl ?_
  obtain ⟨hin, h⟩ := h
  obtain ⟨K_44, hk, ek⟩ := vp_in_of hin (by decide)
  have h := h K_44 hk ek
  rcases (show K_44 = 0 ∨ K_44 = 1 ∨ K_44 = 2 ∨ K_44 = 3 by omega) with rfl | rfl | rfl | rfl
  · refine st_aald G 45 rfl 2 rfl hin (v := .ref q_t_sh0) (by rw [ek]; rfl) dX6_sheet_44 ?_
    refine st_cVv G lk_X6_254 (c_X1_lose g.l g.D g.X q_t_sh0 q_t_sh0_numbers (c_sh_bits 0) (c_sh_length 0) (c_sh_numbers 0) _ h) ⟨rfl, rfl, ⟨Nat.le_of_ble_eq_true rfl, Nat.le_of_ble_eq_true rfl⟩, Nat.zero_le _, Nat.zero_le _⟩ 48 rfl [3, 4] rfl (by decide) 0 1 rfl rfl rfl (Nat.le_of_ble_eq_true rfl) rfl dX6_sheet_45 (fun w hq => ?_)
    obtain ⟨o_45_bits, o_45_length, o_45_numbers, h, rfl⟩ := hq
    obtain ⟨c_sh_bits_45, ec_sh_bits_45⟩ : ∃ y : Nat → Int32, y = va_up c_sh_bits 0 o_45_bits := ⟨_, rfl⟩
    have h := h c_sh_bits_45 ec_sh_bits_45
    obtain ⟨c_sh_length_45, ec_sh_length_45⟩ : ∃ y : Nat → Int32, y = va_up c_sh_length 0 o_45_length := ⟨_, rfl⟩
    have h := h c_sh_length_45 ec_sh_length_45
    obtain ⟨c_sh_numbers_45, ec_sh_numbers_45⟩ : ∃ y : Nat → Nat → Int32, y = va_up c_sh_numbers 0 o_45_numbers := ⟨_, rfl⟩
    have h := h c_sh_numbers_45 ec_sh_numbers_45
    refine st_wp (ws' := [(q_t, .inr (6, [.ref q_t_w, .ref q_t_k, .int c_images, .ref q_t_errors, .ref q_t_sheets, .ref q_t_r, .ref q_t_th, .ref q_t_sp])), (q_t_errors, .inl (g.X.cI, 7, .inl c_errors)), (q_t_sheets, .inl (g.X.cS, 4, .inr (.inr (.inr (.inr (shf q_t_sh0 q_t_sh1 q_t_sh2 q_t_sh3)))))), (q_t_sh0, .inr (1, [.ref q_t_sh0_numbers, .int (c_sh_bits_45 0), .int (c_sh_length_45 0)])), (q_t_sh0_numbers, .inl (g.X.cI, 24, .inl (c_sh_numbers_45 0))), (q_t_sh1, .inr (1, [.ref q_t_sh1_numbers, .int (c_sh_bits_45 1), .int (c_sh_length_45 1)])), (q_t_sh1_numbers, .inl (g.X.cI, 24, .inl (c_sh_numbers_45 1))), (q_t_sh2, .inr (1, [.ref q_t_sh2_numbers, .int (c_sh_bits_45 2), .int (c_sh_length_45 2)])), (q_t_sh2_numbers, .inl (g.X.cI, 24, .inl (c_sh_numbers_45 2))), (q_t_sh3, .inr (1, [.ref q_t_sh3_numbers, .int (c_sh_bits_45 3), .int (c_sh_length_45 3)])), (q_t_sh3_numbers, .inl (g.X.cI, 24, .inl (c_sh_numbers_45 3)))]) 11 [0, 1, 2, 5, 6, 7, 8, 9, 10] (by decide) rfl rfl (by subst ec_sh_bits_45; subst ec_sh_length_45; subst ec_sh_numbers_45; rfl) [(q_t, .inr (6, [.ref q_t_w, .ref q_t_k, .int c_images, .ref q_t_errors, .ref q_t_sheets, .ref q_t_r, .ref q_t_th, .ref q_t_sp])), (q_t_errors, .inl (g.X.cI, 7, .inl c_errors)), (q_t_sheets, .inl (g.X.cS, 4, .inr (.inr (.inr (.inr (shf q_t_sh0 q_t_sh1 q_t_sh2 q_t_sh3)))))), (q_t_sh1, .inr (1, [.ref q_t_sh1_numbers, .int (c_sh_bits 1), .int (c_sh_length 1)])), (q_t_sh1_numbers, .inl (g.X.cI, 24, .inl (c_sh_numbers 1))), (q_t_sh2, .inr (1, [.ref q_t_sh2_numbers, .int (c_sh_bits 2), .int (c_sh_length 2)])), (q_t_sh2_numbers, .inl (g.X.cI, 24, .inl (c_sh_numbers 2))), (q_t_sh3, .inr (1, [.ref q_t_sh3_numbers, .int (c_sh_bits 3), .int (c_sh_length 3)])), (q_t_sh3_numbers, .inl (g.X.cI, 24, .inl (c_sh_numbers 3)))] (by subst ec_sh_bits_45; subst ec_sh_length_45; subst ec_sh_numbers_45; rfl) rfl ?_
    refine st_iconst G 49 rfl (1 : Int32) (by decide) dX6_sheet_48 ?_
    exact R _ _ _ _ dX6_sheet_49 (Nat.le_of_ble_eq_true rfl) ⟨_, _, _, _, h, rfl⟩
  · refine st_aald G 45 rfl 2 rfl hin (v := .ref q_t_sh1) (by rw [ek]; rfl) dX6_sheet_44 ?_
    refine st_cVv G lk_X6_254 (c_X1_lose g.l g.D g.X q_t_sh1 q_t_sh1_numbers (c_sh_bits 1) (c_sh_length 1) (c_sh_numbers 1) _ h) ⟨rfl, rfl, ⟨Nat.le_of_ble_eq_true rfl, Nat.le_of_ble_eq_true rfl⟩, Nat.zero_le _, Nat.zero_le _⟩ 48 rfl [5, 6] rfl (by decide) 0 1 rfl rfl rfl (Nat.le_of_ble_eq_true rfl) rfl dX6_sheet_45 (fun w hq => ?_)
    obtain ⟨o_45_bits, o_45_length, o_45_numbers, h, rfl⟩ := hq
    obtain ⟨c_sh_bits_45, ec_sh_bits_45⟩ : ∃ y : Nat → Int32, y = va_up c_sh_bits 1 o_45_bits := ⟨_, rfl⟩
    have h := h c_sh_bits_45 ec_sh_bits_45
    obtain ⟨c_sh_length_45, ec_sh_length_45⟩ : ∃ y : Nat → Int32, y = va_up c_sh_length 1 o_45_length := ⟨_, rfl⟩
    have h := h c_sh_length_45 ec_sh_length_45
    obtain ⟨c_sh_numbers_45, ec_sh_numbers_45⟩ : ∃ y : Nat → Nat → Int32, y = va_up c_sh_numbers 1 o_45_numbers := ⟨_, rfl⟩
    have h := h c_sh_numbers_45 ec_sh_numbers_45
    refine st_wp (ws' := [(q_t, .inr (6, [.ref q_t_w, .ref q_t_k, .int c_images, .ref q_t_errors, .ref q_t_sheets, .ref q_t_r, .ref q_t_th, .ref q_t_sp])), (q_t_errors, .inl (g.X.cI, 7, .inl c_errors)), (q_t_sheets, .inl (g.X.cS, 4, .inr (.inr (.inr (.inr (shf q_t_sh0 q_t_sh1 q_t_sh2 q_t_sh3)))))), (q_t_sh0, .inr (1, [.ref q_t_sh0_numbers, .int (c_sh_bits_45 0), .int (c_sh_length_45 0)])), (q_t_sh0_numbers, .inl (g.X.cI, 24, .inl (c_sh_numbers_45 0))), (q_t_sh1, .inr (1, [.ref q_t_sh1_numbers, .int (c_sh_bits_45 1), .int (c_sh_length_45 1)])), (q_t_sh1_numbers, .inl (g.X.cI, 24, .inl (c_sh_numbers_45 1))), (q_t_sh2, .inr (1, [.ref q_t_sh2_numbers, .int (c_sh_bits_45 2), .int (c_sh_length_45 2)])), (q_t_sh2_numbers, .inl (g.X.cI, 24, .inl (c_sh_numbers_45 2))), (q_t_sh3, .inr (1, [.ref q_t_sh3_numbers, .int (c_sh_bits_45 3), .int (c_sh_length_45 3)])), (q_t_sh3_numbers, .inl (g.X.cI, 24, .inl (c_sh_numbers_45 3)))]) 11 [0, 1, 2, 3, 4, 7, 8, 9, 10] (by decide) rfl rfl (by subst ec_sh_bits_45; subst ec_sh_length_45; subst ec_sh_numbers_45; rfl) [(q_t, .inr (6, [.ref q_t_w, .ref q_t_k, .int c_images, .ref q_t_errors, .ref q_t_sheets, .ref q_t_r, .ref q_t_th, .ref q_t_sp])), (q_t_errors, .inl (g.X.cI, 7, .inl c_errors)), (q_t_sheets, .inl (g.X.cS, 4, .inr (.inr (.inr (.inr (shf q_t_sh0 q_t_sh1 q_t_sh2 q_t_sh3)))))), (q_t_sh0, .inr (1, [.ref q_t_sh0_numbers, .int (c_sh_bits 0), .int (c_sh_length 0)])), (q_t_sh0_numbers, .inl (g.X.cI, 24, .inl (c_sh_numbers 0))), (q_t_sh2, .inr (1, [.ref q_t_sh2_numbers, .int (c_sh_bits 2), .int (c_sh_length 2)])), (q_t_sh2_numbers, .inl (g.X.cI, 24, .inl (c_sh_numbers 2))), (q_t_sh3, .inr (1, [.ref q_t_sh3_numbers, .int (c_sh_bits 3), .int (c_sh_length 3)])), (q_t_sh3_numbers, .inl (g.X.cI, 24, .inl (c_sh_numbers 3)))] (by subst ec_sh_bits_45; subst ec_sh_length_45; subst ec_sh_numbers_45; rfl) rfl ?_
    refine st_iconst G 49 rfl (1 : Int32) (by decide) dX6_sheet_48 ?_
    exact R _ _ _ _ dX6_sheet_49 (Nat.le_of_ble_eq_true rfl) ⟨_, _, _, _, h, rfl⟩
  · refine st_aald G 45 rfl 2 rfl hin (v := .ref q_t_sh2) (by rw [ek]; rfl) dX6_sheet_44 ?_
    refine st_cVv G lk_X6_254 (c_X1_lose g.l g.D g.X q_t_sh2 q_t_sh2_numbers (c_sh_bits 2) (c_sh_length 2) (c_sh_numbers 2) _ h) ⟨rfl, rfl, ⟨Nat.le_of_ble_eq_true rfl, Nat.le_of_ble_eq_true rfl⟩, Nat.zero_le _, Nat.zero_le _⟩ 48 rfl [7, 8] rfl (by decide) 0 1 rfl rfl rfl (Nat.le_of_ble_eq_true rfl) rfl dX6_sheet_45 (fun w hq => ?_)
    obtain ⟨o_45_bits, o_45_length, o_45_numbers, h, rfl⟩ := hq
    obtain ⟨c_sh_bits_45, ec_sh_bits_45⟩ : ∃ y : Nat → Int32, y = va_up c_sh_bits 2 o_45_bits := ⟨_, rfl⟩
    have h := h c_sh_bits_45 ec_sh_bits_45
    obtain ⟨c_sh_length_45, ec_sh_length_45⟩ : ∃ y : Nat → Int32, y = va_up c_sh_length 2 o_45_length := ⟨_, rfl⟩
    have h := h c_sh_length_45 ec_sh_length_45
    obtain ⟨c_sh_numbers_45, ec_sh_numbers_45⟩ : ∃ y : Nat → Nat → Int32, y = va_up c_sh_numbers 2 o_45_numbers := ⟨_, rfl⟩
    have h := h c_sh_numbers_45 ec_sh_numbers_45
    refine st_wp (ws' := [(q_t, .inr (6, [.ref q_t_w, .ref q_t_k, .int c_images, .ref q_t_errors, .ref q_t_sheets, .ref q_t_r, .ref q_t_th, .ref q_t_sp])), (q_t_errors, .inl (g.X.cI, 7, .inl c_errors)), (q_t_sheets, .inl (g.X.cS, 4, .inr (.inr (.inr (.inr (shf q_t_sh0 q_t_sh1 q_t_sh2 q_t_sh3)))))), (q_t_sh0, .inr (1, [.ref q_t_sh0_numbers, .int (c_sh_bits_45 0), .int (c_sh_length_45 0)])), (q_t_sh0_numbers, .inl (g.X.cI, 24, .inl (c_sh_numbers_45 0))), (q_t_sh1, .inr (1, [.ref q_t_sh1_numbers, .int (c_sh_bits_45 1), .int (c_sh_length_45 1)])), (q_t_sh1_numbers, .inl (g.X.cI, 24, .inl (c_sh_numbers_45 1))), (q_t_sh2, .inr (1, [.ref q_t_sh2_numbers, .int (c_sh_bits_45 2), .int (c_sh_length_45 2)])), (q_t_sh2_numbers, .inl (g.X.cI, 24, .inl (c_sh_numbers_45 2))), (q_t_sh3, .inr (1, [.ref q_t_sh3_numbers, .int (c_sh_bits_45 3), .int (c_sh_length_45 3)])), (q_t_sh3_numbers, .inl (g.X.cI, 24, .inl (c_sh_numbers_45 3)))]) 11 [0, 1, 2, 3, 4, 5, 6, 9, 10] (by decide) rfl rfl (by subst ec_sh_bits_45; subst ec_sh_length_45; subst ec_sh_numbers_45; rfl) [(q_t, .inr (6, [.ref q_t_w, .ref q_t_k, .int c_images, .ref q_t_errors, .ref q_t_sheets, .ref q_t_r, .ref q_t_th, .ref q_t_sp])), (q_t_errors, .inl (g.X.cI, 7, .inl c_errors)), (q_t_sheets, .inl (g.X.cS, 4, .inr (.inr (.inr (.inr (shf q_t_sh0 q_t_sh1 q_t_sh2 q_t_sh3)))))), (q_t_sh0, .inr (1, [.ref q_t_sh0_numbers, .int (c_sh_bits 0), .int (c_sh_length 0)])), (q_t_sh0_numbers, .inl (g.X.cI, 24, .inl (c_sh_numbers 0))), (q_t_sh1, .inr (1, [.ref q_t_sh1_numbers, .int (c_sh_bits 1), .int (c_sh_length 1)])), (q_t_sh1_numbers, .inl (g.X.cI, 24, .inl (c_sh_numbers 1))), (q_t_sh3, .inr (1, [.ref q_t_sh3_numbers, .int (c_sh_bits 3), .int (c_sh_length 3)])), (q_t_sh3_numbers, .inl (g.X.cI, 24, .inl (c_sh_numbers 3)))] (by subst ec_sh_bits_45; subst ec_sh_length_45; subst ec_sh_numbers_45; rfl) rfl ?_
    refine st_iconst G 49 rfl (1 : Int32) (by decide) dX6_sheet_48 ?_
    exact R _ _ _ _ dX6_sheet_49 (Nat.le_of_ble_eq_true rfl) ⟨_, _, _, _, h, rfl⟩
  · refine st_aald G 45 rfl 2 rfl hin (v := .ref q_t_sh3) (by rw [ek]; rfl) dX6_sheet_44 ?_
    refine st_cVv G lk_X6_254 (c_X1_lose g.l g.D g.X q_t_sh3 q_t_sh3_numbers (c_sh_bits 3) (c_sh_length 3) (c_sh_numbers 3) _ h) ⟨rfl, rfl, ⟨Nat.le_of_ble_eq_true rfl, Nat.le_of_ble_eq_true rfl⟩, Nat.zero_le _, Nat.zero_le _⟩ 48 rfl [9, 10] rfl (by decide) 0 1 rfl rfl rfl (Nat.le_of_ble_eq_true rfl) rfl dX6_sheet_45 (fun w hq => ?_)
    obtain ⟨o_45_bits, o_45_length, o_45_numbers, h, rfl⟩ := hq
    obtain ⟨c_sh_bits_45, ec_sh_bits_45⟩ : ∃ y : Nat → Int32, y = va_up c_sh_bits 3 o_45_bits := ⟨_, rfl⟩
    have h := h c_sh_bits_45 ec_sh_bits_45
    obtain ⟨c_sh_length_45, ec_sh_length_45⟩ : ∃ y : Nat → Int32, y = va_up c_sh_length 3 o_45_length := ⟨_, rfl⟩
    have h := h c_sh_length_45 ec_sh_length_45
    obtain ⟨c_sh_numbers_45, ec_sh_numbers_45⟩ : ∃ y : Nat → Nat → Int32, y = va_up c_sh_numbers 3 o_45_numbers := ⟨_, rfl⟩
    have h := h c_sh_numbers_45 ec_sh_numbers_45
    refine st_wp (ws' := [(q_t, .inr (6, [.ref q_t_w, .ref q_t_k, .int c_images, .ref q_t_errors, .ref q_t_sheets, .ref q_t_r, .ref q_t_th, .ref q_t_sp])), (q_t_errors, .inl (g.X.cI, 7, .inl c_errors)), (q_t_sheets, .inl (g.X.cS, 4, .inr (.inr (.inr (.inr (shf q_t_sh0 q_t_sh1 q_t_sh2 q_t_sh3)))))), (q_t_sh0, .inr (1, [.ref q_t_sh0_numbers, .int (c_sh_bits_45 0), .int (c_sh_length_45 0)])), (q_t_sh0_numbers, .inl (g.X.cI, 24, .inl (c_sh_numbers_45 0))), (q_t_sh1, .inr (1, [.ref q_t_sh1_numbers, .int (c_sh_bits_45 1), .int (c_sh_length_45 1)])), (q_t_sh1_numbers, .inl (g.X.cI, 24, .inl (c_sh_numbers_45 1))), (q_t_sh2, .inr (1, [.ref q_t_sh2_numbers, .int (c_sh_bits_45 2), .int (c_sh_length_45 2)])), (q_t_sh2_numbers, .inl (g.X.cI, 24, .inl (c_sh_numbers_45 2))), (q_t_sh3, .inr (1, [.ref q_t_sh3_numbers, .int (c_sh_bits_45 3), .int (c_sh_length_45 3)])), (q_t_sh3_numbers, .inl (g.X.cI, 24, .inl (c_sh_numbers_45 3)))]) 11 [0, 1, 2, 3, 4, 5, 6, 7, 8] (by decide) rfl rfl (by subst ec_sh_bits_45; subst ec_sh_length_45; subst ec_sh_numbers_45; rfl) [(q_t, .inr (6, [.ref q_t_w, .ref q_t_k, .int c_images, .ref q_t_errors, .ref q_t_sheets, .ref q_t_r, .ref q_t_th, .ref q_t_sp])), (q_t_errors, .inl (g.X.cI, 7, .inl c_errors)), (q_t_sheets, .inl (g.X.cS, 4, .inr (.inr (.inr (.inr (shf q_t_sh0 q_t_sh1 q_t_sh2 q_t_sh3)))))), (q_t_sh0, .inr (1, [.ref q_t_sh0_numbers, .int (c_sh_bits 0), .int (c_sh_length 0)])), (q_t_sh0_numbers, .inl (g.X.cI, 24, .inl (c_sh_numbers 0))), (q_t_sh1, .inr (1, [.ref q_t_sh1_numbers, .int (c_sh_bits 1), .int (c_sh_length 1)])), (q_t_sh1_numbers, .inl (g.X.cI, 24, .inl (c_sh_numbers 1))), (q_t_sh2, .inr (1, [.ref q_t_sh2_numbers, .int (c_sh_bits 2), .int (c_sh_length 2)])), (q_t_sh2_numbers, .inl (g.X.cI, 24, .inl (c_sh_numbers 2)))] (by subst ec_sh_bits_45; subst ec_sh_length_45; subst ec_sh_numbers_45; rfl) rfl ?_
    refine st_iconst G 49 rfl (1 : Int32) (by decide) dX6_sheet_48 ?_
    exact R _ _ _ _ dX6_sheet_49 (Nat.le_of_ble_eq_true rfl) ⟨_, _, _, _, h, rfl⟩
set_option maxRecDepth 100000 in
set_option maxHeartbeats 4000000 in
theorem b_X6_sheet_e {g : GT} (G : GOOD g RX6 cX6_sheet 4 rm_X6_sheet) {q_t q_t_w q_t_k q_t_errors q_t_sheets q_t_sh0 q_t_sh0_numbers q_t_sh1 q_t_sh1_numbers q_t_sh2 q_t_sh2_numbers q_t_sh3 q_t_sh3_numbers q_t_r q_t_th q_t_sp : Nat} {c_images : Int32} {c_errors : Nat → Int32} {c_sh_bits : Nat → Int32} {c_sh_length : Nat → Int32} {c_sh_numbers : Nat → Nat → Int32} {x1 : Int32} {x2 : Int32} {x3 : Int32} {Q : Int32 → (Nat → Int32) → (Nat → Int32) → (Nat → Int32) → (Nat → Nat → Int32) → Prop} (R : RETi g cX6_sheet 11 (fun (r : Int32) w => ∃ (c_errors' : Nat → Int32) (c_sh_bits' : Nat → Int32) (c_sh_length' : Nat → Int32) (c_sh_numbers' : Nat → Nat → Int32), Q r c_errors' c_sh_bits' c_sh_length' c_sh_numbers' ∧ w = [(q_t, .inr (6, [.ref q_t_w, .ref q_t_k, .int c_images, .ref q_t_errors, .ref q_t_sheets, .ref q_t_r, .ref q_t_th, .ref q_t_sp])), (q_t_errors, .inl (g.X.cI, 7, .inl c_errors')), (q_t_sheets, .inl (g.X.cS, 4, .inr (.inr (.inr (.inr (shf q_t_sh0 q_t_sh1 q_t_sh2 q_t_sh3)))))), (q_t_sh0, .inr (1, [.ref q_t_sh0_numbers, .int (c_sh_bits' 0), .int (c_sh_length' 0)])), (q_t_sh0_numbers, .inl (g.X.cI, 24, .inl (c_sh_numbers' 0))), (q_t_sh1, .inr (1, [.ref q_t_sh1_numbers, .int (c_sh_bits' 1), .int (c_sh_length' 1)])), (q_t_sh1_numbers, .inl (g.X.cI, 24, .inl (c_sh_numbers' 1))), (q_t_sh2, .inr (1, [.ref q_t_sh2_numbers, .int (c_sh_bits' 2), .int (c_sh_length' 2)])), (q_t_sh2_numbers, .inl (g.X.cI, 24, .inl (c_sh_numbers' 2))), (q_t_sh3, .inr (1, [.ref q_t_sh3_numbers, .int (c_sh_bits' 3), .int (c_sh_length' 3)])), (q_t_sh3_numbers, .inl (g.X.cI, 24, .inl (c_sh_numbers' 3)))])) (h : wp_X6_sheet x1 x2 x3 c_errors c_sh_bits c_sh_length c_sh_numbers Q) : ST g 0 0 0 [(0, .ref q_t), (1, .int x1), (2, .int x2), (3, .int x3)] [] [(q_t, .inr (6, [.ref q_t_w, .ref q_t_k, .int c_images, .ref q_t_errors, .ref q_t_sheets, .ref q_t_r, .ref q_t_th, .ref q_t_sp])), (q_t_errors, .inl (g.X.cI, 7, .inl c_errors)), (q_t_sheets, .inl (g.X.cS, 4, .inr (.inr (.inr (.inr (shf q_t_sh0 q_t_sh1 q_t_sh2 q_t_sh3)))))), (q_t_sh0, .inr (1, [.ref q_t_sh0_numbers, .int (c_sh_bits 0), .int (c_sh_length 0)])), (q_t_sh0_numbers, .inl (g.X.cI, 24, .inl (c_sh_numbers 0))), (q_t_sh1, .inr (1, [.ref q_t_sh1_numbers, .int (c_sh_bits 1), .int (c_sh_length 1)])), (q_t_sh1_numbers, .inl (g.X.cI, 24, .inl (c_sh_numbers 1))), (q_t_sh2, .inr (1, [.ref q_t_sh2_numbers, .int (c_sh_bits 2), .int (c_sh_length 2)])), (q_t_sh2_numbers, .inl (g.X.cI, 24, .inl (c_sh_numbers 2))), (q_t_sh3, .inr (1, [.ref q_t_sh3_numbers, .int (c_sh_bits 3), .int (c_sh_length 3)])), (q_t_sh3_numbers, .inl (g.X.cI, 24, .inl (c_sh_numbers 3)))] := by
  unfold wp_X6_sheet at h
  refine st_iload_n G 1 rfl 1 rfl dX6_sheet_0 rfl ?_
  refine st_cSio G lk_X6_225 (c_X6_notSheet g.l g.D g.X x1 _ h) ⟨rfl, rfl, ⟨Nat.le_of_ble_eq_true rfl, Nat.le_of_ble_eq_true rfl⟩, Nat.zero_le _, Nat.zero_le _⟩ 4 rfl [] rfl (by decide) rfl (Nat.le_of_ble_eq_true rfl) rfl dX6_sheet_1 (fun r_1 h => ?_)
  refine st_if_ne G 29 7 rfl dX6_sheet_4 rfl (fun c => ?_) (fun c => ?_)
  · have h := h.1 c
    refine st_aload_n G 30 rfl 0 rfl dX6_sheet_29 rfl ?_
    refine st_iconst G 31 rfl (1 : Int32) (by decide) dX6_sheet_30 ?_
    refine st_cVi G lk_X6_55 (c_X6_error g.l g.D g.X q_t q_t_w q_t_k q_t_errors q_t_sheets q_t_r q_t_th q_t_sp c_images c_errors (1 : Int32) _ h) ⟨rfl, rfl, ⟨Nat.le_of_ble_eq_true rfl, Nat.le_of_ble_eq_true rfl⟩, Nat.zero_le _, Nat.zero_le _⟩ 34 rfl [0, 1] rfl (by decide) 0 6 rfl rfl rfl (Nat.le_of_ble_eq_true rfl) rfl dX6_sheet_31 (fun r_31 w hq => ?_)
    obtain ⟨c_errors_31, h, rfl⟩ := hq
    refine st_wp (ws' := [(q_t, .inr (6, [.ref q_t_w, .ref q_t_k, .int c_images, .ref q_t_errors, .ref q_t_sheets, .ref q_t_r, .ref q_t_th, .ref q_t_sp])), (q_t_errors, .inl (g.X.cI, 7, .inl c_errors_31)), (q_t_sheets, .inl (g.X.cS, 4, .inr (.inr (.inr (.inr (shf q_t_sh0 q_t_sh1 q_t_sh2 q_t_sh3)))))), (q_t_sh0, .inr (1, [.ref q_t_sh0_numbers, .int (c_sh_bits 0), .int (c_sh_length 0)])), (q_t_sh0_numbers, .inl (g.X.cI, 24, .inl (c_sh_numbers 0))), (q_t_sh1, .inr (1, [.ref q_t_sh1_numbers, .int (c_sh_bits 1), .int (c_sh_length 1)])), (q_t_sh1_numbers, .inl (g.X.cI, 24, .inl (c_sh_numbers 1))), (q_t_sh2, .inr (1, [.ref q_t_sh2_numbers, .int (c_sh_bits 2), .int (c_sh_length 2)])), (q_t_sh2_numbers, .inl (g.X.cI, 24, .inl (c_sh_numbers 2))), (q_t_sh3, .inr (1, [.ref q_t_sh3_numbers, .int (c_sh_bits 3), .int (c_sh_length 3)])), (q_t_sh3_numbers, .inl (g.X.cI, 24, .inl (c_sh_numbers 3)))]) 11 [2, 3, 4, 5, 6, 7, 8, 9, 10] (by decide) rfl rfl (by rfl) [(q_t_sheets, .inl (g.X.cS, 4, .inr (.inr (.inr (.inr (shf q_t_sh0 q_t_sh1 q_t_sh2 q_t_sh3)))))), (q_t_sh0, .inr (1, [.ref q_t_sh0_numbers, .int (c_sh_bits 0), .int (c_sh_length 0)])), (q_t_sh0_numbers, .inl (g.X.cI, 24, .inl (c_sh_numbers 0))), (q_t_sh1, .inr (1, [.ref q_t_sh1_numbers, .int (c_sh_bits 1), .int (c_sh_length 1)])), (q_t_sh1_numbers, .inl (g.X.cI, 24, .inl (c_sh_numbers 1))), (q_t_sh2, .inr (1, [.ref q_t_sh2_numbers, .int (c_sh_bits 2), .int (c_sh_length 2)])), (q_t_sh2_numbers, .inl (g.X.cI, 24, .inl (c_sh_numbers 2))), (q_t_sh3, .inr (1, [.ref q_t_sh3_numbers, .int (c_sh_bits 3), .int (c_sh_length 3)])), (q_t_sh3_numbers, .inl (g.X.cI, 24, .inl (c_sh_numbers 3)))] (by rfl) rfl ?_
    exact R _ _ _ _ dX6_sheet_34 (Nat.le_of_ble_eq_true rfl) ⟨_, _, _, _, h, rfl⟩
  have h := h.2 c
  refine st_iload_n G 8 rfl 2 rfl dX6_sheet_7 rfl ?_
  refine st_if_eq G 35 11 rfl dX6_sheet_8 rfl (fun c => ?_) (fun c => ?_)
  · have h := h.1 c
    exact b_X6_sheet_35 G R h
  have h := h.2 c
  refine st_iload_n G 12 rfl 2 rfl dX6_sheet_11 rfl ?_
  refine st_bipush G 14 rfl (8 : Int32) (by decide) dX6_sheet_12 ?_
  refine st_icmp_eq G 35 17 rfl dX6_sheet_14 rfl (fun c => ?_) (fun c => ?_)
  · have h := h.1 c
    exact b_X6_sheet_35 G R h
  have h := h.2 c
  refine st_iload_n G 18 rfl 2 rfl dX6_sheet_17 rfl ?_
  refine st_bipush G 20 rfl (16 : Int32) (by decide) dX6_sheet_18 ?_
  refine st_icmp_eq G 35 23 rfl dX6_sheet_20 rfl (fun c => ?_) (fun c => ?_)
  · have h := h.1 c
    exact b_X6_sheet_35 G R h
  have h := h.2 c
  refine st_iload_n G 24 rfl 2 rfl dX6_sheet_23 rfl ?_
  refine st_bipush G 26 rfl (32 : Int32) (by decide) dX6_sheet_24 ?_
  refine st_icmp_eq G 35 29 rfl dX6_sheet_26 rfl (fun c => ?_) (fun c => ?_)
  · have h := h.1 c
    exact b_X6_sheet_35 G R h
  have h := h.2 c
  refine st_aload_n G 30 rfl 0 rfl dX6_sheet_29 rfl ?_
  refine st_iconst G 31 rfl (1 : Int32) (by decide) dX6_sheet_30 ?_
  refine st_cVi G lk_X6_55 (c_X6_error g.l g.D g.X q_t q_t_w q_t_k q_t_errors q_t_sheets q_t_r q_t_th q_t_sp c_images c_errors (1 : Int32) _ h) ⟨rfl, rfl, ⟨Nat.le_of_ble_eq_true rfl, Nat.le_of_ble_eq_true rfl⟩, Nat.zero_le _, Nat.zero_le _⟩ 34 rfl [0, 1] rfl (by decide) 0 6 rfl rfl rfl (Nat.le_of_ble_eq_true rfl) rfl dX6_sheet_31 (fun r_31 w hq => ?_)
  obtain ⟨c_errors_31, h, rfl⟩ := hq
  refine st_wp (ws' := [(q_t, .inr (6, [.ref q_t_w, .ref q_t_k, .int c_images, .ref q_t_errors, .ref q_t_sheets, .ref q_t_r, .ref q_t_th, .ref q_t_sp])), (q_t_errors, .inl (g.X.cI, 7, .inl c_errors_31)), (q_t_sheets, .inl (g.X.cS, 4, .inr (.inr (.inr (.inr (shf q_t_sh0 q_t_sh1 q_t_sh2 q_t_sh3)))))), (q_t_sh0, .inr (1, [.ref q_t_sh0_numbers, .int (c_sh_bits 0), .int (c_sh_length 0)])), (q_t_sh0_numbers, .inl (g.X.cI, 24, .inl (c_sh_numbers 0))), (q_t_sh1, .inr (1, [.ref q_t_sh1_numbers, .int (c_sh_bits 1), .int (c_sh_length 1)])), (q_t_sh1_numbers, .inl (g.X.cI, 24, .inl (c_sh_numbers 1))), (q_t_sh2, .inr (1, [.ref q_t_sh2_numbers, .int (c_sh_bits 2), .int (c_sh_length 2)])), (q_t_sh2_numbers, .inl (g.X.cI, 24, .inl (c_sh_numbers 2))), (q_t_sh3, .inr (1, [.ref q_t_sh3_numbers, .int (c_sh_bits 3), .int (c_sh_length 3)])), (q_t_sh3_numbers, .inl (g.X.cI, 24, .inl (c_sh_numbers 3)))]) 11 [2, 3, 4, 5, 6, 7, 8, 9, 10] (by decide) rfl rfl (by rfl) [(q_t_sheets, .inl (g.X.cS, 4, .inr (.inr (.inr (.inr (shf q_t_sh0 q_t_sh1 q_t_sh2 q_t_sh3)))))), (q_t_sh0, .inr (1, [.ref q_t_sh0_numbers, .int (c_sh_bits 0), .int (c_sh_length 0)])), (q_t_sh0_numbers, .inl (g.X.cI, 24, .inl (c_sh_numbers 0))), (q_t_sh1, .inr (1, [.ref q_t_sh1_numbers, .int (c_sh_bits 1), .int (c_sh_length 1)])), (q_t_sh1_numbers, .inl (g.X.cI, 24, .inl (c_sh_numbers 1))), (q_t_sh2, .inr (1, [.ref q_t_sh2_numbers, .int (c_sh_bits 2), .int (c_sh_length 2)])), (q_t_sh2_numbers, .inl (g.X.cI, 24, .inl (c_sh_numbers 2))), (q_t_sh3, .inr (1, [.ref q_t_sh3_numbers, .int (c_sh_bits 3), .int (c_sh_length 3)])), (q_t_sh3_numbers, .inl (g.X.cI, 24, .inl (c_sh_numbers 3)))] (by rfl) rfl ?_
  exact R _ _ _ _ dX6_sheet_34 (Nat.le_of_ble_eq_true rfl) ⟨_, _, _, _, h, rfl⟩
set_option maxRecDepth 100000 in
set_option maxHeartbeats 4000000 in
theorem c_X6_sheet (l : Launch) (D : va_G) (X : XT) (q_t q_t_w q_t_k q_t_errors q_t_sheets q_t_sh0 q_t_sh0_numbers q_t_sh1 q_t_sh1_numbers q_t_sh2 q_t_sh2_numbers q_t_sh3 q_t_sh3_numbers q_t_r q_t_th q_t_sp : Nat) (c_images : Int32) (c_errors : Nat → Int32) (c_sh_bits : Nat → Int32) (c_sh_length : Nat → Int32) (c_sh_numbers : Nat → Nat → Int32) (x1 : Int32) (x2 : Int32) (x3 : Int32) (Q : Int32 → (Nat → Int32) → (Nat → Int32) → (Nat → Int32) → (Nat → Nat → Int32) → Prop) (h : wp_X6_sheet x1 x2 x3 c_errors c_sh_bits c_sh_length c_sh_numbers Q) : CTi l D X yX6_sheet cX6_sheet 4 .int rm_X6_sheet [.ref q_t, .int x1, .int x2, .int x3] [(q_t, .inr (6, [.ref q_t_w, .ref q_t_k, .int c_images, .ref q_t_errors, .ref q_t_sheets, .ref q_t_r, .ref q_t_th, .ref q_t_sp])), (q_t_errors, .inl (X.cI, 7, .inl c_errors)), (q_t_sheets, .inl (X.cS, 4, .inr (.inr (.inr (.inr (shf q_t_sh0 q_t_sh1 q_t_sh2 q_t_sh3)))))), (q_t_sh0, .inr (1, [.ref q_t_sh0_numbers, .int (c_sh_bits 0), .int (c_sh_length 0)])), (q_t_sh0_numbers, .inl (X.cI, 24, .inl (c_sh_numbers 0))), (q_t_sh1, .inr (1, [.ref q_t_sh1_numbers, .int (c_sh_bits 1), .int (c_sh_length 1)])), (q_t_sh1_numbers, .inl (X.cI, 24, .inl (c_sh_numbers 1))), (q_t_sh2, .inr (1, [.ref q_t_sh2_numbers, .int (c_sh_bits 2), .int (c_sh_length 2)])), (q_t_sh2_numbers, .inl (X.cI, 24, .inl (c_sh_numbers 2))), (q_t_sh3, .inr (1, [.ref q_t_sh3_numbers, .int (c_sh_bits 3), .int (c_sh_length 3)])), (q_t_sh3_numbers, .inl (X.cI, 24, .inl (c_sh_numbers 3)))] (fun (r : Int32) w => ∃ (c_errors' : Nat → Int32) (c_sh_bits' : Nat → Int32) (c_sh_length' : Nat → Int32) (c_sh_numbers' : Nat → Nat → Int32), Q r c_errors' c_sh_bits' c_sh_length' c_sh_numbers' ∧ w = [(q_t, .inr (6, [.ref q_t_w, .ref q_t_k, .int c_images, .ref q_t_errors, .ref q_t_sheets, .ref q_t_r, .ref q_t_th, .ref q_t_sp])), (q_t_errors, .inl (X.cI, 7, .inl c_errors')), (q_t_sheets, .inl (X.cS, 4, .inr (.inr (.inr (.inr (shf q_t_sh0 q_t_sh1 q_t_sh2 q_t_sh3)))))), (q_t_sh0, .inr (1, [.ref q_t_sh0_numbers, .int (c_sh_bits' 0), .int (c_sh_length' 0)])), (q_t_sh0_numbers, .inl (X.cI, 24, .inl (c_sh_numbers' 0))), (q_t_sh1, .inr (1, [.ref q_t_sh1_numbers, .int (c_sh_bits' 1), .int (c_sh_length' 1)])), (q_t_sh1_numbers, .inl (X.cI, 24, .inl (c_sh_numbers' 1))), (q_t_sh2, .inr (1, [.ref q_t_sh2_numbers, .int (c_sh_bits' 2), .int (c_sh_length' 2)])), (q_t_sh2_numbers, .inl (X.cI, 24, .inl (c_sh_numbers' 2))), (q_t_sh3, .inr (1, [.ref q_t_sh3_numbers, .int (c_sh_bits' 3), .int (c_sh_length' 3)])), (q_t_sh3_numbers, .inl (X.cI, 24, .inl (c_sh_numbers' 3)))]) :=
  ct_i (by decide) (Nat.le_of_ble_eq_true rfl) (fun g hl hD hX G R => by subst hl; subst hD; subst hX; exact b_X6_sheet_e G R h)
set_option maxRecDepth 100000 in
set_option maxHeartbeats 4000000 in
theorem b_X1_write_e {g : GT} (G : GOOD g RX1 cX1_write 3 rm_X1_write) {q_t q_t_numbers : Nat} {c_bits : Int32} {c_length : Int32} {c_numbers : Nat → Int32} {x1 : Int32} {x2 : Int32} {Q : (Nat → Int32) → Prop} (R : RETv g cX1_write 0 0 2 (fun w => ∃ (c_numbers' : Nat → Int32), Q c_numbers' ∧ w = [(q_t, .inr (1, [.ref q_t_numbers, .int c_bits, .int c_length])), (q_t_numbers, .inl (g.X.cI, 24, .inl c_numbers'))])) (h : wp_X1_write x1 x2 c_bits c_numbers Q) : ST g 0 0 0 [(0, .ref q_t), (1, .int x1), (2, .int x2)] [] [(q_t, .inr (1, [.ref q_t_numbers, .int c_bits, .int c_length])), (q_t_numbers, .inl (g.X.cI, 24, .inl c_numbers))] := by
  unfold wp_X1_write at h
  refine st_aload_n G 1 rfl 0 rfl dX1_write_0 rfl ?_
  refine st_get G inX1 rfl 1 (by decide) wd_776 4 rfl 0 rfl rfl dX1_write_1 ?_
  refine st_bipush G 6 rfl (8 : Int32) (by decide) dX1_write_4 ?_
  refine st_icmp_ne G 20 9 rfl dX1_write_6 rfl (fun c => ?_) (fun c => ?_)
  · have h := h.1 c
    refine st_aload_n G 21 rfl 0 rfl dX1_write_20 rfl ?_
    refine st_get G inX1 rfl 1 (by decide) wd_776 24 rfl 0 rfl rfl dX1_write_21 ?_
    refine st_bipush G 26 rfl (16 : Int32) (by decide) dX1_write_24 ?_
    refine st_icmp_ne G 40 29 rfl dX1_write_26 rfl (fun c => ?_) (fun c => ?_)
    · have h := h.1 c
      refine st_aload_n G 41 rfl 0 rfl dX1_write_40 rfl ?_
      refine st_get G inX1 rfl 0 (by decide) wd_61 44 rfl 0 rfl rfl dX1_write_41 ?_
      refine st_iload_n G 45 rfl 1 rfl dX1_write_44 rfl ?_
      refine st_iload_n G 46 rfl 2 rfl dX1_write_45 rfl ?_
      obtain ⟨hin, h⟩ := h
      obtain ⟨c_numbers_46, ec_numbers_46⟩ : ∃ y : Nat → Int32, y = upd c_numbers x1.toNatClampNeg x2 := ⟨_, rfl⟩
      have h := h c_numbers_46 ec_numbers_46
      refine st_iast G [(q_t, .inr (1, [.ref q_t_numbers, .int c_bits, .int c_length])), (q_t_numbers, .inl (g.X.cI, 24, .inl c_numbers_46))] 47 rfl 1 rfl hin (by subst ec_numbers_46; rfl) dX1_write_46 ?_
      exact R _ _ _ dX1_write_47 (Nat.le_of_ble_eq_true rfl) ⟨_, h, rfl⟩
    have h := h.2 c
    refine st_aload_n G 30 rfl 0 rfl dX1_write_29 rfl ?_
    refine st_get G inX1 rfl 0 (by decide) wd_61 33 rfl 0 rfl rfl dX1_write_30 ?_
    refine st_iload_n G 34 rfl 1 rfl dX1_write_33 rfl ?_
    refine st_iload_n G 35 rfl 2 rfl dX1_write_34 rfl ?_
    refine st_i2s G 36 rfl dX1_write_35 ?_
    obtain ⟨hin, h⟩ := h
    obtain ⟨c_numbers_36, ec_numbers_36⟩ : ∃ y : Nat → Int32, y = upd c_numbers x1.toNatClampNeg (x2.toInt16.toInt32) := ⟨_, rfl⟩
    have h := h c_numbers_36 ec_numbers_36
    refine st_iast G [(q_t, .inr (1, [.ref q_t_numbers, .int c_bits, .int c_length])), (q_t_numbers, .inl (g.X.cI, 24, .inl c_numbers_36))] 37 rfl 1 rfl hin (by subst ec_numbers_36; rfl) dX1_write_36 ?_
    refine st_goto G 47 dX1_write_37 rfl ?_
    exact R _ _ _ dX1_write_47 (Nat.le_of_ble_eq_true rfl) ⟨_, h, rfl⟩
  have h := h.2 c
  refine st_aload_n G 10 rfl 0 rfl dX1_write_9 rfl ?_
  refine st_get G inX1 rfl 0 (by decide) wd_61 13 rfl 0 rfl rfl dX1_write_10 ?_
  refine st_iload_n G 14 rfl 1 rfl dX1_write_13 rfl ?_
  refine st_iload_n G 15 rfl 2 rfl dX1_write_14 rfl ?_
  refine st_i2b G 16 rfl dX1_write_15 ?_
  obtain ⟨hin, h⟩ := h
  obtain ⟨c_numbers_16, ec_numbers_16⟩ : ∃ y : Nat → Int32, y = upd c_numbers x1.toNatClampNeg (x2.toInt8.toInt32) := ⟨_, rfl⟩
  have h := h c_numbers_16 ec_numbers_16
  refine st_iast G [(q_t, .inr (1, [.ref q_t_numbers, .int c_bits, .int c_length])), (q_t_numbers, .inl (g.X.cI, 24, .inl c_numbers_16))] 17 rfl 1 rfl hin (by subst ec_numbers_16; rfl) dX1_write_16 ?_
  refine st_goto G 47 dX1_write_17 rfl ?_
  exact R _ _ _ dX1_write_47 (Nat.le_of_ble_eq_true rfl) ⟨_, h, rfl⟩
set_option maxRecDepth 100000 in
set_option maxHeartbeats 4000000 in
theorem c_X1_write (l : Launch) (D : va_G) (X : XT) (q_t q_t_numbers : Nat) (c_bits : Int32) (c_length : Int32) (c_numbers : Nat → Int32) (x1 : Int32) (x2 : Int32) (Q : (Nat → Int32) → Prop) (h : wp_X1_write x1 x2 c_bits c_numbers Q) : CTv l D X yX1_write cX1_write 3 rm_X1_write 0 0 [.ref q_t, .int x1, .int x2] [(q_t, .inr (1, [.ref q_t_numbers, .int c_bits, .int c_length])), (q_t_numbers, .inl (X.cI, 24, .inl c_numbers))] (fun w => ∃ (c_numbers' : Nat → Int32), Q c_numbers' ∧ w = [(q_t, .inr (1, [.ref q_t_numbers, .int c_bits, .int c_length])), (q_t_numbers, .inl (X.cI, 24, .inl c_numbers'))]) :=
  ct_v (by decide) (Nat.le_of_ble_eq_true rfl) (fun g hl hD hX G _ R => by subst hl; subst hD; subst hX; exact b_X1_write_e G R h)
set_option maxRecDepth 100000 in
set_option maxHeartbeats 4000000 in
theorem b_X6_put_e {g : GT} (G : GOOD g RX6 cX6_put 5 rm_X6_put) {q_t q_t_w q_t_k q_t_errors q_t_sheets q_t_sh0 q_t_sh0_numbers q_t_sh1 q_t_sh1_numbers q_t_sh2 q_t_sh2_numbers q_t_sh3 q_t_sh3_numbers q_t_r q_t_th q_t_sp : Nat} {c_images : Int32} {c_errors : Nat → Int32} {c_sh_bits : Nat → Int32} {c_sh_length : Nat → Int32} {c_sh_numbers : Nat → Nat → Int32} {x1 : Int32} {x2 : Int32} {x3 : Int32} {Q : Int32 → (Nat → Int32) → (Nat → Nat → Int32) → Prop} (R : RETi g cX6_put 11 (fun (r : Int32) w => ∃ (c_errors' : Nat → Int32) (c_sh_numbers' : Nat → Nat → Int32), Q r c_errors' c_sh_numbers' ∧ w = [(q_t, .inr (6, [.ref q_t_w, .ref q_t_k, .int c_images, .ref q_t_errors, .ref q_t_sheets, .ref q_t_r, .ref q_t_th, .ref q_t_sp])), (q_t_errors, .inl (g.X.cI, 7, .inl c_errors')), (q_t_sheets, .inl (g.X.cS, 4, .inr (.inr (.inr (.inr (shf q_t_sh0 q_t_sh1 q_t_sh2 q_t_sh3)))))), (q_t_sh0, .inr (1, [.ref q_t_sh0_numbers, .int (c_sh_bits 0), .int (c_sh_length 0)])), (q_t_sh0_numbers, .inl (g.X.cI, 24, .inl (c_sh_numbers' 0))), (q_t_sh1, .inr (1, [.ref q_t_sh1_numbers, .int (c_sh_bits 1), .int (c_sh_length 1)])), (q_t_sh1_numbers, .inl (g.X.cI, 24, .inl (c_sh_numbers' 1))), (q_t_sh2, .inr (1, [.ref q_t_sh2_numbers, .int (c_sh_bits 2), .int (c_sh_length 2)])), (q_t_sh2_numbers, .inl (g.X.cI, 24, .inl (c_sh_numbers' 2))), (q_t_sh3, .inr (1, [.ref q_t_sh3_numbers, .int (c_sh_bits 3), .int (c_sh_length 3)])), (q_t_sh3_numbers, .inl (g.X.cI, 24, .inl (c_sh_numbers' 3)))])) (h : wp_X6_put x1 x2 x3 c_errors c_sh_bits c_sh_length c_sh_numbers Q) : ST g 0 0 0 [(0, .ref q_t), (1, .int x1), (2, .int x2), (3, .int x3)] [] [(q_t, .inr (6, [.ref q_t_w, .ref q_t_k, .int c_images, .ref q_t_errors, .ref q_t_sheets, .ref q_t_r, .ref q_t_th, .ref q_t_sp])), (q_t_errors, .inl (g.X.cI, 7, .inl c_errors)), (q_t_sheets, .inl (g.X.cS, 4, .inr (.inr (.inr (.inr (shf q_t_sh0 q_t_sh1 q_t_sh2 q_t_sh3)))))), (q_t_sh0, .inr (1, [.ref q_t_sh0_numbers, .int (c_sh_bits 0), .int (c_sh_length 0)])), (q_t_sh0_numbers, .inl (g.X.cI, 24, .inl (c_sh_numbers 0))), (q_t_sh1, .inr (1, [.ref q_t_sh1_numbers, .int (c_sh_bits 1), .int (c_sh_length 1)])), (q_t_sh1_numbers, .inl (g.X.cI, 24, .inl (c_sh_numbers 1))), (q_t_sh2, .inr (1, [.ref q_t_sh2_numbers, .int (c_sh_bits 2), .int (c_sh_length 2)])), (q_t_sh2_numbers, .inl (g.X.cI, 24, .inl (c_sh_numbers 2))), (q_t_sh3, .inr (1, [.ref q_t_sh3_numbers, .int (c_sh_bits 3), .int (c_sh_length 3)])), (q_t_sh3_numbers, .inl (g.X.cI, 24, .inl (c_sh_numbers 3)))] := by
  unfold wp_X6_put at h
  refine st_iload_n G 1 rfl 1 rfl dX6_put_0 rfl ?_
  refine st_cSio G lk_X6_225 (c_X6_notSheet g.l g.D g.X x1 _ h) ⟨rfl, rfl, ⟨Nat.le_of_ble_eq_true rfl, Nat.le_of_ble_eq_true rfl⟩, Nat.zero_le _, Nat.zero_le _⟩ 4 rfl [] rfl (by decide) rfl (Nat.le_of_ble_eq_true rfl) rfl dX6_put_1 (fun r_1 h => ?_)
  refine st_if_eq G 13 7 rfl dX6_put_4 rfl (fun c => ?_) (fun c => ?_)
  · have h := h.1 c
    refine st_aload_n G 14 rfl 0 rfl dX6_put_13 rfl ?_
    refine st_get G inX6 rfl 4 (by decide) wd_21 17 rfl 0 rfl rfl dX6_put_14 ?_
    refine st_iload_n G 18 rfl 1 rfl dX6_put_17 rfl ?_
    obtain ⟨hin, h⟩ := h
    obtain ⟨K_18, hk, ek⟩ := vp_in_of hin (by decide)
    have h := h K_18 hk ek
    rcases (show K_18 = 0 ∨ K_18 = 1 ∨ K_18 = 2 ∨ K_18 = 3 by omega) with rfl | rfl | rfl | rfl
    · refine st_aald G 19 rfl 2 rfl hin (v := .ref q_t_sh0) (by rw [ek]; rfl) dX6_put_18 ?_
      refine st_astore G 21 rfl [(4, .ref q_t_sh0), (0, .ref q_t), (1, .int x1), (2, .int x2), (3, .int x3)] dX6_put_19 (by decide) rfl ?_
      refine st_aload G 23 rfl 0 rfl dX6_put_21 ?_
      refine st_cVio G lk_X6_228 (c_X1_missing g.l g.D g.X q_t_sh0 q_t_sh0_numbers (c_sh_bits 0) (c_sh_length 0) _ h) ⟨rfl, rfl, ⟨Nat.le_of_ble_eq_true rfl, Nat.le_of_ble_eq_true rfl⟩, Nat.zero_le _, Nat.zero_le _⟩ 26 rfl [3] rfl (by decide) 0 1 rfl rfl rfl (Nat.le_of_ble_eq_true rfl) rfl dX6_put_23 (fun r_23 h => ?_)
      refine st_if_eq G 35 29 rfl dX6_put_26 rfl (fun c => ?_) (fun c => ?_)
      · have h := h.1 c
        refine st_iload_n G 36 rfl 3 rfl dX6_put_35 rfl ?_
        refine st_if_lt G 48 39 rfl dX6_put_36 rfl (fun c => ?_) (fun c => ?_)
        · have h := h.1 c
          refine st_aload_n G 49 rfl 1 rfl dX6_put_48 rfl ?_
          refine st_iconst G 50 rfl (1 : Int32) (by decide) dX6_put_49 ?_
          refine st_cVi G lk_X6_55 (c_X6_error g.l g.D g.X q_t q_t_w q_t_k q_t_errors q_t_sheets q_t_r q_t_th q_t_sp c_images c_errors (1 : Int32) _ h) ⟨rfl, rfl, ⟨Nat.le_of_ble_eq_true rfl, Nat.le_of_ble_eq_true rfl⟩, Nat.zero_le _, Nat.zero_le _⟩ 53 rfl [0, 1] rfl (by decide) 0 6 rfl rfl rfl (Nat.le_of_ble_eq_true rfl) rfl dX6_put_50 (fun r_50 w hq => ?_)
          obtain ⟨c_errors_50, h, rfl⟩ := hq
          refine st_wp (ws' := [(q_t, .inr (6, [.ref q_t_w, .ref q_t_k, .int c_images, .ref q_t_errors, .ref q_t_sheets, .ref q_t_r, .ref q_t_th, .ref q_t_sp])), (q_t_errors, .inl (g.X.cI, 7, .inl c_errors_50)), (q_t_sheets, .inl (g.X.cS, 4, .inr (.inr (.inr (.inr (shf q_t_sh0 q_t_sh1 q_t_sh2 q_t_sh3)))))), (q_t_sh0, .inr (1, [.ref q_t_sh0_numbers, .int (c_sh_bits 0), .int (c_sh_length 0)])), (q_t_sh0_numbers, .inl (g.X.cI, 24, .inl (c_sh_numbers 0))), (q_t_sh1, .inr (1, [.ref q_t_sh1_numbers, .int (c_sh_bits 1), .int (c_sh_length 1)])), (q_t_sh1_numbers, .inl (g.X.cI, 24, .inl (c_sh_numbers 1))), (q_t_sh2, .inr (1, [.ref q_t_sh2_numbers, .int (c_sh_bits 2), .int (c_sh_length 2)])), (q_t_sh2_numbers, .inl (g.X.cI, 24, .inl (c_sh_numbers 2))), (q_t_sh3, .inr (1, [.ref q_t_sh3_numbers, .int (c_sh_bits 3), .int (c_sh_length 3)])), (q_t_sh3_numbers, .inl (g.X.cI, 24, .inl (c_sh_numbers 3)))]) 11 [2, 3, 4, 5, 6, 7, 8, 9, 10] (by decide) rfl rfl (by rfl) [(q_t_sheets, .inl (g.X.cS, 4, .inr (.inr (.inr (.inr (shf q_t_sh0 q_t_sh1 q_t_sh2 q_t_sh3)))))), (q_t_sh0, .inr (1, [.ref q_t_sh0_numbers, .int (c_sh_bits 0), .int (c_sh_length 0)])), (q_t_sh0_numbers, .inl (g.X.cI, 24, .inl (c_sh_numbers 0))), (q_t_sh1, .inr (1, [.ref q_t_sh1_numbers, .int (c_sh_bits 1), .int (c_sh_length 1)])), (q_t_sh1_numbers, .inl (g.X.cI, 24, .inl (c_sh_numbers 1))), (q_t_sh2, .inr (1, [.ref q_t_sh2_numbers, .int (c_sh_bits 2), .int (c_sh_length 2)])), (q_t_sh2_numbers, .inl (g.X.cI, 24, .inl (c_sh_numbers 2))), (q_t_sh3, .inr (1, [.ref q_t_sh3_numbers, .int (c_sh_bits 3), .int (c_sh_length 3)])), (q_t_sh3_numbers, .inl (g.X.cI, 24, .inl (c_sh_numbers 3)))] (by rfl) rfl ?_
          exact R _ _ _ _ dX6_put_53 (Nat.le_of_ble_eq_true rfl) ⟨_, _, h, rfl⟩
        have h := h.2 c
        refine st_iload_n G 40 rfl 3 rfl dX6_put_39 rfl ?_
        refine st_aload G 42 rfl 0 rfl dX6_put_40 ?_
        refine st_get G inX1 rfl 2 (by decide) wd_768 45 rfl 3 rfl rfl dX6_put_42 ?_
        refine st_icmp_lt G 54 48 rfl dX6_put_45 rfl (fun c => ?_) (fun c => ?_)
        · have h := h.1 c
          refine st_aload G 56 rfl 0 rfl dX6_put_54 ?_
          refine st_iload_n G 57 rfl 3 rfl dX6_put_56 rfl ?_
          refine st_iload_n G 58 rfl 4 rfl dX6_put_57 rfl ?_
          refine st_cVv G lk_X6_261 (c_X1_write g.l g.D g.X q_t_sh0 q_t_sh0_numbers (c_sh_bits 0) (c_sh_length 0) (c_sh_numbers 0) x2 x3 _ h) ⟨rfl, rfl, ⟨Nat.le_of_ble_eq_true rfl, Nat.le_of_ble_eq_true rfl⟩, Nat.zero_le _, Nat.zero_le _⟩ 61 rfl [3, 4] rfl (by decide) 0 1 rfl rfl rfl (Nat.le_of_ble_eq_true rfl) rfl dX6_put_58 (fun w hq => ?_)
          obtain ⟨o_58_numbers, h, rfl⟩ := hq
          obtain ⟨c_sh_numbers_58, ec_sh_numbers_58⟩ : ∃ y : Nat → Nat → Int32, y = va_up c_sh_numbers 0 o_58_numbers := ⟨_, rfl⟩
          have h := h c_sh_numbers_58 ec_sh_numbers_58
          refine st_wp (ws' := [(q_t, .inr (6, [.ref q_t_w, .ref q_t_k, .int c_images, .ref q_t_errors, .ref q_t_sheets, .ref q_t_r, .ref q_t_th, .ref q_t_sp])), (q_t_errors, .inl (g.X.cI, 7, .inl c_errors)), (q_t_sheets, .inl (g.X.cS, 4, .inr (.inr (.inr (.inr (shf q_t_sh0 q_t_sh1 q_t_sh2 q_t_sh3)))))), (q_t_sh0, .inr (1, [.ref q_t_sh0_numbers, .int (c_sh_bits 0), .int (c_sh_length 0)])), (q_t_sh0_numbers, .inl (g.X.cI, 24, .inl (c_sh_numbers_58 0))), (q_t_sh1, .inr (1, [.ref q_t_sh1_numbers, .int (c_sh_bits 1), .int (c_sh_length 1)])), (q_t_sh1_numbers, .inl (g.X.cI, 24, .inl (c_sh_numbers_58 1))), (q_t_sh2, .inr (1, [.ref q_t_sh2_numbers, .int (c_sh_bits 2), .int (c_sh_length 2)])), (q_t_sh2_numbers, .inl (g.X.cI, 24, .inl (c_sh_numbers_58 2))), (q_t_sh3, .inr (1, [.ref q_t_sh3_numbers, .int (c_sh_bits 3), .int (c_sh_length 3)])), (q_t_sh3_numbers, .inl (g.X.cI, 24, .inl (c_sh_numbers_58 3)))]) 11 [0, 1, 2, 5, 6, 7, 8, 9, 10] (by decide) rfl rfl (by subst ec_sh_numbers_58; rfl) [(q_t, .inr (6, [.ref q_t_w, .ref q_t_k, .int c_images, .ref q_t_errors, .ref q_t_sheets, .ref q_t_r, .ref q_t_th, .ref q_t_sp])), (q_t_errors, .inl (g.X.cI, 7, .inl c_errors)), (q_t_sheets, .inl (g.X.cS, 4, .inr (.inr (.inr (.inr (shf q_t_sh0 q_t_sh1 q_t_sh2 q_t_sh3)))))), (q_t_sh1, .inr (1, [.ref q_t_sh1_numbers, .int (c_sh_bits 1), .int (c_sh_length 1)])), (q_t_sh1_numbers, .inl (g.X.cI, 24, .inl (c_sh_numbers 1))), (q_t_sh2, .inr (1, [.ref q_t_sh2_numbers, .int (c_sh_bits 2), .int (c_sh_length 2)])), (q_t_sh2_numbers, .inl (g.X.cI, 24, .inl (c_sh_numbers 2))), (q_t_sh3, .inr (1, [.ref q_t_sh3_numbers, .int (c_sh_bits 3), .int (c_sh_length 3)])), (q_t_sh3_numbers, .inl (g.X.cI, 24, .inl (c_sh_numbers 3)))] (by subst ec_sh_numbers_58; rfl) rfl ?_
          refine st_iconst G 62 rfl (1 : Int32) (by decide) dX6_put_61 ?_
          exact R _ _ _ _ dX6_put_62 (Nat.le_of_ble_eq_true rfl) ⟨_, _, h, rfl⟩
        have h := h.2 c
        refine st_aload_n G 49 rfl 1 rfl dX6_put_48 rfl ?_
        refine st_iconst G 50 rfl (1 : Int32) (by decide) dX6_put_49 ?_
        refine st_cVi G lk_X6_55 (c_X6_error g.l g.D g.X q_t q_t_w q_t_k q_t_errors q_t_sheets q_t_r q_t_th q_t_sp c_images c_errors (1 : Int32) _ h) ⟨rfl, rfl, ⟨Nat.le_of_ble_eq_true rfl, Nat.le_of_ble_eq_true rfl⟩, Nat.zero_le _, Nat.zero_le _⟩ 53 rfl [0, 1] rfl (by decide) 0 6 rfl rfl rfl (Nat.le_of_ble_eq_true rfl) rfl dX6_put_50 (fun r_50 w hq => ?_)
        obtain ⟨c_errors_50, h, rfl⟩ := hq
        refine st_wp (ws' := [(q_t, .inr (6, [.ref q_t_w, .ref q_t_k, .int c_images, .ref q_t_errors, .ref q_t_sheets, .ref q_t_r, .ref q_t_th, .ref q_t_sp])), (q_t_errors, .inl (g.X.cI, 7, .inl c_errors_50)), (q_t_sheets, .inl (g.X.cS, 4, .inr (.inr (.inr (.inr (shf q_t_sh0 q_t_sh1 q_t_sh2 q_t_sh3)))))), (q_t_sh0, .inr (1, [.ref q_t_sh0_numbers, .int (c_sh_bits 0), .int (c_sh_length 0)])), (q_t_sh0_numbers, .inl (g.X.cI, 24, .inl (c_sh_numbers 0))), (q_t_sh1, .inr (1, [.ref q_t_sh1_numbers, .int (c_sh_bits 1), .int (c_sh_length 1)])), (q_t_sh1_numbers, .inl (g.X.cI, 24, .inl (c_sh_numbers 1))), (q_t_sh2, .inr (1, [.ref q_t_sh2_numbers, .int (c_sh_bits 2), .int (c_sh_length 2)])), (q_t_sh2_numbers, .inl (g.X.cI, 24, .inl (c_sh_numbers 2))), (q_t_sh3, .inr (1, [.ref q_t_sh3_numbers, .int (c_sh_bits 3), .int (c_sh_length 3)])), (q_t_sh3_numbers, .inl (g.X.cI, 24, .inl (c_sh_numbers 3)))]) 11 [2, 3, 4, 5, 6, 7, 8, 9, 10] (by decide) rfl rfl (by rfl) [(q_t_sheets, .inl (g.X.cS, 4, .inr (.inr (.inr (.inr (shf q_t_sh0 q_t_sh1 q_t_sh2 q_t_sh3)))))), (q_t_sh0, .inr (1, [.ref q_t_sh0_numbers, .int (c_sh_bits 0), .int (c_sh_length 0)])), (q_t_sh0_numbers, .inl (g.X.cI, 24, .inl (c_sh_numbers 0))), (q_t_sh1, .inr (1, [.ref q_t_sh1_numbers, .int (c_sh_bits 1), .int (c_sh_length 1)])), (q_t_sh1_numbers, .inl (g.X.cI, 24, .inl (c_sh_numbers 1))), (q_t_sh2, .inr (1, [.ref q_t_sh2_numbers, .int (c_sh_bits 2), .int (c_sh_length 2)])), (q_t_sh2_numbers, .inl (g.X.cI, 24, .inl (c_sh_numbers 2))), (q_t_sh3, .inr (1, [.ref q_t_sh3_numbers, .int (c_sh_bits 3), .int (c_sh_length 3)])), (q_t_sh3_numbers, .inl (g.X.cI, 24, .inl (c_sh_numbers 3)))] (by rfl) rfl ?_
        exact R _ _ _ _ dX6_put_53 (Nat.le_of_ble_eq_true rfl) ⟨_, _, h, rfl⟩
      have h := h.2 c
      refine st_aload_n G 30 rfl 1 rfl dX6_put_29 rfl ?_
      refine st_iconst G 31 rfl (2 : Int32) (by decide) dX6_put_30 ?_
      refine st_cVi G lk_X6_55 (c_X6_error g.l g.D g.X q_t q_t_w q_t_k q_t_errors q_t_sheets q_t_r q_t_th q_t_sp c_images c_errors (2 : Int32) _ h) ⟨rfl, rfl, ⟨Nat.le_of_ble_eq_true rfl, Nat.le_of_ble_eq_true rfl⟩, Nat.zero_le _, Nat.zero_le _⟩ 34 rfl [0, 1] rfl (by decide) 0 6 rfl rfl rfl (Nat.le_of_ble_eq_true rfl) rfl dX6_put_31 (fun r_31 w hq => ?_)
      obtain ⟨c_errors_31, h, rfl⟩ := hq
      refine st_wp (ws' := [(q_t, .inr (6, [.ref q_t_w, .ref q_t_k, .int c_images, .ref q_t_errors, .ref q_t_sheets, .ref q_t_r, .ref q_t_th, .ref q_t_sp])), (q_t_errors, .inl (g.X.cI, 7, .inl c_errors_31)), (q_t_sheets, .inl (g.X.cS, 4, .inr (.inr (.inr (.inr (shf q_t_sh0 q_t_sh1 q_t_sh2 q_t_sh3)))))), (q_t_sh0, .inr (1, [.ref q_t_sh0_numbers, .int (c_sh_bits 0), .int (c_sh_length 0)])), (q_t_sh0_numbers, .inl (g.X.cI, 24, .inl (c_sh_numbers 0))), (q_t_sh1, .inr (1, [.ref q_t_sh1_numbers, .int (c_sh_bits 1), .int (c_sh_length 1)])), (q_t_sh1_numbers, .inl (g.X.cI, 24, .inl (c_sh_numbers 1))), (q_t_sh2, .inr (1, [.ref q_t_sh2_numbers, .int (c_sh_bits 2), .int (c_sh_length 2)])), (q_t_sh2_numbers, .inl (g.X.cI, 24, .inl (c_sh_numbers 2))), (q_t_sh3, .inr (1, [.ref q_t_sh3_numbers, .int (c_sh_bits 3), .int (c_sh_length 3)])), (q_t_sh3_numbers, .inl (g.X.cI, 24, .inl (c_sh_numbers 3)))]) 11 [2, 3, 4, 5, 6, 7, 8, 9, 10] (by decide) rfl rfl (by rfl) [(q_t_sheets, .inl (g.X.cS, 4, .inr (.inr (.inr (.inr (shf q_t_sh0 q_t_sh1 q_t_sh2 q_t_sh3)))))), (q_t_sh0, .inr (1, [.ref q_t_sh0_numbers, .int (c_sh_bits 0), .int (c_sh_length 0)])), (q_t_sh0_numbers, .inl (g.X.cI, 24, .inl (c_sh_numbers 0))), (q_t_sh1, .inr (1, [.ref q_t_sh1_numbers, .int (c_sh_bits 1), .int (c_sh_length 1)])), (q_t_sh1_numbers, .inl (g.X.cI, 24, .inl (c_sh_numbers 1))), (q_t_sh2, .inr (1, [.ref q_t_sh2_numbers, .int (c_sh_bits 2), .int (c_sh_length 2)])), (q_t_sh2_numbers, .inl (g.X.cI, 24, .inl (c_sh_numbers 2))), (q_t_sh3, .inr (1, [.ref q_t_sh3_numbers, .int (c_sh_bits 3), .int (c_sh_length 3)])), (q_t_sh3_numbers, .inl (g.X.cI, 24, .inl (c_sh_numbers 3)))] (by rfl) rfl ?_
      exact R _ _ _ _ dX6_put_34 (Nat.le_of_ble_eq_true rfl) ⟨_, _, h, rfl⟩
    · refine st_aald G 19 rfl 2 rfl hin (v := .ref q_t_sh1) (by rw [ek]; rfl) dX6_put_18 ?_
      refine st_astore G 21 rfl [(4, .ref q_t_sh1), (0, .ref q_t), (1, .int x1), (2, .int x2), (3, .int x3)] dX6_put_19 (by decide) rfl ?_
      refine st_aload G 23 rfl 0 rfl dX6_put_21 ?_
      refine st_cVio G lk_X6_228 (c_X1_missing g.l g.D g.X q_t_sh1 q_t_sh1_numbers (c_sh_bits 1) (c_sh_length 1) _ h) ⟨rfl, rfl, ⟨Nat.le_of_ble_eq_true rfl, Nat.le_of_ble_eq_true rfl⟩, Nat.zero_le _, Nat.zero_le _⟩ 26 rfl [5] rfl (by decide) 0 1 rfl rfl rfl (Nat.le_of_ble_eq_true rfl) rfl dX6_put_23 (fun r_23 h => ?_)
      refine st_if_eq G 35 29 rfl dX6_put_26 rfl (fun c => ?_) (fun c => ?_)
      · have h := h.1 c
        refine st_iload_n G 36 rfl 3 rfl dX6_put_35 rfl ?_
        refine st_if_lt G 48 39 rfl dX6_put_36 rfl (fun c => ?_) (fun c => ?_)
        · have h := h.1 c
          refine st_aload_n G 49 rfl 1 rfl dX6_put_48 rfl ?_
          refine st_iconst G 50 rfl (1 : Int32) (by decide) dX6_put_49 ?_
          refine st_cVi G lk_X6_55 (c_X6_error g.l g.D g.X q_t q_t_w q_t_k q_t_errors q_t_sheets q_t_r q_t_th q_t_sp c_images c_errors (1 : Int32) _ h) ⟨rfl, rfl, ⟨Nat.le_of_ble_eq_true rfl, Nat.le_of_ble_eq_true rfl⟩, Nat.zero_le _, Nat.zero_le _⟩ 53 rfl [0, 1] rfl (by decide) 0 6 rfl rfl rfl (Nat.le_of_ble_eq_true rfl) rfl dX6_put_50 (fun r_50 w hq => ?_)
          obtain ⟨c_errors_50, h, rfl⟩ := hq
          refine st_wp (ws' := [(q_t, .inr (6, [.ref q_t_w, .ref q_t_k, .int c_images, .ref q_t_errors, .ref q_t_sheets, .ref q_t_r, .ref q_t_th, .ref q_t_sp])), (q_t_errors, .inl (g.X.cI, 7, .inl c_errors_50)), (q_t_sheets, .inl (g.X.cS, 4, .inr (.inr (.inr (.inr (shf q_t_sh0 q_t_sh1 q_t_sh2 q_t_sh3)))))), (q_t_sh0, .inr (1, [.ref q_t_sh0_numbers, .int (c_sh_bits 0), .int (c_sh_length 0)])), (q_t_sh0_numbers, .inl (g.X.cI, 24, .inl (c_sh_numbers 0))), (q_t_sh1, .inr (1, [.ref q_t_sh1_numbers, .int (c_sh_bits 1), .int (c_sh_length 1)])), (q_t_sh1_numbers, .inl (g.X.cI, 24, .inl (c_sh_numbers 1))), (q_t_sh2, .inr (1, [.ref q_t_sh2_numbers, .int (c_sh_bits 2), .int (c_sh_length 2)])), (q_t_sh2_numbers, .inl (g.X.cI, 24, .inl (c_sh_numbers 2))), (q_t_sh3, .inr (1, [.ref q_t_sh3_numbers, .int (c_sh_bits 3), .int (c_sh_length 3)])), (q_t_sh3_numbers, .inl (g.X.cI, 24, .inl (c_sh_numbers 3)))]) 11 [2, 3, 4, 5, 6, 7, 8, 9, 10] (by decide) rfl rfl (by rfl) [(q_t_sheets, .inl (g.X.cS, 4, .inr (.inr (.inr (.inr (shf q_t_sh0 q_t_sh1 q_t_sh2 q_t_sh3)))))), (q_t_sh0, .inr (1, [.ref q_t_sh0_numbers, .int (c_sh_bits 0), .int (c_sh_length 0)])), (q_t_sh0_numbers, .inl (g.X.cI, 24, .inl (c_sh_numbers 0))), (q_t_sh1, .inr (1, [.ref q_t_sh1_numbers, .int (c_sh_bits 1), .int (c_sh_length 1)])), (q_t_sh1_numbers, .inl (g.X.cI, 24, .inl (c_sh_numbers 1))), (q_t_sh2, .inr (1, [.ref q_t_sh2_numbers, .int (c_sh_bits 2), .int (c_sh_length 2)])), (q_t_sh2_numbers, .inl (g.X.cI, 24, .inl (c_sh_numbers 2))), (q_t_sh3, .inr (1, [.ref q_t_sh3_numbers, .int (c_sh_bits 3), .int (c_sh_length 3)])), (q_t_sh3_numbers, .inl (g.X.cI, 24, .inl (c_sh_numbers 3)))] (by rfl) rfl ?_
          exact R _ _ _ _ dX6_put_53 (Nat.le_of_ble_eq_true rfl) ⟨_, _, h, rfl⟩
        have h := h.2 c
        refine st_iload_n G 40 rfl 3 rfl dX6_put_39 rfl ?_
        refine st_aload G 42 rfl 0 rfl dX6_put_40 ?_
        refine st_get G inX1 rfl 2 (by decide) wd_768 45 rfl 5 rfl rfl dX6_put_42 ?_
        refine st_icmp_lt G 54 48 rfl dX6_put_45 rfl (fun c => ?_) (fun c => ?_)
        · have h := h.1 c
          refine st_aload G 56 rfl 0 rfl dX6_put_54 ?_
          refine st_iload_n G 57 rfl 3 rfl dX6_put_56 rfl ?_
          refine st_iload_n G 58 rfl 4 rfl dX6_put_57 rfl ?_
          refine st_cVv G lk_X6_261 (c_X1_write g.l g.D g.X q_t_sh1 q_t_sh1_numbers (c_sh_bits 1) (c_sh_length 1) (c_sh_numbers 1) x2 x3 _ h) ⟨rfl, rfl, ⟨Nat.le_of_ble_eq_true rfl, Nat.le_of_ble_eq_true rfl⟩, Nat.zero_le _, Nat.zero_le _⟩ 61 rfl [5, 6] rfl (by decide) 0 1 rfl rfl rfl (Nat.le_of_ble_eq_true rfl) rfl dX6_put_58 (fun w hq => ?_)
          obtain ⟨o_58_numbers, h, rfl⟩ := hq
          obtain ⟨c_sh_numbers_58, ec_sh_numbers_58⟩ : ∃ y : Nat → Nat → Int32, y = va_up c_sh_numbers 1 o_58_numbers := ⟨_, rfl⟩
          have h := h c_sh_numbers_58 ec_sh_numbers_58
          refine st_wp (ws' := [(q_t, .inr (6, [.ref q_t_w, .ref q_t_k, .int c_images, .ref q_t_errors, .ref q_t_sheets, .ref q_t_r, .ref q_t_th, .ref q_t_sp])), (q_t_errors, .inl (g.X.cI, 7, .inl c_errors)), (q_t_sheets, .inl (g.X.cS, 4, .inr (.inr (.inr (.inr (shf q_t_sh0 q_t_sh1 q_t_sh2 q_t_sh3)))))), (q_t_sh0, .inr (1, [.ref q_t_sh0_numbers, .int (c_sh_bits 0), .int (c_sh_length 0)])), (q_t_sh0_numbers, .inl (g.X.cI, 24, .inl (c_sh_numbers_58 0))), (q_t_sh1, .inr (1, [.ref q_t_sh1_numbers, .int (c_sh_bits 1), .int (c_sh_length 1)])), (q_t_sh1_numbers, .inl (g.X.cI, 24, .inl (c_sh_numbers_58 1))), (q_t_sh2, .inr (1, [.ref q_t_sh2_numbers, .int (c_sh_bits 2), .int (c_sh_length 2)])), (q_t_sh2_numbers, .inl (g.X.cI, 24, .inl (c_sh_numbers_58 2))), (q_t_sh3, .inr (1, [.ref q_t_sh3_numbers, .int (c_sh_bits 3), .int (c_sh_length 3)])), (q_t_sh3_numbers, .inl (g.X.cI, 24, .inl (c_sh_numbers_58 3)))]) 11 [0, 1, 2, 3, 4, 7, 8, 9, 10] (by decide) rfl rfl (by subst ec_sh_numbers_58; rfl) [(q_t, .inr (6, [.ref q_t_w, .ref q_t_k, .int c_images, .ref q_t_errors, .ref q_t_sheets, .ref q_t_r, .ref q_t_th, .ref q_t_sp])), (q_t_errors, .inl (g.X.cI, 7, .inl c_errors)), (q_t_sheets, .inl (g.X.cS, 4, .inr (.inr (.inr (.inr (shf q_t_sh0 q_t_sh1 q_t_sh2 q_t_sh3)))))), (q_t_sh0, .inr (1, [.ref q_t_sh0_numbers, .int (c_sh_bits 0), .int (c_sh_length 0)])), (q_t_sh0_numbers, .inl (g.X.cI, 24, .inl (c_sh_numbers 0))), (q_t_sh2, .inr (1, [.ref q_t_sh2_numbers, .int (c_sh_bits 2), .int (c_sh_length 2)])), (q_t_sh2_numbers, .inl (g.X.cI, 24, .inl (c_sh_numbers 2))), (q_t_sh3, .inr (1, [.ref q_t_sh3_numbers, .int (c_sh_bits 3), .int (c_sh_length 3)])), (q_t_sh3_numbers, .inl (g.X.cI, 24, .inl (c_sh_numbers 3)))] (by subst ec_sh_numbers_58; rfl) rfl ?_
          refine st_iconst G 62 rfl (1 : Int32) (by decide) dX6_put_61 ?_
          exact R _ _ _ _ dX6_put_62 (Nat.le_of_ble_eq_true rfl) ⟨_, _, h, rfl⟩
        have h := h.2 c
        refine st_aload_n G 49 rfl 1 rfl dX6_put_48 rfl ?_
        refine st_iconst G 50 rfl (1 : Int32) (by decide) dX6_put_49 ?_
        refine st_cVi G lk_X6_55 (c_X6_error g.l g.D g.X q_t q_t_w q_t_k q_t_errors q_t_sheets q_t_r q_t_th q_t_sp c_images c_errors (1 : Int32) _ h) ⟨rfl, rfl, ⟨Nat.le_of_ble_eq_true rfl, Nat.le_of_ble_eq_true rfl⟩, Nat.zero_le _, Nat.zero_le _⟩ 53 rfl [0, 1] rfl (by decide) 0 6 rfl rfl rfl (Nat.le_of_ble_eq_true rfl) rfl dX6_put_50 (fun r_50 w hq => ?_)
        obtain ⟨c_errors_50, h, rfl⟩ := hq
        refine st_wp (ws' := [(q_t, .inr (6, [.ref q_t_w, .ref q_t_k, .int c_images, .ref q_t_errors, .ref q_t_sheets, .ref q_t_r, .ref q_t_th, .ref q_t_sp])), (q_t_errors, .inl (g.X.cI, 7, .inl c_errors_50)), (q_t_sheets, .inl (g.X.cS, 4, .inr (.inr (.inr (.inr (shf q_t_sh0 q_t_sh1 q_t_sh2 q_t_sh3)))))), (q_t_sh0, .inr (1, [.ref q_t_sh0_numbers, .int (c_sh_bits 0), .int (c_sh_length 0)])), (q_t_sh0_numbers, .inl (g.X.cI, 24, .inl (c_sh_numbers 0))), (q_t_sh1, .inr (1, [.ref q_t_sh1_numbers, .int (c_sh_bits 1), .int (c_sh_length 1)])), (q_t_sh1_numbers, .inl (g.X.cI, 24, .inl (c_sh_numbers 1))), (q_t_sh2, .inr (1, [.ref q_t_sh2_numbers, .int (c_sh_bits 2), .int (c_sh_length 2)])), (q_t_sh2_numbers, .inl (g.X.cI, 24, .inl (c_sh_numbers 2))), (q_t_sh3, .inr (1, [.ref q_t_sh3_numbers, .int (c_sh_bits 3), .int (c_sh_length 3)])), (q_t_sh3_numbers, .inl (g.X.cI, 24, .inl (c_sh_numbers 3)))]) 11 [2, 3, 4, 5, 6, 7, 8, 9, 10] (by decide) rfl rfl (by rfl) [(q_t_sheets, .inl (g.X.cS, 4, .inr (.inr (.inr (.inr (shf q_t_sh0 q_t_sh1 q_t_sh2 q_t_sh3)))))), (q_t_sh0, .inr (1, [.ref q_t_sh0_numbers, .int (c_sh_bits 0), .int (c_sh_length 0)])), (q_t_sh0_numbers, .inl (g.X.cI, 24, .inl (c_sh_numbers 0))), (q_t_sh1, .inr (1, [.ref q_t_sh1_numbers, .int (c_sh_bits 1), .int (c_sh_length 1)])), (q_t_sh1_numbers, .inl (g.X.cI, 24, .inl (c_sh_numbers 1))), (q_t_sh2, .inr (1, [.ref q_t_sh2_numbers, .int (c_sh_bits 2), .int (c_sh_length 2)])), (q_t_sh2_numbers, .inl (g.X.cI, 24, .inl (c_sh_numbers 2))), (q_t_sh3, .inr (1, [.ref q_t_sh3_numbers, .int (c_sh_bits 3), .int (c_sh_length 3)])), (q_t_sh3_numbers, .inl (g.X.cI, 24, .inl (c_sh_numbers 3)))] (by rfl) rfl ?_
        exact R _ _ _ _ dX6_put_53 (Nat.le_of_ble_eq_true rfl) ⟨_, _, h, rfl⟩
      have h := h.2 c
      refine st_aload_n G 30 rfl 1 rfl dX6_put_29 rfl ?_
      refine st_iconst G 31 rfl (2 : Int32) (by decide) dX6_put_30 ?_
      refine st_cVi G lk_X6_55 (c_X6_error g.l g.D g.X q_t q_t_w q_t_k q_t_errors q_t_sheets q_t_r q_t_th q_t_sp c_images c_errors (2 : Int32) _ h) ⟨rfl, rfl, ⟨Nat.le_of_ble_eq_true rfl, Nat.le_of_ble_eq_true rfl⟩, Nat.zero_le _, Nat.zero_le _⟩ 34 rfl [0, 1] rfl (by decide) 0 6 rfl rfl rfl (Nat.le_of_ble_eq_true rfl) rfl dX6_put_31 (fun r_31 w hq => ?_)
      obtain ⟨c_errors_31, h, rfl⟩ := hq
      refine st_wp (ws' := [(q_t, .inr (6, [.ref q_t_w, .ref q_t_k, .int c_images, .ref q_t_errors, .ref q_t_sheets, .ref q_t_r, .ref q_t_th, .ref q_t_sp])), (q_t_errors, .inl (g.X.cI, 7, .inl c_errors_31)), (q_t_sheets, .inl (g.X.cS, 4, .inr (.inr (.inr (.inr (shf q_t_sh0 q_t_sh1 q_t_sh2 q_t_sh3)))))), (q_t_sh0, .inr (1, [.ref q_t_sh0_numbers, .int (c_sh_bits 0), .int (c_sh_length 0)])), (q_t_sh0_numbers, .inl (g.X.cI, 24, .inl (c_sh_numbers 0))), (q_t_sh1, .inr (1, [.ref q_t_sh1_numbers, .int (c_sh_bits 1), .int (c_sh_length 1)])), (q_t_sh1_numbers, .inl (g.X.cI, 24, .inl (c_sh_numbers 1))), (q_t_sh2, .inr (1, [.ref q_t_sh2_numbers, .int (c_sh_bits 2), .int (c_sh_length 2)])), (q_t_sh2_numbers, .inl (g.X.cI, 24, .inl (c_sh_numbers 2))), (q_t_sh3, .inr (1, [.ref q_t_sh3_numbers, .int (c_sh_bits 3), .int (c_sh_length 3)])), (q_t_sh3_numbers, .inl (g.X.cI, 24, .inl (c_sh_numbers 3)))]) 11 [2, 3, 4, 5, 6, 7, 8, 9, 10] (by decide) rfl rfl (by rfl) [(q_t_sheets, .inl (g.X.cS, 4, .inr (.inr (.inr (.inr (shf q_t_sh0 q_t_sh1 q_t_sh2 q_t_sh3)))))), (q_t_sh0, .inr (1, [.ref q_t_sh0_numbers, .int (c_sh_bits 0), .int (c_sh_length 0)])), (q_t_sh0_numbers, .inl (g.X.cI, 24, .inl (c_sh_numbers 0))), (q_t_sh1, .inr (1, [.ref q_t_sh1_numbers, .int (c_sh_bits 1), .int (c_sh_length 1)])), (q_t_sh1_numbers, .inl (g.X.cI, 24, .inl (c_sh_numbers 1))), (q_t_sh2, .inr (1, [.ref q_t_sh2_numbers, .int (c_sh_bits 2), .int (c_sh_length 2)])), (q_t_sh2_numbers, .inl (g.X.cI, 24, .inl (c_sh_numbers 2))), (q_t_sh3, .inr (1, [.ref q_t_sh3_numbers, .int (c_sh_bits 3), .int (c_sh_length 3)])), (q_t_sh3_numbers, .inl (g.X.cI, 24, .inl (c_sh_numbers 3)))] (by rfl) rfl ?_
      exact R _ _ _ _ dX6_put_34 (Nat.le_of_ble_eq_true rfl) ⟨_, _, h, rfl⟩
    · refine st_aald G 19 rfl 2 rfl hin (v := .ref q_t_sh2) (by rw [ek]; rfl) dX6_put_18 ?_
      refine st_astore G 21 rfl [(4, .ref q_t_sh2), (0, .ref q_t), (1, .int x1), (2, .int x2), (3, .int x3)] dX6_put_19 (by decide) rfl ?_
      refine st_aload G 23 rfl 0 rfl dX6_put_21 ?_
      refine st_cVio G lk_X6_228 (c_X1_missing g.l g.D g.X q_t_sh2 q_t_sh2_numbers (c_sh_bits 2) (c_sh_length 2) _ h) ⟨rfl, rfl, ⟨Nat.le_of_ble_eq_true rfl, Nat.le_of_ble_eq_true rfl⟩, Nat.zero_le _, Nat.zero_le _⟩ 26 rfl [7] rfl (by decide) 0 1 rfl rfl rfl (Nat.le_of_ble_eq_true rfl) rfl dX6_put_23 (fun r_23 h => ?_)
      refine st_if_eq G 35 29 rfl dX6_put_26 rfl (fun c => ?_) (fun c => ?_)
      · have h := h.1 c
        refine st_iload_n G 36 rfl 3 rfl dX6_put_35 rfl ?_
        refine st_if_lt G 48 39 rfl dX6_put_36 rfl (fun c => ?_) (fun c => ?_)
        · have h := h.1 c
          refine st_aload_n G 49 rfl 1 rfl dX6_put_48 rfl ?_
          refine st_iconst G 50 rfl (1 : Int32) (by decide) dX6_put_49 ?_
          refine st_cVi G lk_X6_55 (c_X6_error g.l g.D g.X q_t q_t_w q_t_k q_t_errors q_t_sheets q_t_r q_t_th q_t_sp c_images c_errors (1 : Int32) _ h) ⟨rfl, rfl, ⟨Nat.le_of_ble_eq_true rfl, Nat.le_of_ble_eq_true rfl⟩, Nat.zero_le _, Nat.zero_le _⟩ 53 rfl [0, 1] rfl (by decide) 0 6 rfl rfl rfl (Nat.le_of_ble_eq_true rfl) rfl dX6_put_50 (fun r_50 w hq => ?_)
          obtain ⟨c_errors_50, h, rfl⟩ := hq
          refine st_wp (ws' := [(q_t, .inr (6, [.ref q_t_w, .ref q_t_k, .int c_images, .ref q_t_errors, .ref q_t_sheets, .ref q_t_r, .ref q_t_th, .ref q_t_sp])), (q_t_errors, .inl (g.X.cI, 7, .inl c_errors_50)), (q_t_sheets, .inl (g.X.cS, 4, .inr (.inr (.inr (.inr (shf q_t_sh0 q_t_sh1 q_t_sh2 q_t_sh3)))))), (q_t_sh0, .inr (1, [.ref q_t_sh0_numbers, .int (c_sh_bits 0), .int (c_sh_length 0)])), (q_t_sh0_numbers, .inl (g.X.cI, 24, .inl (c_sh_numbers 0))), (q_t_sh1, .inr (1, [.ref q_t_sh1_numbers, .int (c_sh_bits 1), .int (c_sh_length 1)])), (q_t_sh1_numbers, .inl (g.X.cI, 24, .inl (c_sh_numbers 1))), (q_t_sh2, .inr (1, [.ref q_t_sh2_numbers, .int (c_sh_bits 2), .int (c_sh_length 2)])), (q_t_sh2_numbers, .inl (g.X.cI, 24, .inl (c_sh_numbers 2))), (q_t_sh3, .inr (1, [.ref q_t_sh3_numbers, .int (c_sh_bits 3), .int (c_sh_length 3)])), (q_t_sh3_numbers, .inl (g.X.cI, 24, .inl (c_sh_numbers 3)))]) 11 [2, 3, 4, 5, 6, 7, 8, 9, 10] (by decide) rfl rfl (by rfl) [(q_t_sheets, .inl (g.X.cS, 4, .inr (.inr (.inr (.inr (shf q_t_sh0 q_t_sh1 q_t_sh2 q_t_sh3)))))), (q_t_sh0, .inr (1, [.ref q_t_sh0_numbers, .int (c_sh_bits 0), .int (c_sh_length 0)])), (q_t_sh0_numbers, .inl (g.X.cI, 24, .inl (c_sh_numbers 0))), (q_t_sh1, .inr (1, [.ref q_t_sh1_numbers, .int (c_sh_bits 1), .int (c_sh_length 1)])), (q_t_sh1_numbers, .inl (g.X.cI, 24, .inl (c_sh_numbers 1))), (q_t_sh2, .inr (1, [.ref q_t_sh2_numbers, .int (c_sh_bits 2), .int (c_sh_length 2)])), (q_t_sh2_numbers, .inl (g.X.cI, 24, .inl (c_sh_numbers 2))), (q_t_sh3, .inr (1, [.ref q_t_sh3_numbers, .int (c_sh_bits 3), .int (c_sh_length 3)])), (q_t_sh3_numbers, .inl (g.X.cI, 24, .inl (c_sh_numbers 3)))] (by rfl) rfl ?_
          exact R _ _ _ _ dX6_put_53 (Nat.le_of_ble_eq_true rfl) ⟨_, _, h, rfl⟩
        have h := h.2 c
        refine st_iload_n G 40 rfl 3 rfl dX6_put_39 rfl ?_
        refine st_aload G 42 rfl 0 rfl dX6_put_40 ?_
        refine st_get G inX1 rfl 2 (by decide) wd_768 45 rfl 7 rfl rfl dX6_put_42 ?_
        refine st_icmp_lt G 54 48 rfl dX6_put_45 rfl (fun c => ?_) (fun c => ?_)
        · have h := h.1 c
          refine st_aload G 56 rfl 0 rfl dX6_put_54 ?_
          refine st_iload_n G 57 rfl 3 rfl dX6_put_56 rfl ?_
          refine st_iload_n G 58 rfl 4 rfl dX6_put_57 rfl ?_
          refine st_cVv G lk_X6_261 (c_X1_write g.l g.D g.X q_t_sh2 q_t_sh2_numbers (c_sh_bits 2) (c_sh_length 2) (c_sh_numbers 2) x2 x3 _ h) ⟨rfl, rfl, ⟨Nat.le_of_ble_eq_true rfl, Nat.le_of_ble_eq_true rfl⟩, Nat.zero_le _, Nat.zero_le _⟩ 61 rfl [7, 8] rfl (by decide) 0 1 rfl rfl rfl (Nat.le_of_ble_eq_true rfl) rfl dX6_put_58 (fun w hq => ?_)
          obtain ⟨o_58_numbers, h, rfl⟩ := hq
          obtain ⟨c_sh_numbers_58, ec_sh_numbers_58⟩ : ∃ y : Nat → Nat → Int32, y = va_up c_sh_numbers 2 o_58_numbers := ⟨_, rfl⟩
          have h := h c_sh_numbers_58 ec_sh_numbers_58
          refine st_wp (ws' := [(q_t, .inr (6, [.ref q_t_w, .ref q_t_k, .int c_images, .ref q_t_errors, .ref q_t_sheets, .ref q_t_r, .ref q_t_th, .ref q_t_sp])), (q_t_errors, .inl (g.X.cI, 7, .inl c_errors)), (q_t_sheets, .inl (g.X.cS, 4, .inr (.inr (.inr (.inr (shf q_t_sh0 q_t_sh1 q_t_sh2 q_t_sh3)))))), (q_t_sh0, .inr (1, [.ref q_t_sh0_numbers, .int (c_sh_bits 0), .int (c_sh_length 0)])), (q_t_sh0_numbers, .inl (g.X.cI, 24, .inl (c_sh_numbers_58 0))), (q_t_sh1, .inr (1, [.ref q_t_sh1_numbers, .int (c_sh_bits 1), .int (c_sh_length 1)])), (q_t_sh1_numbers, .inl (g.X.cI, 24, .inl (c_sh_numbers_58 1))), (q_t_sh2, .inr (1, [.ref q_t_sh2_numbers, .int (c_sh_bits 2), .int (c_sh_length 2)])), (q_t_sh2_numbers, .inl (g.X.cI, 24, .inl (c_sh_numbers_58 2))), (q_t_sh3, .inr (1, [.ref q_t_sh3_numbers, .int (c_sh_bits 3), .int (c_sh_length 3)])), (q_t_sh3_numbers, .inl (g.X.cI, 24, .inl (c_sh_numbers_58 3)))]) 11 [0, 1, 2, 3, 4, 5, 6, 9, 10] (by decide) rfl rfl (by subst ec_sh_numbers_58; rfl) [(q_t, .inr (6, [.ref q_t_w, .ref q_t_k, .int c_images, .ref q_t_errors, .ref q_t_sheets, .ref q_t_r, .ref q_t_th, .ref q_t_sp])), (q_t_errors, .inl (g.X.cI, 7, .inl c_errors)), (q_t_sheets, .inl (g.X.cS, 4, .inr (.inr (.inr (.inr (shf q_t_sh0 q_t_sh1 q_t_sh2 q_t_sh3)))))), (q_t_sh0, .inr (1, [.ref q_t_sh0_numbers, .int (c_sh_bits 0), .int (c_sh_length 0)])), (q_t_sh0_numbers, .inl (g.X.cI, 24, .inl (c_sh_numbers 0))), (q_t_sh1, .inr (1, [.ref q_t_sh1_numbers, .int (c_sh_bits 1), .int (c_sh_length 1)])), (q_t_sh1_numbers, .inl (g.X.cI, 24, .inl (c_sh_numbers 1))), (q_t_sh3, .inr (1, [.ref q_t_sh3_numbers, .int (c_sh_bits 3), .int (c_sh_length 3)])), (q_t_sh3_numbers, .inl (g.X.cI, 24, .inl (c_sh_numbers 3)))] (by subst ec_sh_numbers_58; rfl) rfl ?_
          refine st_iconst G 62 rfl (1 : Int32) (by decide) dX6_put_61 ?_
          exact R _ _ _ _ dX6_put_62 (Nat.le_of_ble_eq_true rfl) ⟨_, _, h, rfl⟩
        have h := h.2 c
        refine st_aload_n G 49 rfl 1 rfl dX6_put_48 rfl ?_
        refine st_iconst G 50 rfl (1 : Int32) (by decide) dX6_put_49 ?_
        refine st_cVi G lk_X6_55 (c_X6_error g.l g.D g.X q_t q_t_w q_t_k q_t_errors q_t_sheets q_t_r q_t_th q_t_sp c_images c_errors (1 : Int32) _ h) ⟨rfl, rfl, ⟨Nat.le_of_ble_eq_true rfl, Nat.le_of_ble_eq_true rfl⟩, Nat.zero_le _, Nat.zero_le _⟩ 53 rfl [0, 1] rfl (by decide) 0 6 rfl rfl rfl (Nat.le_of_ble_eq_true rfl) rfl dX6_put_50 (fun r_50 w hq => ?_)
        obtain ⟨c_errors_50, h, rfl⟩ := hq
        refine st_wp (ws' := [(q_t, .inr (6, [.ref q_t_w, .ref q_t_k, .int c_images, .ref q_t_errors, .ref q_t_sheets, .ref q_t_r, .ref q_t_th, .ref q_t_sp])), (q_t_errors, .inl (g.X.cI, 7, .inl c_errors_50)), (q_t_sheets, .inl (g.X.cS, 4, .inr (.inr (.inr (.inr (shf q_t_sh0 q_t_sh1 q_t_sh2 q_t_sh3)))))), (q_t_sh0, .inr (1, [.ref q_t_sh0_numbers, .int (c_sh_bits 0), .int (c_sh_length 0)])), (q_t_sh0_numbers, .inl (g.X.cI, 24, .inl (c_sh_numbers 0))), (q_t_sh1, .inr (1, [.ref q_t_sh1_numbers, .int (c_sh_bits 1), .int (c_sh_length 1)])), (q_t_sh1_numbers, .inl (g.X.cI, 24, .inl (c_sh_numbers 1))), (q_t_sh2, .inr (1, [.ref q_t_sh2_numbers, .int (c_sh_bits 2), .int (c_sh_length 2)])), (q_t_sh2_numbers, .inl (g.X.cI, 24, .inl (c_sh_numbers 2))), (q_t_sh3, .inr (1, [.ref q_t_sh3_numbers, .int (c_sh_bits 3), .int (c_sh_length 3)])), (q_t_sh3_numbers, .inl (g.X.cI, 24, .inl (c_sh_numbers 3)))]) 11 [2, 3, 4, 5, 6, 7, 8, 9, 10] (by decide) rfl rfl (by rfl) [(q_t_sheets, .inl (g.X.cS, 4, .inr (.inr (.inr (.inr (shf q_t_sh0 q_t_sh1 q_t_sh2 q_t_sh3)))))), (q_t_sh0, .inr (1, [.ref q_t_sh0_numbers, .int (c_sh_bits 0), .int (c_sh_length 0)])), (q_t_sh0_numbers, .inl (g.X.cI, 24, .inl (c_sh_numbers 0))), (q_t_sh1, .inr (1, [.ref q_t_sh1_numbers, .int (c_sh_bits 1), .int (c_sh_length 1)])), (q_t_sh1_numbers, .inl (g.X.cI, 24, .inl (c_sh_numbers 1))), (q_t_sh2, .inr (1, [.ref q_t_sh2_numbers, .int (c_sh_bits 2), .int (c_sh_length 2)])), (q_t_sh2_numbers, .inl (g.X.cI, 24, .inl (c_sh_numbers 2))), (q_t_sh3, .inr (1, [.ref q_t_sh3_numbers, .int (c_sh_bits 3), .int (c_sh_length 3)])), (q_t_sh3_numbers, .inl (g.X.cI, 24, .inl (c_sh_numbers 3)))] (by rfl) rfl ?_
        exact R _ _ _ _ dX6_put_53 (Nat.le_of_ble_eq_true rfl) ⟨_, _, h, rfl⟩
      have h := h.2 c
      refine st_aload_n G 30 rfl 1 rfl dX6_put_29 rfl ?_
      refine st_iconst G 31 rfl (2 : Int32) (by decide) dX6_put_30 ?_
      refine st_cVi G lk_X6_55 (c_X6_error g.l g.D g.X q_t q_t_w q_t_k q_t_errors q_t_sheets q_t_r q_t_th q_t_sp c_images c_errors (2 : Int32) _ h) ⟨rfl, rfl, ⟨Nat.le_of_ble_eq_true rfl, Nat.le_of_ble_eq_true rfl⟩, Nat.zero_le _, Nat.zero_le _⟩ 34 rfl [0, 1] rfl (by decide) 0 6 rfl rfl rfl (Nat.le_of_ble_eq_true rfl) rfl dX6_put_31 (fun r_31 w hq => ?_)
      obtain ⟨c_errors_31, h, rfl⟩ := hq
      refine st_wp (ws' := [(q_t, .inr (6, [.ref q_t_w, .ref q_t_k, .int c_images, .ref q_t_errors, .ref q_t_sheets, .ref q_t_r, .ref q_t_th, .ref q_t_sp])), (q_t_errors, .inl (g.X.cI, 7, .inl c_errors_31)), (q_t_sheets, .inl (g.X.cS, 4, .inr (.inr (.inr (.inr (shf q_t_sh0 q_t_sh1 q_t_sh2 q_t_sh3)))))), (q_t_sh0, .inr (1, [.ref q_t_sh0_numbers, .int (c_sh_bits 0), .int (c_sh_length 0)])), (q_t_sh0_numbers, .inl (g.X.cI, 24, .inl (c_sh_numbers 0))), (q_t_sh1, .inr (1, [.ref q_t_sh1_numbers, .int (c_sh_bits 1), .int (c_sh_length 1)])), (q_t_sh1_numbers, .inl (g.X.cI, 24, .inl (c_sh_numbers 1))), (q_t_sh2, .inr (1, [.ref q_t_sh2_numbers, .int (c_sh_bits 2), .int (c_sh_length 2)])), (q_t_sh2_numbers, .inl (g.X.cI, 24, .inl (c_sh_numbers 2))), (q_t_sh3, .inr (1, [.ref q_t_sh3_numbers, .int (c_sh_bits 3), .int (c_sh_length 3)])), (q_t_sh3_numbers, .inl (g.X.cI, 24, .inl (c_sh_numbers 3)))]) 11 [2, 3, 4, 5, 6, 7, 8, 9, 10] (by decide) rfl rfl (by rfl) [(q_t_sheets, .inl (g.X.cS, 4, .inr (.inr (.inr (.inr (shf q_t_sh0 q_t_sh1 q_t_sh2 q_t_sh3)))))), (q_t_sh0, .inr (1, [.ref q_t_sh0_numbers, .int (c_sh_bits 0), .int (c_sh_length 0)])), (q_t_sh0_numbers, .inl (g.X.cI, 24, .inl (c_sh_numbers 0))), (q_t_sh1, .inr (1, [.ref q_t_sh1_numbers, .int (c_sh_bits 1), .int (c_sh_length 1)])), (q_t_sh1_numbers, .inl (g.X.cI, 24, .inl (c_sh_numbers 1))), (q_t_sh2, .inr (1, [.ref q_t_sh2_numbers, .int (c_sh_bits 2), .int (c_sh_length 2)])), (q_t_sh2_numbers, .inl (g.X.cI, 24, .inl (c_sh_numbers 2))), (q_t_sh3, .inr (1, [.ref q_t_sh3_numbers, .int (c_sh_bits 3), .int (c_sh_length 3)])), (q_t_sh3_numbers, .inl (g.X.cI, 24, .inl (c_sh_numbers 3)))] (by rfl) rfl ?_
      exact R _ _ _ _ dX6_put_34 (Nat.le_of_ble_eq_true rfl) ⟨_, _, h, rfl⟩
    · refine st_aald G 19 rfl 2 rfl hin (v := .ref q_t_sh3) (by rw [ek]; rfl) dX6_put_18 ?_
      refine st_astore G 21 rfl [(4, .ref q_t_sh3), (0, .ref q_t), (1, .int x1), (2, .int x2), (3, .int x3)] dX6_put_19 (by decide) rfl ?_
      refine st_aload G 23 rfl 0 rfl dX6_put_21 ?_
      refine st_cVio G lk_X6_228 (c_X1_missing g.l g.D g.X q_t_sh3 q_t_sh3_numbers (c_sh_bits 3) (c_sh_length 3) _ h) ⟨rfl, rfl, ⟨Nat.le_of_ble_eq_true rfl, Nat.le_of_ble_eq_true rfl⟩, Nat.zero_le _, Nat.zero_le _⟩ 26 rfl [9] rfl (by decide) 0 1 rfl rfl rfl (Nat.le_of_ble_eq_true rfl) rfl dX6_put_23 (fun r_23 h => ?_)
      refine st_if_eq G 35 29 rfl dX6_put_26 rfl (fun c => ?_) (fun c => ?_)
      · have h := h.1 c
        refine st_iload_n G 36 rfl 3 rfl dX6_put_35 rfl ?_
        refine st_if_lt G 48 39 rfl dX6_put_36 rfl (fun c => ?_) (fun c => ?_)
        · have h := h.1 c
          refine st_aload_n G 49 rfl 1 rfl dX6_put_48 rfl ?_
          refine st_iconst G 50 rfl (1 : Int32) (by decide) dX6_put_49 ?_
          refine st_cVi G lk_X6_55 (c_X6_error g.l g.D g.X q_t q_t_w q_t_k q_t_errors q_t_sheets q_t_r q_t_th q_t_sp c_images c_errors (1 : Int32) _ h) ⟨rfl, rfl, ⟨Nat.le_of_ble_eq_true rfl, Nat.le_of_ble_eq_true rfl⟩, Nat.zero_le _, Nat.zero_le _⟩ 53 rfl [0, 1] rfl (by decide) 0 6 rfl rfl rfl (Nat.le_of_ble_eq_true rfl) rfl dX6_put_50 (fun r_50 w hq => ?_)
          obtain ⟨c_errors_50, h, rfl⟩ := hq
          refine st_wp (ws' := [(q_t, .inr (6, [.ref q_t_w, .ref q_t_k, .int c_images, .ref q_t_errors, .ref q_t_sheets, .ref q_t_r, .ref q_t_th, .ref q_t_sp])), (q_t_errors, .inl (g.X.cI, 7, .inl c_errors_50)), (q_t_sheets, .inl (g.X.cS, 4, .inr (.inr (.inr (.inr (shf q_t_sh0 q_t_sh1 q_t_sh2 q_t_sh3)))))), (q_t_sh0, .inr (1, [.ref q_t_sh0_numbers, .int (c_sh_bits 0), .int (c_sh_length 0)])), (q_t_sh0_numbers, .inl (g.X.cI, 24, .inl (c_sh_numbers 0))), (q_t_sh1, .inr (1, [.ref q_t_sh1_numbers, .int (c_sh_bits 1), .int (c_sh_length 1)])), (q_t_sh1_numbers, .inl (g.X.cI, 24, .inl (c_sh_numbers 1))), (q_t_sh2, .inr (1, [.ref q_t_sh2_numbers, .int (c_sh_bits 2), .int (c_sh_length 2)])), (q_t_sh2_numbers, .inl (g.X.cI, 24, .inl (c_sh_numbers 2))), (q_t_sh3, .inr (1, [.ref q_t_sh3_numbers, .int (c_sh_bits 3), .int (c_sh_length 3)])), (q_t_sh3_numbers, .inl (g.X.cI, 24, .inl (c_sh_numbers 3)))]) 11 [2, 3, 4, 5, 6, 7, 8, 9, 10] (by decide) rfl rfl (by rfl) [(q_t_sheets, .inl (g.X.cS, 4, .inr (.inr (.inr (.inr (shf q_t_sh0 q_t_sh1 q_t_sh2 q_t_sh3)))))), (q_t_sh0, .inr (1, [.ref q_t_sh0_numbers, .int (c_sh_bits 0), .int (c_sh_length 0)])), (q_t_sh0_numbers, .inl (g.X.cI, 24, .inl (c_sh_numbers 0))), (q_t_sh1, .inr (1, [.ref q_t_sh1_numbers, .int (c_sh_bits 1), .int (c_sh_length 1)])), (q_t_sh1_numbers, .inl (g.X.cI, 24, .inl (c_sh_numbers 1))), (q_t_sh2, .inr (1, [.ref q_t_sh2_numbers, .int (c_sh_bits 2), .int (c_sh_length 2)])), (q_t_sh2_numbers, .inl (g.X.cI, 24, .inl (c_sh_numbers 2))), (q_t_sh3, .inr (1, [.ref q_t_sh3_numbers, .int (c_sh_bits 3), .int (c_sh_length 3)])), (q_t_sh3_numbers, .inl (g.X.cI, 24, .inl (c_sh_numbers 3)))] (by rfl) rfl ?_
          exact R _ _ _ _ dX6_put_53 (Nat.le_of_ble_eq_true rfl) ⟨_, _, h, rfl⟩
        have h := h.2 c
        refine st_iload_n G 40 rfl 3 rfl dX6_put_39 rfl ?_
        refine st_aload G 42 rfl 0 rfl dX6_put_40 ?_
        refine st_get G inX1 rfl 2 (by decide) wd_768 45 rfl 9 rfl rfl dX6_put_42 ?_
        refine st_icmp_lt G 54 48 rfl dX6_put_45 rfl (fun c => ?_) (fun c => ?_)
        · have h := h.1 c
          refine st_aload G 56 rfl 0 rfl dX6_put_54 ?_
          refine st_iload_n G 57 rfl 3 rfl dX6_put_56 rfl ?_
          refine st_iload_n G 58 rfl 4 rfl dX6_put_57 rfl ?_
          refine st_cVv G lk_X6_261 (c_X1_write g.l g.D g.X q_t_sh3 q_t_sh3_numbers (c_sh_bits 3) (c_sh_length 3) (c_sh_numbers 3) x2 x3 _ h) ⟨rfl, rfl, ⟨Nat.le_of_ble_eq_true rfl, Nat.le_of_ble_eq_true rfl⟩, Nat.zero_le _, Nat.zero_le _⟩ 61 rfl [9, 10] rfl (by decide) 0 1 rfl rfl rfl (Nat.le_of_ble_eq_true rfl) rfl dX6_put_58 (fun w hq => ?_)
          obtain ⟨o_58_numbers, h, rfl⟩ := hq
          obtain ⟨c_sh_numbers_58, ec_sh_numbers_58⟩ : ∃ y : Nat → Nat → Int32, y = va_up c_sh_numbers 3 o_58_numbers := ⟨_, rfl⟩
          have h := h c_sh_numbers_58 ec_sh_numbers_58
          refine st_wp (ws' := [(q_t, .inr (6, [.ref q_t_w, .ref q_t_k, .int c_images, .ref q_t_errors, .ref q_t_sheets, .ref q_t_r, .ref q_t_th, .ref q_t_sp])), (q_t_errors, .inl (g.X.cI, 7, .inl c_errors)), (q_t_sheets, .inl (g.X.cS, 4, .inr (.inr (.inr (.inr (shf q_t_sh0 q_t_sh1 q_t_sh2 q_t_sh3)))))), (q_t_sh0, .inr (1, [.ref q_t_sh0_numbers, .int (c_sh_bits 0), .int (c_sh_length 0)])), (q_t_sh0_numbers, .inl (g.X.cI, 24, .inl (c_sh_numbers_58 0))), (q_t_sh1, .inr (1, [.ref q_t_sh1_numbers, .int (c_sh_bits 1), .int (c_sh_length 1)])), (q_t_sh1_numbers, .inl (g.X.cI, 24, .inl (c_sh_numbers_58 1))), (q_t_sh2, .inr (1, [.ref q_t_sh2_numbers, .int (c_sh_bits 2), .int (c_sh_length 2)])), (q_t_sh2_numbers, .inl (g.X.cI, 24, .inl (c_sh_numbers_58 2))), (q_t_sh3, .inr (1, [.ref q_t_sh3_numbers, .int (c_sh_bits 3), .int (c_sh_length 3)])), (q_t_sh3_numbers, .inl (g.X.cI, 24, .inl (c_sh_numbers_58 3)))]) 11 [0, 1, 2, 3, 4, 5, 6, 7, 8] (by decide) rfl rfl (by subst ec_sh_numbers_58; rfl) [(q_t, .inr (6, [.ref q_t_w, .ref q_t_k, .int c_images, .ref q_t_errors, .ref q_t_sheets, .ref q_t_r, .ref q_t_th, .ref q_t_sp])), (q_t_errors, .inl (g.X.cI, 7, .inl c_errors)), (q_t_sheets, .inl (g.X.cS, 4, .inr (.inr (.inr (.inr (shf q_t_sh0 q_t_sh1 q_t_sh2 q_t_sh3)))))), (q_t_sh0, .inr (1, [.ref q_t_sh0_numbers, .int (c_sh_bits 0), .int (c_sh_length 0)])), (q_t_sh0_numbers, .inl (g.X.cI, 24, .inl (c_sh_numbers 0))), (q_t_sh1, .inr (1, [.ref q_t_sh1_numbers, .int (c_sh_bits 1), .int (c_sh_length 1)])), (q_t_sh1_numbers, .inl (g.X.cI, 24, .inl (c_sh_numbers 1))), (q_t_sh2, .inr (1, [.ref q_t_sh2_numbers, .int (c_sh_bits 2), .int (c_sh_length 2)])), (q_t_sh2_numbers, .inl (g.X.cI, 24, .inl (c_sh_numbers 2)))] (by subst ec_sh_numbers_58; rfl) rfl ?_
          refine st_iconst G 62 rfl (1 : Int32) (by decide) dX6_put_61 ?_
          exact R _ _ _ _ dX6_put_62 (Nat.le_of_ble_eq_true rfl) ⟨_, _, h, rfl⟩
        have h := h.2 c
        refine st_aload_n G 49 rfl 1 rfl dX6_put_48 rfl ?_
        refine st_iconst G 50 rfl (1 : Int32) (by decide) dX6_put_49 ?_
        refine st_cVi G lk_X6_55 (c_X6_error g.l g.D g.X q_t q_t_w q_t_k q_t_errors q_t_sheets q_t_r q_t_th q_t_sp c_images c_errors (1 : Int32) _ h) ⟨rfl, rfl, ⟨Nat.le_of_ble_eq_true rfl, Nat.le_of_ble_eq_true rfl⟩, Nat.zero_le _, Nat.zero_le _⟩ 53 rfl [0, 1] rfl (by decide) 0 6 rfl rfl rfl (Nat.le_of_ble_eq_true rfl) rfl dX6_put_50 (fun r_50 w hq => ?_)
        obtain ⟨c_errors_50, h, rfl⟩ := hq
        refine st_wp (ws' := [(q_t, .inr (6, [.ref q_t_w, .ref q_t_k, .int c_images, .ref q_t_errors, .ref q_t_sheets, .ref q_t_r, .ref q_t_th, .ref q_t_sp])), (q_t_errors, .inl (g.X.cI, 7, .inl c_errors_50)), (q_t_sheets, .inl (g.X.cS, 4, .inr (.inr (.inr (.inr (shf q_t_sh0 q_t_sh1 q_t_sh2 q_t_sh3)))))), (q_t_sh0, .inr (1, [.ref q_t_sh0_numbers, .int (c_sh_bits 0), .int (c_sh_length 0)])), (q_t_sh0_numbers, .inl (g.X.cI, 24, .inl (c_sh_numbers 0))), (q_t_sh1, .inr (1, [.ref q_t_sh1_numbers, .int (c_sh_bits 1), .int (c_sh_length 1)])), (q_t_sh1_numbers, .inl (g.X.cI, 24, .inl (c_sh_numbers 1))), (q_t_sh2, .inr (1, [.ref q_t_sh2_numbers, .int (c_sh_bits 2), .int (c_sh_length 2)])), (q_t_sh2_numbers, .inl (g.X.cI, 24, .inl (c_sh_numbers 2))), (q_t_sh3, .inr (1, [.ref q_t_sh3_numbers, .int (c_sh_bits 3), .int (c_sh_length 3)])), (q_t_sh3_numbers, .inl (g.X.cI, 24, .inl (c_sh_numbers 3)))]) 11 [2, 3, 4, 5, 6, 7, 8, 9, 10] (by decide) rfl rfl (by rfl) [(q_t_sheets, .inl (g.X.cS, 4, .inr (.inr (.inr (.inr (shf q_t_sh0 q_t_sh1 q_t_sh2 q_t_sh3)))))), (q_t_sh0, .inr (1, [.ref q_t_sh0_numbers, .int (c_sh_bits 0), .int (c_sh_length 0)])), (q_t_sh0_numbers, .inl (g.X.cI, 24, .inl (c_sh_numbers 0))), (q_t_sh1, .inr (1, [.ref q_t_sh1_numbers, .int (c_sh_bits 1), .int (c_sh_length 1)])), (q_t_sh1_numbers, .inl (g.X.cI, 24, .inl (c_sh_numbers 1))), (q_t_sh2, .inr (1, [.ref q_t_sh2_numbers, .int (c_sh_bits 2), .int (c_sh_length 2)])), (q_t_sh2_numbers, .inl (g.X.cI, 24, .inl (c_sh_numbers 2))), (q_t_sh3, .inr (1, [.ref q_t_sh3_numbers, .int (c_sh_bits 3), .int (c_sh_length 3)])), (q_t_sh3_numbers, .inl (g.X.cI, 24, .inl (c_sh_numbers 3)))] (by rfl) rfl ?_
        exact R _ _ _ _ dX6_put_53 (Nat.le_of_ble_eq_true rfl) ⟨_, _, h, rfl⟩
      have h := h.2 c
      refine st_aload_n G 30 rfl 1 rfl dX6_put_29 rfl ?_
      refine st_iconst G 31 rfl (2 : Int32) (by decide) dX6_put_30 ?_
      refine st_cVi G lk_X6_55 (c_X6_error g.l g.D g.X q_t q_t_w q_t_k q_t_errors q_t_sheets q_t_r q_t_th q_t_sp c_images c_errors (2 : Int32) _ h) ⟨rfl, rfl, ⟨Nat.le_of_ble_eq_true rfl, Nat.le_of_ble_eq_true rfl⟩, Nat.zero_le _, Nat.zero_le _⟩ 34 rfl [0, 1] rfl (by decide) 0 6 rfl rfl rfl (Nat.le_of_ble_eq_true rfl) rfl dX6_put_31 (fun r_31 w hq => ?_)
      obtain ⟨c_errors_31, h, rfl⟩ := hq
      refine st_wp (ws' := [(q_t, .inr (6, [.ref q_t_w, .ref q_t_k, .int c_images, .ref q_t_errors, .ref q_t_sheets, .ref q_t_r, .ref q_t_th, .ref q_t_sp])), (q_t_errors, .inl (g.X.cI, 7, .inl c_errors_31)), (q_t_sheets, .inl (g.X.cS, 4, .inr (.inr (.inr (.inr (shf q_t_sh0 q_t_sh1 q_t_sh2 q_t_sh3)))))), (q_t_sh0, .inr (1, [.ref q_t_sh0_numbers, .int (c_sh_bits 0), .int (c_sh_length 0)])), (q_t_sh0_numbers, .inl (g.X.cI, 24, .inl (c_sh_numbers 0))), (q_t_sh1, .inr (1, [.ref q_t_sh1_numbers, .int (c_sh_bits 1), .int (c_sh_length 1)])), (q_t_sh1_numbers, .inl (g.X.cI, 24, .inl (c_sh_numbers 1))), (q_t_sh2, .inr (1, [.ref q_t_sh2_numbers, .int (c_sh_bits 2), .int (c_sh_length 2)])), (q_t_sh2_numbers, .inl (g.X.cI, 24, .inl (c_sh_numbers 2))), (q_t_sh3, .inr (1, [.ref q_t_sh3_numbers, .int (c_sh_bits 3), .int (c_sh_length 3)])), (q_t_sh3_numbers, .inl (g.X.cI, 24, .inl (c_sh_numbers 3)))]) 11 [2, 3, 4, 5, 6, 7, 8, 9, 10] (by decide) rfl rfl (by rfl) [(q_t_sheets, .inl (g.X.cS, 4, .inr (.inr (.inr (.inr (shf q_t_sh0 q_t_sh1 q_t_sh2 q_t_sh3)))))), (q_t_sh0, .inr (1, [.ref q_t_sh0_numbers, .int (c_sh_bits 0), .int (c_sh_length 0)])), (q_t_sh0_numbers, .inl (g.X.cI, 24, .inl (c_sh_numbers 0))), (q_t_sh1, .inr (1, [.ref q_t_sh1_numbers, .int (c_sh_bits 1), .int (c_sh_length 1)])), (q_t_sh1_numbers, .inl (g.X.cI, 24, .inl (c_sh_numbers 1))), (q_t_sh2, .inr (1, [.ref q_t_sh2_numbers, .int (c_sh_bits 2), .int (c_sh_length 2)])), (q_t_sh2_numbers, .inl (g.X.cI, 24, .inl (c_sh_numbers 2))), (q_t_sh3, .inr (1, [.ref q_t_sh3_numbers, .int (c_sh_bits 3), .int (c_sh_length 3)])), (q_t_sh3_numbers, .inl (g.X.cI, 24, .inl (c_sh_numbers 3)))] (by rfl) rfl ?_
      exact R _ _ _ _ dX6_put_34 (Nat.le_of_ble_eq_true rfl) ⟨_, _, h, rfl⟩
  have h := h.2 c
  refine st_aload_n G 8 rfl 0 rfl dX6_put_7 rfl ?_
  refine st_iconst G 9 rfl (1 : Int32) (by decide) dX6_put_8 ?_
  refine st_cVi G lk_X6_55 (c_X6_error g.l g.D g.X q_t q_t_w q_t_k q_t_errors q_t_sheets q_t_r q_t_th q_t_sp c_images c_errors (1 : Int32) _ h) ⟨rfl, rfl, ⟨Nat.le_of_ble_eq_true rfl, Nat.le_of_ble_eq_true rfl⟩, Nat.zero_le _, Nat.zero_le _⟩ 12 rfl [0, 1] rfl (by decide) 0 6 rfl rfl rfl (Nat.le_of_ble_eq_true rfl) rfl dX6_put_9 (fun r_9 w hq => ?_)
  obtain ⟨c_errors_9, h, rfl⟩ := hq
  refine st_wp (ws' := [(q_t, .inr (6, [.ref q_t_w, .ref q_t_k, .int c_images, .ref q_t_errors, .ref q_t_sheets, .ref q_t_r, .ref q_t_th, .ref q_t_sp])), (q_t_errors, .inl (g.X.cI, 7, .inl c_errors_9)), (q_t_sheets, .inl (g.X.cS, 4, .inr (.inr (.inr (.inr (shf q_t_sh0 q_t_sh1 q_t_sh2 q_t_sh3)))))), (q_t_sh0, .inr (1, [.ref q_t_sh0_numbers, .int (c_sh_bits 0), .int (c_sh_length 0)])), (q_t_sh0_numbers, .inl (g.X.cI, 24, .inl (c_sh_numbers 0))), (q_t_sh1, .inr (1, [.ref q_t_sh1_numbers, .int (c_sh_bits 1), .int (c_sh_length 1)])), (q_t_sh1_numbers, .inl (g.X.cI, 24, .inl (c_sh_numbers 1))), (q_t_sh2, .inr (1, [.ref q_t_sh2_numbers, .int (c_sh_bits 2), .int (c_sh_length 2)])), (q_t_sh2_numbers, .inl (g.X.cI, 24, .inl (c_sh_numbers 2))), (q_t_sh3, .inr (1, [.ref q_t_sh3_numbers, .int (c_sh_bits 3), .int (c_sh_length 3)])), (q_t_sh3_numbers, .inl (g.X.cI, 24, .inl (c_sh_numbers 3)))]) 11 [2, 3, 4, 5, 6, 7, 8, 9, 10] (by decide) rfl rfl (by rfl) [(q_t_sheets, .inl (g.X.cS, 4, .inr (.inr (.inr (.inr (shf q_t_sh0 q_t_sh1 q_t_sh2 q_t_sh3)))))), (q_t_sh0, .inr (1, [.ref q_t_sh0_numbers, .int (c_sh_bits 0), .int (c_sh_length 0)])), (q_t_sh0_numbers, .inl (g.X.cI, 24, .inl (c_sh_numbers 0))), (q_t_sh1, .inr (1, [.ref q_t_sh1_numbers, .int (c_sh_bits 1), .int (c_sh_length 1)])), (q_t_sh1_numbers, .inl (g.X.cI, 24, .inl (c_sh_numbers 1))), (q_t_sh2, .inr (1, [.ref q_t_sh2_numbers, .int (c_sh_bits 2), .int (c_sh_length 2)])), (q_t_sh2_numbers, .inl (g.X.cI, 24, .inl (c_sh_numbers 2))), (q_t_sh3, .inr (1, [.ref q_t_sh3_numbers, .int (c_sh_bits 3), .int (c_sh_length 3)])), (q_t_sh3_numbers, .inl (g.X.cI, 24, .inl (c_sh_numbers 3)))] (by rfl) rfl ?_
  exact R _ _ _ _ dX6_put_12 (Nat.le_of_ble_eq_true rfl) ⟨_, _, h, rfl⟩
set_option maxRecDepth 100000 in
set_option maxHeartbeats 4000000 in
theorem c_X6_put (l : Launch) (D : va_G) (X : XT) (q_t q_t_w q_t_k q_t_errors q_t_sheets q_t_sh0 q_t_sh0_numbers q_t_sh1 q_t_sh1_numbers q_t_sh2 q_t_sh2_numbers q_t_sh3 q_t_sh3_numbers q_t_r q_t_th q_t_sp : Nat) (c_images : Int32) (c_errors : Nat → Int32) (c_sh_bits : Nat → Int32) (c_sh_length : Nat → Int32) (c_sh_numbers : Nat → Nat → Int32) (x1 : Int32) (x2 : Int32) (x3 : Int32) (Q : Int32 → (Nat → Int32) → (Nat → Nat → Int32) → Prop) (h : wp_X6_put x1 x2 x3 c_errors c_sh_bits c_sh_length c_sh_numbers Q) : CTi l D X yX6_put cX6_put 5 .int rm_X6_put [.ref q_t, .int x1, .int x2, .int x3] [(q_t, .inr (6, [.ref q_t_w, .ref q_t_k, .int c_images, .ref q_t_errors, .ref q_t_sheets, .ref q_t_r, .ref q_t_th, .ref q_t_sp])), (q_t_errors, .inl (X.cI, 7, .inl c_errors)), (q_t_sheets, .inl (X.cS, 4, .inr (.inr (.inr (.inr (shf q_t_sh0 q_t_sh1 q_t_sh2 q_t_sh3)))))), (q_t_sh0, .inr (1, [.ref q_t_sh0_numbers, .int (c_sh_bits 0), .int (c_sh_length 0)])), (q_t_sh0_numbers, .inl (X.cI, 24, .inl (c_sh_numbers 0))), (q_t_sh1, .inr (1, [.ref q_t_sh1_numbers, .int (c_sh_bits 1), .int (c_sh_length 1)])), (q_t_sh1_numbers, .inl (X.cI, 24, .inl (c_sh_numbers 1))), (q_t_sh2, .inr (1, [.ref q_t_sh2_numbers, .int (c_sh_bits 2), .int (c_sh_length 2)])), (q_t_sh2_numbers, .inl (X.cI, 24, .inl (c_sh_numbers 2))), (q_t_sh3, .inr (1, [.ref q_t_sh3_numbers, .int (c_sh_bits 3), .int (c_sh_length 3)])), (q_t_sh3_numbers, .inl (X.cI, 24, .inl (c_sh_numbers 3)))] (fun (r : Int32) w => ∃ (c_errors' : Nat → Int32) (c_sh_numbers' : Nat → Nat → Int32), Q r c_errors' c_sh_numbers' ∧ w = [(q_t, .inr (6, [.ref q_t_w, .ref q_t_k, .int c_images, .ref q_t_errors, .ref q_t_sheets, .ref q_t_r, .ref q_t_th, .ref q_t_sp])), (q_t_errors, .inl (X.cI, 7, .inl c_errors')), (q_t_sheets, .inl (X.cS, 4, .inr (.inr (.inr (.inr (shf q_t_sh0 q_t_sh1 q_t_sh2 q_t_sh3)))))), (q_t_sh0, .inr (1, [.ref q_t_sh0_numbers, .int (c_sh_bits 0), .int (c_sh_length 0)])), (q_t_sh0_numbers, .inl (X.cI, 24, .inl (c_sh_numbers' 0))), (q_t_sh1, .inr (1, [.ref q_t_sh1_numbers, .int (c_sh_bits 1), .int (c_sh_length 1)])), (q_t_sh1_numbers, .inl (X.cI, 24, .inl (c_sh_numbers' 1))), (q_t_sh2, .inr (1, [.ref q_t_sh2_numbers, .int (c_sh_bits 2), .int (c_sh_length 2)])), (q_t_sh2_numbers, .inl (X.cI, 24, .inl (c_sh_numbers' 2))), (q_t_sh3, .inr (1, [.ref q_t_sh3_numbers, .int (c_sh_bits 3), .int (c_sh_length 3)])), (q_t_sh3_numbers, .inl (X.cI, 24, .inl (c_sh_numbers' 3)))]) :=
  ct_i (by decide) (Nat.le_of_ble_eq_true rfl) (fun g hl hD hX G R => by subst hl; subst hD; subst hX; exact b_X6_put_e G R h)
set_option maxRecDepth 100000 in
set_option maxHeartbeats 4000000 in
theorem b_X1_lacks_e {g : GT} (G : GOOD g RX1 cX1_lacks 3 rm_X1_lacks) {q_t q_t_numbers : Nat} {c_bits : Int32} {c_length : Int32} {x1 : Int32} {x2 : Int32} {Q : Int32 → Prop} (R : RETz g cX1_lacks 1 (fun (r : Int32) w => (Q r) ∧ w = [(q_t, .inr (1, [.ref q_t_numbers, .int c_bits, .int c_length]))])) (h : wp_X1_lacks x1 x2 c_length Q) : ST g 0 0 0 [(0, .ref q_t), (1, .int x1), (2, .int x2)] [] [(q_t, .inr (1, [.ref q_t_numbers, .int c_bits, .int c_length]))] := by
  unfold wp_X1_lacks at h
  refine st_iload_n G 1 rfl 1 rfl dX1_lacks_0 rfl ?_
  refine st_if_lt G 22 4 rfl dX1_lacks_1 rfl (fun c => ?_) (fun c => ?_)
  · have h := h.1 c
    refine st_iconst G 23 rfl (1 : Int32) (by decide) dX1_lacks_22 ?_
    refine st_goto G 27 dX1_lacks_23 rfl ?_
    exact R _ _ _ _ dX1_lacks_27 (Nat.le_of_ble_eq_true rfl) rfl ⟨h, rfl⟩
  have h := h.2 c
  refine st_iload_n G 5 rfl 2 rfl dX1_lacks_4 rfl ?_
  refine st_aload_n G 6 rfl 0 rfl dX1_lacks_5 rfl ?_
  refine st_get G inX1 rfl 2 (by decide) wd_895 9 rfl 0 rfl rfl dX1_lacks_6 ?_
  refine st_icmp_gt G 22 12 rfl dX1_lacks_9 rfl (fun c => ?_) (fun c => ?_)
  · have h := h.1 c
    refine st_iconst G 23 rfl (1 : Int32) (by decide) dX1_lacks_22 ?_
    refine st_goto G 27 dX1_lacks_23 rfl ?_
    exact R _ _ _ _ dX1_lacks_27 (Nat.le_of_ble_eq_true rfl) rfl ⟨h, rfl⟩
  have h := h.2 c
  refine st_iload_n G 13 rfl 1 rfl dX1_lacks_12 rfl ?_
  refine st_aload_n G 14 rfl 0 rfl dX1_lacks_13 rfl ?_
  refine st_get G inX1 rfl 2 (by decide) wd_895 17 rfl 0 rfl rfl dX1_lacks_14 ?_
  refine st_iload_n G 18 rfl 2 rfl dX1_lacks_17 rfl ?_
  refine st_isub G 19 rfl dX1_lacks_18 ?_
  refine st_icmp_le G 26 22 rfl dX1_lacks_19 rfl (fun c => ?_) (fun c => ?_)
  · have h := h.1 c
    refine st_iconst G 27 rfl (0 : Int32) (by decide) dX1_lacks_26 ?_
    exact R _ _ _ _ dX1_lacks_27 (Nat.le_of_ble_eq_true rfl) rfl ⟨h, rfl⟩
  have h := h.2 c
  refine st_iconst G 23 rfl (1 : Int32) (by decide) dX1_lacks_22 ?_
  refine st_goto G 27 dX1_lacks_23 rfl ?_
  exact R _ _ _ _ dX1_lacks_27 (Nat.le_of_ble_eq_true rfl) rfl ⟨h, rfl⟩
set_option maxRecDepth 100000 in
set_option maxHeartbeats 4000000 in
theorem c_X1_lacks (l : Launch) (D : va_G) (X : XT) (q_t q_t_numbers : Nat) (c_bits : Int32) (c_length : Int32) (x1 : Int32) (x2 : Int32) (Q : Int32 → Prop) (h : wp_X1_lacks x1 x2 c_length Q) : CTi l D X yX1_lacks cX1_lacks 3 .boolean rm_X1_lacks [.ref q_t, .int x1, .int x2] [(q_t, .inr (1, [.ref q_t_numbers, .int c_bits, .int c_length]))] (fun (r : Int32) w => (Q r) ∧ w = [(q_t, .inr (1, [.ref q_t_numbers, .int c_bits, .int c_length]))]) :=
  ct_z (by decide) (Nat.le_of_ble_eq_true rfl) (fun g hl hD hX G R => by subst hl; subst hD; subst hX; exact b_X1_lacks_e G R h)
