/-! text: the tape becomes the text of a use -/
theorem op_text {P Y B w : Nat} {z : Int32} {km fa mo fr sp ow tp tn : V} {tq : Nat → V} {wt s e : V} (h : WR P Y B w z km fa mo fr sp ow tp tn tq wt s) (x1 : Int32) {rb rp ru rf rs : Int32} {rq rt : V} {ma mop mst mu : Int32} {mstep : V} (C : Int32 → Int32 → V → (Nat → V) → V → Int32 → Int32 → Int32 → Int32 → Int32 → V → V → Int32 → Int32 → Int32 → Int32 → Int32 → V → V → V → Prop) (hC : ∀ r B' tn' tq' e' rb' rp' ru' rf' rs' rq' rt' ma' mop' mst' mu' s' mstep', WR P Y B' w z km fa mo fr sp ow tp tn' tq' wt s' → C r (nI B') tn' tq' e' rb' rp' ru' rf' rs' rq' rt' r ma' mop' mst' mu' s' e' mstep') : wp_X6_text x1 (nI B) tp tn tq e rb rp ru rf rs rq rt (fun r b' tn' tq' e' rb' rp' ru' rf' rs' rq' rt' => wp_X7_text x1 ma mop mst mu s e mstep (fun r' ma' mop' mst' mu' s' e'' mstep' => C r b' tn' tq' e' rb' rp' ru' rf' rs' rq' rt' r' ma' mop' mst' mu' s' e'' mstep')) := by
  obtain ⟨⟨a1, a2, a3, a4⟩, ⟨b1, b2, b3, b4, b5⟩, c1, c2, c3, c4, c5, c6, c7, c8, c9⟩ := id h
  unfold wp_X6_text
  rcases io x1 2 (by omega) with ⟨u, hu, rfl⟩ | ho
  · refine w6_use_in hu (tB ?_)
    unfold wp_X0_faultOf
    intro tape et
    have hT : ∀ i, i < 60 → tape i = tp i := fun i hi => by rw [et]; exact cpy0 hi
    unfold wp_X3_clear
    obtain ⟨ok, a', m, T, A, D, l1, l2, g, cc, dd⟩ := rd_top (u := u) (tape := tape) (s := s) a3 hu (fun i hi => by rw [hT i hi]; exact (c6 i hi).1) b3 (fun i hi => by rw [hT i hi]; exact (c6 i hi).2)
    -- the row without bytes on the tape
    have w0 : WR P Y 0 w z km fa mo fr sp ow tp tn tq wt (upd s 2 0) := h.low (B' := 0) rfl ⟨a2, by omega, a4⟩ ⟨by rw [un (by omega)]; exact b1, by rw [un (by omega)]; exact b2, us, by rw [un (by omega)]; exact b4, by rw [un (by omega)]; exact b5⟩ (fun i h1 h2 => un (by omega))
    have tx : ∀ R : Nat → Prop, R u → wp_X5_textOf (nI u) R := by
      intro R r
      rcases (by omega : u = 0 ∨ u = 1) with e | e <;> subst e
      · exact w5_textOf0 r
      · exact w5_textOf1 r
    -- the model says a fault there
    have mf : ∀ R : Int32 → Int32 → Int32 → Int32 → Int32 → V → V → V → Prop, (¬ ok ∨ ¬ a' = B) → (∀ o' n' st', R ((-10 : Int32) - nI a') (nI a') o' n' (nI u) (upd s 2 0) e st') → wp_X7_text (nI u) ma mop mst mu s e mstep R := by
      intro R hf hR
      have b60 : ∀ (o' n' : Int32) (st' : V), wp_X7_text_b60 R (nI u) (0 : Int32) (nI a') o' n' (nI u) s e st' := by
        intro o' n' st'
        unfold wp_X7_text_b60
        refine ⟨vi (n := 2) (by omega) (by omega), fun s1 e1 => tA ?_⟩
        have e1' : s1 = upd s 2 0 := e1
        rw [e1']; exact hR o' n' st'
      unfold wp_X7_text
      refine w7_in_in (lo := 0) (hi := 1) (by omega) (by omega) (by omega) (tC (dd 0 mstep _ (Nat.le_refl 0) (fun k st' _ _ => tD ⟨vi (n := 2) (by omega) (by omega), fun _ => b60 _ _ _, fun c => ?_⟩) (fun _ o' n' st' => tB (b60 _ _ _))))
      exfalso
      rw [show ((2 : Int32).toNatClampNeg) = 2 from rfl, b3] at c
      have := (eq_n (by omega) (by omega)).mp c
      rcases hf with q | q
      · exact q k
      · exact q this
    -- the class says a fault there
    have bad : ∀ (f n' : Int32) (q' : V), (¬ ok ∨ ¬ a' = B) → ((nI a' < 0) → wp_X5_textOf (nI u) (fun K_48 => wp_X3_copyFrom (tn K_48) (tq K_48) n' q' (fun o_58_size o_58_parts => ∀ w_tx_size_58 : Nat → Int32, w_tx_size_58 = va_up tn K_48 o_58_size → ∀ w_tx_parts_58 : Nat → Nat → Int32, w_tx_parts_58 = va_up tq K_48 o_58_parts → wp_X7_text (nI u) ma mop mst mu s e mstep (fun r' ma' mop' mst' mu' s' e'' mstep' => C (1 : Int32) (0 : Int32) w_tx_size_58 w_tx_parts_58 e (nI B) (nI a') (nI u) f n' q' tape r' ma' mop' mst' mu' s' e'' mstep')))) ∧ ((¬ nI a' < 0) → wp_X7_text (nI u) ma mop mst mu s e mstep (fun r' ma' mop' mst' mu' s' e'' mstep' => C ((-10 : Int32) - nI a') (0 : Int32) tn tq e (nI B) (nI a') (nI u) f n' q' tape r' ma' mop' mst' mu' s' e'' mstep')) := by
      intro f n' q' hf
      exact ⟨fun c => absurd c (nlt (b := 0) (by omega) (by omega)), fun _ => mf _ hf (fun o' n'' st' => hC _ 0 _ _ _ _ _ _ _ _ _ _ _ _ _ _ _ _ w0)⟩
    refine cc 0 rq _ (Nat.le_refl 0) (fun k q' _ e2 => tA ⟨fun c => ?_, fun c => ?_⟩) (fun k n' q' hn' => tC (bad _ _ _ (Or.inl k)))
    · -- the whole tape is one text
      have := (le_n (by omega) (by omega)).mp c
      have eB : a' = B := by omega
      obtain ⟨s1, s2, s3⟩ := g k
      refine ⟨fun _ => tx _ ?_, fun c => absurd (by decide) c⟩
      unfold wp_X3_copyFrom
      intro o2 eo2 tn' etn tq' etq
      have hq : ∀ i, i < m → o2 i = T i := fun i hi => by
        rw [eo2]
        have k1 := e2 i hi
        rw [Nat.zero_add] at k1
        rw [← k1]
        exact cpy0 (n := 60) (by omega)
      unfold wp_X7_text
      refine w7_in_in (lo := 0) (hi := 1) (by omega) (by omega) (by omega) (tC (dd 0 mstep _ (Nat.le_refl 0) (fun _ st' _ f2 => tD ⟨vi (n := 2) (by omega) (by omega), fun c => ?_, fun _ => ?_⟩) (fun k' => absurd k k')))
      · exfalso
        apply c
        rw [show ((2 : Int32).toNatClampNeg) = 2 from rfl, b3, eB]
      · unfold wp_X7_text_b60
        refine ⟨vi (n := 2) (by omega) (by omega), fun s3' e3 => ⟨fun _ x3 ex3 => ?_, fun c => absurd c (by decide)⟩⟩
        have e3' : s3' = upd s 2 0 := e3
        subst e3'
        rw [show (142 : Int32) = nI 142 from rfl, show (125 : Int32) = nI 125 from rfl, ml, ad] at ex3
        subst ex3
        rw [cl (by omega)]
        refine ⟨vi (by omega) (by omega), fun s4 e4 => ?_⟩
        rw [Nat.zero_add] at e4 ⊢
        refine loop_0 (fun f i (t : V) => wp_X7_text_b102 _ f (nI (142 + 125 * u)) (nI i) (nI a') (nI 0) (nI m) (nI u) t e st') (fun i t => (∀ j, j < i → t (143 + 125 * u + j) = st' j) ∧ ∀ j, (j < 143 + 125 * u ∨ 143 + 125 * u + i ≤ j) → t j = s4 j) (2 * m) s4 ⟨fun j hj => absurd hj (Nat.not_lt_zero j), fun j _ => rfl⟩ ?_ ?_
        · intro f t ⟨t1, t2⟩
          unfold wp_X7_text_b102
          rw [show (2 : Int32) = nI 2 from rfl, ml]
          refine ⟨fun _ => ?_, fun c => absurd ((le_n (by omega) (by omega)).mpr (Nat.le_refl _)) c⟩
          have ty : ∀ i, i ≠ 2 → (i < 142 + 125 * u ∨ 267 + 125 * u ≤ i) → t i = s i := fun i i2 hi => by
            rw [t2 i (by omega), e4, un (by omega), un i2]
          refine hC _ 0 _ _ _ _ _ _ _ _ _ _ _ _ _ _ _ _ (h.txt (B' := 0) (by omega) hu (u := u) ?_ (fun v hv nv' => ⟨by rw [etn, vup_n nv'], by rw [etq, vup_n nv']⟩) (by rw [t2 2 (by omega), e4, un (by omega), us]; rfl) ty)
          rw [etn, etq, vup_s, vup_s]
          have dpe : ∀ i, i ≤ m → dp o2 i = dp T i := fun i hi => dp_cg i (fun j hj => hq j (by omega))
          refine ⟨m, by omega, by rw [Nat.zero_add], by rw [t2 _ (by omega), e4, us], fun i hi => ?_, fun i hi kk => ?_, fun _ => ?_⟩
          · have y1 := t1 (2 * i) (by omega)
            have y2 := t1 (2 * i + 1) (by omega)
            obtain ⟨f3, f4⟩ := f2 i hi
            rw [Nat.zero_add] at f3 f4
            rw [hq i hi, y1, show 144 + 125 * u + 2 * i = 143 + 125 * u + (2 * i + 1) by omega, y2, f3, f4]
            exact s3 i hi
          · rw [hq i hi] at kk ⊢
            rw [dpe i (by omega)]
            obtain ⟨w1, w2⟩ := s2.1 i hi kk
            exact ⟨fun r => by have := w1 r; omega, fun r => by have := w2 r; omega⟩
          · rw [dpe m (Nat.le_refl m)]
            have := s2.2
            omega
        · intro f i t hi ⟨t1, t2⟩ ih
          unfold wp_X7_text_b102
          rw [show (2 : Int32) = nI 2 from rfl, ml, i1, ad, cl (by omega), cl (by omega)]
          refine ⟨fun c => absurd c (nle hi (by omega)), fun _ => ⟨vi (by omega) (by omega), vi (by omega) (by omega), fun t' et' y ey => ?_⟩⟩
          rw [ey, i1]
          have et2 : t' = upd t (143 + 125 * u + i) (st' i) := by rw [et']; congr 1; omega
          subst et2
          refine ih _ ⟨fun j hj => ?_, fun j hj => ?_⟩
          · by_cases r : j = i
            · subst r; exact us
            · rw [un (by omega)]; exact t1 j (by omega)
          · rw [un (by omega)]; exact t2 j (by omega)
    · have : ¬ a' = B := fun q => c (by rw [q]; exact (le_n (by omega) (by omega)).mpr (Nat.le_refl B))
      exact bad _ _ _ (Or.inr this)
  · refine w6_use_out ho (tD (w6_e1 ?_))
    unfold wp_X7_text
    exact w7_in_out (hi := 1) (by omega) ho (tA (w7_e1 (hC _ _ _ _ _ _ _ _ _ _ _ _ _ _ _ _ _ _ h)))
