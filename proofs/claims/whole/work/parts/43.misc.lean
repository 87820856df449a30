/-! laws, gains, worth, numbers that waited, sorts that cannot have come from one's parents -/
theorem w6_use_in {u : Nat} (hu : u < 2) {Q : Int32 → Prop} (h : Q 0) : wp_X6_notUse (nI u) Q := by
  unfold wp_X6_notUse
  rcases (by omega : u = 0 ∨ u = 1) with e | e <;> subst e
  · exact ⟨fun _ => h, fun c => absurd rfl c⟩
  · exact ⟨fun c => absurd c (by decide), fun _ => ⟨fun _ => h, fun c => absurd rfl c⟩⟩
theorem w6_use_out {x : Int32} (ho : Out x 2) {Q : Int32 → Prop} (h : Q 1) : wp_X6_notUse x Q := by
  have n : ∀ u : Nat, u < 2 → ¬ x = nI u := fun u hu c => by
    subst c
    rcases ho with q | q
    · exact absurd q (nlt (b := 0) (by omega) (by omega))
    · exact absurd q (nle (by omega) (by omega))
  unfold wp_X6_notUse
  exact ⟨fun c => absurd c (n 0 (by omega)), fun _ => ⟨fun c => absurd c (n 1 (by omega)), fun _ => h⟩⟩
/-- worth of one -/
def wf (n : Int32) (q sp : V) (p : Nat) : Int32 := sm (fun k => hd (tv n q (sp (5 * p + k)) (nI k) (nI p)) 0 999) 5
theorem w5_worthOf {p : Nat} (hp : p < 8) {tn : V} {tq tk : Nat → V} {sp s : V} (h : Rx 1 (tn 1) (tq 1) s) {Q : Int32 → (Nat → V) → Prop} (hQ : ∀ tk', Q (wf (tn 1) (tq 1) sp p) tk') : wp_X5_worthOf (nI p) sp tn tq tk Q := by
  unfold wp_X5_worthOf
  refine loop_0 (fun n i (u : Int32 × (Nat → V)) => wp_X5_worthOf_b4 Q sp tn tq n (nI p) u.1 (nI i) u.2) (fun i u => u.1 = sm (fun k => hd (tv (tn 1) (tq 1) (sp (5 * p + k)) (nI k) (nI p)) 0 999) i) 5 (0, tk) rfl ?_ ?_
  · intro n u e
    unfold wp_X5_worthOf_b4
    exact ⟨fun _ => by rw [e]; exact hQ _, fun c => absurd (show (5 : Int32) ≤ nI 5 by decide) c⟩
  · intro n i u hi e ih
    unfold wp_X5_worthOf_b4
    refine ⟨fun c => absurd c (nle (a := 5) hi (by omega)), fun _ => w6_cell ⟨(vi (by omega) (by omega)), w5_gv (u := 1) (by omega) h (fun tk' => fun x ex y ey => ?_)⟩⟩
    rw [ey, i1]
    refine ih (x, tk') ?_
    show x = _
    rw [ex, e, cl (by omega)]
    rfl
theorem w7_worthOf {p : Nat} (hp : p < 8) {n : Int32} {q s nm pl : V} (h : Rx 1 n q s) {Q : Int32 → V → V → Prop} (hQ : ∀ nm' pl', Q (sm (fun k => hd (tv n q (s (38 + 5 * p + k)) (nI k) (nI p)) 0 999) 5) nm' pl') : wp_X7_worthOf (nI p) s nm pl Q := by
  unfold wp_X7_worthOf
  refine loop_0 (fun f i (u : Int32 × V × V) => wp_X7_worthOf_b4 Q s f (nI p) u.1 (nI i) u.2.1 u.2.2) (fun i u => u.1 = sm (fun k => hd (tv n q (s (38 + 5 * p + k)) (nI k) (nI p)) 0 999) i) 5 (0, nm, pl) rfl ?_ ?_
  · intro f u e
    unfold wp_X7_worthOf_b4
    exact ⟨fun _ => by rw [e]; exact hQ _ _, fun c => absurd (show (5 : Int32) ≤ nI 5 by decide) c⟩
  · intro f i u hi e ih
    unfold wp_X7_worthOf_b4
    refine ⟨fun c => absurd c (nle (a := 5) hi (by omega)), fun _ => w7_has hp hi (w7_worthTold h (fun nm' pl' => fun x ex y ey => ?_))⟩
    rw [ey, i1]
    refine ih (x, nm', pl') ?_
    show x = _
    rw [ex, e]
    rfl
section OPS
variable {P Y B w : Nat} {z : Int32} {km fa mo fr sp ow tp tn : V} {tq tk : Nat → V} {wt s e nm pl : V}
theorem WR.wf (h : WR P Y B w z km fa mo fr sp ow tp tn tq wt s) {p : Nat} (hp : p < P) : sm (fun k => hd (tv (tn 1) (tq 1) (s (38 + 5 * p + k)) (nI k) (nI p)) 0 999) 5 = wf (tn 1) (tq 1) sp p := by
  obtain ⟨⟨a1, a2, a3, a4⟩, ⟨b1, b2, b3, b4, b5⟩, c1, c2, c3, c4, c5, c6, c7, c8, c9⟩ := h
  exact sm_congr 5 (fun k hk => by rw [(c4 p k hp hk).2])
theorem op_law (h : WR P Y B w z km fa mo fr sp ow tp tn tq wt s) (x1 x2 x3 x4 : Int32) (C : Int32 → (Nat → V) → V → Int32 → V → V → V → Prop) (hC : ∀ r tk' e' nm' pl', C r tk' e' r e' nm' pl') : wp_X6_law x1 x2 x3 x4 tn tq tk e (fun r tk' e' => wp_X7_law x1 x2 x3 x4 s e nm pl (fun r' e'' nm' pl' => C r tk' e' r' e'' nm' pl')) := by
  obtain ⟨⟨a1, a2, a3, a4⟩, ⟨b1, b2, b3, b4, b5⟩, c1, c2, c3, c4, c5, c6, c7, c8, c9⟩ := id h
  unfold wp_X6_law wp_X7_law
  rcases io x1 2 (by omega) with ⟨u, hu, rfl⟩ | ho
  · refine w6_use_in hu (tB ?_)
    rcases (by omega : u = 0 ∨ u = 1) with q | q <;> subst q
    · refine w5_gv (u := 0) (by omega) c8 (fun tk' => w7_in_in (lo := 0) (hi := 1) (by omega) (by omega) (by omega) (tC ⟨fun c => absurd rfl c, fun _ => w7_gainTold c8 (fun nm' pl' => ?_)⟩))
      exact hC _ _ _ _ _
    · refine w5_gv (u := 1) (by omega) c9 (fun tk' => w7_in_in (lo := 0) (hi := 1) (by omega) (by omega) (by omega) (tC ⟨fun _ => w7_worthTold c9 (fun nm' pl' => ?_), fun c => absurd c (by decide)⟩))
      exact hC _ _ _ _ _
  · refine w6_use_out ho (tD (w6_e1 (w7_in_out (hi := 1) (by omega) ho (tA (w7_e1 ?_)))))
    exact hC _ _ _ _ _
/-- the same but for a use's text -/
theorem WR.txt (h : WR P Y B w z km fa mo fr sp ow tp tn tq wt s) {B' : Nat} (hB : B' ≤ 60) {tn' : V} {tq' : Nat → V} {s' : V} {u : Nat} (hu : u < 2) (hx : Rx u (tn' u) (tq' u) s') (hn : ∀ v, v < 2 → v ≠ u → tn' v = tn v ∧ tq' v = tq v) (h2 : s' 2 = nI B') (ho : ∀ i, i ≠ 2 → (i < 142 + 125 * u ∨ 267 + 125 * u ≤ i) → s' i = s i) : WR P Y B' w z km fa mo fr sp ow tp tn' tq' wt s' := by
  obtain ⟨⟨a1, a2, a3, a4⟩, ⟨b1, b2, b3, b4, b5⟩, c1, c2, c3, c4, c5, c6, c7, c8, c9⟩ := h
  refine ⟨⟨a1, a2, hB, a4⟩, ⟨by rw [ho _ (by omega) (by omega)]; exact b1, by rw [ho _ (by omega) (by omega)]; exact b2, h2, by rw [ho _ (by omega) (by omega)]; exact b4, by rw [ho _ (by omega) (by omega)]; exact b5⟩, c1.fr a1 (fun i h1 h2 => ho i (by omega) (by omega)), c2.fr a1 (fun i h1 h2 => ho i (by omega) (by omega)), c3, c4.fr a1 (fun i h1 h2 => ho i (by omega) (by omega)), c5.fr a1 (fun i h1 h2 => ho i (by omega) (by omega)), c6.fr (fun i h1 h2 => ho i (by omega) (by omega)), c7.fr (fun i h1 h2 => ho i (by omega) (by omega)), ?_, ?_⟩
  · rcases (by omega : u = 0 ∨ u = 1) with q | q <;> subst q
    · exact hx
    · rw [(hn 0 (by omega) (by omega)).1, (hn 0 (by omega) (by omega)).2]
      exact c8.fr (by omega) (fun i h1 h2 => ho i (by omega) (by omega))
  · rcases (by omega : u = 0 ∨ u = 1) with q | q <;> subst q
    · rw [(hn 1 (by omega) (by omega)).1, (hn 1 (by omega) (by omega)).2]
      exact c9.fr (by omega) (fun i h1 h2 => ho i (by omega) (by omega))
    · exact hx
theorem Rx.no {u : Nat} {q s' : V} (h : s' (142 + 125 * u) = 0) : Rx u 0 q s' := ⟨0, by omega, rfl, h, fun i hi => absurd hi (Nat.not_lt_zero i), ⟨fun i hi => absurd hi (Nat.not_lt_zero i), fun c => absurd c (Nat.lt_irrefl 0)⟩⟩
theorem op_untell (h : WR P Y B w z km fa mo fr sp ow tp tn tq wt s) (x1 : Int32) (C : Int32 → V → V → Int32 → V → V → Prop) (hC : ∀ r tn' e' s', WR P Y B w z km fa mo fr sp ow tp tn' tq wt s' → C r tn' e' r s' e') : wp_X6_untell x1 tn e (fun r tn' e' => wp_X7_untell x1 s e (fun r' s' e'' => C r tn' e' r' s' e'')) := by
  obtain ⟨⟨a1, a2, a3, a4⟩, ⟨b1, b2, b3, b4, b5⟩, c1, c2, c3, c4, c5, c6, c7, c8, c9⟩ := id h
  unfold wp_X6_untell
  rcases io x1 2 (by omega) with ⟨u, hu, rfl⟩ | ho
  · have hx : Rx u (tn u) (tq u) s := by
      rcases (by omega : u = 0 ∨ u = 1) with q | q <;> subst q
      · exact c8
      · exact c9
    have tx : ∀ R : Nat → Prop, R u → wp_X5_textOf (nI u) R := by
      intro R r
      rcases (by omega : u = 0 ∨ u = 1) with e | e <;> subst e
      · exact w5_textOf0 r
      · exact w5_textOf1 r
    obtain ⟨N, h1, h2, h3, h4, h5⟩ := hx
    refine w6_use_in hu (tB (tx _ ?_))
    unfold wp_X3_stands wp_X6_truth wp_X3_clear
    have fin : ∀ (b : Int32), ((N = 0 ∧ b = 0) ∨ (0 < N ∧ b = 1)) → ∀ tn' : V, tn' = va_up tn u 0 → wp_X7_untell (nI u) s e (fun r' s' e'' => C b tn' e r' s' e'') := by
      intro b hb tn' et
      have wr : ∀ s' : V, s' = upd s (142 + 125 * u) 0 → WR P Y B w z km fa mo fr sp ow tp tn' tq wt s' := by
        intro s' es
        subst es
        subst et
        refine h.txt a3 hu ?_ (fun v hv nv => ⟨vup_n nv, rfl⟩) (by rw [un (by omega)]; exact b3) (fun i i2 hi => un (by omega))
        rw [vup_s]
        exact Rx.no us
      unfold wp_X7_untell
      refine w7_in_in (lo := 0) (hi := 1) (by omega) (by omega) (by omega) (tC ?_)
      rw [show (142 : Int32) = nI 142 from rfl, show (125 : Int32) = nI 125 from rfl, ml, ad, cl (by omega)]
      refine w7_hasText hu h1 h3 (fun d => tB ⟨(vi (by omega) (by omega)), fun s' es => ?_⟩) (fun d => tD ⟨(vi (by omega) (by omega)), fun s' es => ?_⟩)
      · rcases hb with ⟨_, rfl⟩ | ⟨q, _⟩
        · exact hC _ _ _ _ (wr s' es)
        · omega
      · rcases hb with ⟨q, _⟩ | ⟨_, rfl⟩
        · omega
        · exact hC _ _ _ _ (wr s' es)
    rw [h2]
    refine ⟨fun c => ⟨fun _ => fun tn' et => fin 0 (Or.inl ⟨?_, rfl⟩) tn' et, fun c2 => absurd rfl c2⟩, fun c => ⟨fun c2 => absurd c2 (by decide), fun _ => fun tn' et => fin 1 (Or.inr ⟨?_, rfl⟩) tn' et⟩⟩
    · have := (le_n (b := 0) (by omega) (by omega)).mp c; omega
    · rcases Nat.eq_zero_or_pos N with q | q
      · subst q; exact absurd (by decide) c
      · exact q
  · refine w6_use_out ho (tD (w6_e1 ?_))
    unfold wp_X7_untell
    exact w7_in_out (hi := 1) (by omega) ho (tA (w7_e1 (hC _ _ _ _ h)))
theorem op_gain (h : WR P Y B w z km fa mo fr sp ow tp tn tq wt s) (x1 x2 : Int32) (C : Int32 → (Nat → V) → V → Int32 → V → V → V → Prop) (hC : ∀ r tk' e' nm' pl', C r tk' e' r e' nm' pl') : wp_X6_gain x1 x2 (nI P) (nI Y) km sp tn tq tk e (fun r tk' e' => wp_X7_gain x1 x2 s e nm pl (fun r' e'' nm' pl' => C r tk' e' r' e'' nm' pl')) := by
  have hg := h.gy
  obtain ⟨⟨a1, a2, a3, a4⟩, ⟨b1, b2, b3, b4, b5⟩, c1, c2, c3, c4, c5, c6, c7, c8, c9⟩ := id h
  unfold wp_X6_gain wp_X7_gain
  rcases io x1 P (by omega) with ⟨p, hp, rfl⟩ | hx
  · rcases io x2 5 (by omega) with ⟨k, hk, rfl⟩ | hy
    · (repeat (with_reducible (first | refine tA ?_ | refine tB ?_ | refine tC ?_ | refine tD ?_ | refine w6_one_in (by assumption) (by assumption) ?_ | refine w6_one_out (by assumption) (by assumption) ?_ | refine w7_one_in (by assumption) (by assumption) (by assumption) ?_ | refine w7_one_out (by assumption) (by assumption) (by assumption) ?_ | refine w6_two_in (by assumption) (by assumption) (by assumption) (by assumption) ?_ | refine w6_two_out (by assumption) (by assumption) ?_ | refine w7_two_in (by assumption) (by assumption) (by assumption) (by assumption) (by assumption) ?_ | refine w7_two_out (by assumption) (by assumption) (by assumption) ?_ | refine w6_sort_in (by assumption) ?_ | refine w6_sort_out (by assumption) ?_ | refine w7_sort_in (by assumption) ?_ | refine w7_sort_out (by assumption) ?_ | refine w6_km_in (by assumption) ?_ | refine w6_km_out (by assumption) ?_ | refine w7_kind_in (by assumption) ?_ | refine w7_kind_out (by assumption) ?_ | refine w6_sheet_in (by assumption) ?_ | refine w6_sheet_out (by assumption) ?_ | refine w7_sheet_in (by assumption) ?_ | refine w7_sheet_out (by assumption) ?_ | refine w6_e1 ?_ | refine w6_e2 ?_ | refine w6_e3 ?_ | refine w6_e4 ?_ | refine w6_e5 ?_ | refine w6_e6 ?_ | refine w7_e1 ?_ | refine w7_e2 ?_ | refine w7_e3 ?_ | refine w7_e4 ?_ | refine w7_e5 ?_ | refine w7_e6 ?_)))
      refine w6_cell ⟨(vi (by omega) (by omega)), w5_gainOf hg.1 hp hk (fun tk' => ?_)⟩
      (repeat (with_reducible (first | refine tA ?_ | refine tB ?_ | refine tC ?_ | refine tD ?_ | refine w6_one_in (by assumption) (by assumption) ?_ | refine w6_one_out (by assumption) (by assumption) ?_ | refine w7_one_in (by assumption) (by assumption) (by assumption) ?_ | refine w7_one_out (by assumption) (by assumption) (by assumption) ?_ | refine w6_two_in (by assumption) (by assumption) (by assumption) (by assumption) ?_ | refine w6_two_out (by assumption) (by assumption) ?_ | refine w7_two_in (by assumption) (by assumption) (by assumption) (by assumption) (by assumption) ?_ | refine w7_two_out (by assumption) (by assumption) (by assumption) ?_ | refine w6_sort_in (by assumption) ?_ | refine w6_sort_out (by assumption) ?_ | refine w7_sort_in (by assumption) ?_ | refine w7_sort_out (by assumption) ?_ | refine w6_km_in (by assumption) ?_ | refine w6_km_out (by assumption) ?_ | refine w7_kind_in (by assumption) ?_ | refine w7_kind_out (by assumption) ?_ | refine w6_sheet_in (by assumption) ?_ | refine w6_sheet_out (by assumption) ?_ | refine w7_sheet_in (by assumption) ?_ | refine w7_sheet_out (by assumption) ?_ | refine w6_e1 ?_ | refine w6_e2 ?_ | refine w6_e3 ?_ | refine w6_e4 ?_ | refine w6_e5 ?_ | refine w6_e6 ?_ | refine w7_e1 ?_ | refine w7_e2 ?_ | refine w7_e3 ?_ | refine w7_e4 ?_ | refine w7_e5 ?_ | refine w7_e6 ?_)))
      refine w7_gainOf hg.1 hp hk (fun nm' pl' => ?_)
      rw [cl (by omega), (c4 p k hp hk).2]
      exact hC _ _ _ _ _
    · (repeat (with_reducible (first | refine tA ?_ | refine tB ?_ | refine tC ?_ | refine tD ?_ | refine w6_one_in (by assumption) (by assumption) ?_ | refine w6_one_out (by assumption) (by assumption) ?_ | refine w7_one_in (by assumption) (by assumption) (by assumption) ?_ | refine w7_one_out (by assumption) (by assumption) (by assumption) ?_ | refine w6_two_in (by assumption) (by assumption) (by assumption) (by assumption) ?_ | refine w6_two_out (by assumption) (by assumption) ?_ | refine w7_two_in (by assumption) (by assumption) (by assumption) (by assumption) (by assumption) ?_ | refine w7_two_out (by assumption) (by assumption) (by assumption) ?_ | refine w6_sort_in (by assumption) ?_ | refine w6_sort_out (by assumption) ?_ | refine w7_sort_in (by assumption) ?_ | refine w7_sort_out (by assumption) ?_ | refine w6_km_in (by assumption) ?_ | refine w6_km_out (by assumption) ?_ | refine w7_kind_in (by assumption) ?_ | refine w7_kind_out (by assumption) ?_ | refine w6_sheet_in (by assumption) ?_ | refine w6_sheet_out (by assumption) ?_ | refine w7_sheet_in (by assumption) ?_ | refine w7_sheet_out (by assumption) ?_ | refine w6_e1 ?_ | refine w6_e2 ?_ | refine w6_e3 ?_ | refine w6_e4 ?_ | refine w6_e5 ?_ | refine w6_e6 ?_ | refine w7_e1 ?_ | refine w7_e2 ?_ | refine w7_e3 ?_ | refine w7_e4 ?_ | refine w7_e5 ?_ | refine w7_e6 ?_)))
      exact hC _ _ _ _ _
  · (repeat (with_reducible (first | refine tA ?_ | refine tB ?_ | refine tC ?_ | refine tD ?_ | refine w6_one_in (by assumption) (by assumption) ?_ | refine w6_one_out (by assumption) (by assumption) ?_ | refine w7_one_in (by assumption) (by assumption) (by assumption) ?_ | refine w7_one_out (by assumption) (by assumption) (by assumption) ?_ | refine w6_two_in (by assumption) (by assumption) (by assumption) (by assumption) ?_ | refine w6_two_out (by assumption) (by assumption) ?_ | refine w7_two_in (by assumption) (by assumption) (by assumption) (by assumption) (by assumption) ?_ | refine w7_two_out (by assumption) (by assumption) (by assumption) ?_ | refine w6_sort_in (by assumption) ?_ | refine w6_sort_out (by assumption) ?_ | refine w7_sort_in (by assumption) ?_ | refine w7_sort_out (by assumption) ?_ | refine w6_km_in (by assumption) ?_ | refine w6_km_out (by assumption) ?_ | refine w7_kind_in (by assumption) ?_ | refine w7_kind_out (by assumption) ?_ | refine w6_sheet_in (by assumption) ?_ | refine w6_sheet_out (by assumption) ?_ | refine w7_sheet_in (by assumption) ?_ | refine w7_sheet_out (by assumption) ?_ | refine w6_e1 ?_ | refine w6_e2 ?_ | refine w6_e3 ?_ | refine w6_e4 ?_ | refine w6_e5 ?_ | refine w6_e6 ?_ | refine w7_e1 ?_ | refine w7_e2 ?_ | refine w7_e3 ?_ | refine w7_e4 ?_ | refine w7_e5 ?_ | refine w7_e6 ?_)))
    exact hC _ _ _ _ _
theorem op_check (h : WR P Y B w z km fa mo fr sp ow tp tn tq wt s) (C : Int32 → Int32 → (Nat → V) → Int32 → V → V → V → Prop) (hC : ∀ r w' tk' s' nm' pl', WR P Y B w' z km fa mo fr sp ow tp tn tq wt s' → C r (nI w') tk' r s' nm' pl') : wp_X6_check (nI P) (nI w) sp tn tq tk wt (fun r w' tk' => wp_X7_check s nm pl (fun r' s' nm' pl' => C r w' tk' r' s' nm' pl')) := by
  obtain ⟨⟨a1, a2, a3, a4⟩, ⟨b1, b2, b3, b4, b5⟩, c1, c2, c3, c4, c5, c6, c7, c8, c9⟩ := id h
  have hn := h.low (w' := 0) (z' := z) (s' := upd s 3 0) rfl ⟨a2, a3, by omega⟩ ⟨by rw [un (by omega)]; exact b1, by rw [un (by omega)]; exact b2, by rw [un (by omega)]; exact b3, us, by rw [un (by omega)]; exact b5⟩ (fun i h1 h2 => un (by omega))
  obtain ⟨j, hj, hb, hnj⟩ := lead_ex (fun i => i < P ∧ wt i = wf (tn 1) (tq 1) sp i) w
  have hm : ∀ (r : Int32) (R : Int32 → V → V → V → Prop), r = (if j = w then 0 else nI (1 + j)) → (∀ nm' pl', R r (upd s 3 0) nm' pl') → wp_X7_check s nm pl R := by
    intro r R er hR
    unfold wp_X7_check
    rw [show ((3 : Int32).toNatClampNeg) = 3 from rfl, b4]
    refine ⟨vi (n := 3) (by omega) (by omega), fun x1 e1 => ⟨vi (n := 3) (by omega) (by omega), fun s1 es => ?_⟩⟩
    subst e1
    have es' : s1 = upd s 3 0 := es
    subst es'
    have hn' := hn
    obtain ⟨-, ⟨d1, -, -, -, -⟩, -, -, -, -, -, -, d7, -, d9⟩ := hn'
    refine loop_0 (fun f i (t : V × V) => wp_X7_check_b16 R f (nI w) (nI i) (upd s 3 0) t.1 t.2) (fun _ _ => True) j (nm, pl) trivial ?_ ?_
    · intro f t _
      unfold wp_X7_check_b16
      rcases hnj with q | q
      · subst q
        rw [if_pos rfl] at er
        refine ⟨fun _ => by have g := hR t.1 t.2; rw [er] at g; exact g, fun c => absurd ((le_n (by omega) (by omega)).mpr (Nat.le_refl _)) c⟩
      · have hjw : ¬ w ≤ j → True := fun _ => trivial
        by_cases c0 : w ≤ j
        · rw [if_pos (by omega)] at er
          exact ⟨fun _ => by have g := hR t.1 t.2; rw [er] at g; exact g, fun c => absurd ((le_n (by omega) (by omega)).mpr c0) c⟩
        · rw [if_neg (by omega)] at er
          refine ⟨fun c => absurd c (nle (by omega) (by omega)), fun _ => ?_⟩
          rw [show (452 : Int32) = nI 452 from rfl, l1, ad, ad, cl (by omega), ← er]
          rcases Nat.lt_or_ge j P with k | k
          · refine w7_one_in k a1 d1 (tD ⟨(vi (by omega) (by omega)), w7_worthOf (by omega) d9 (fun nm' pl' => ⟨fun c => absurd ⟨k, ?_⟩ q, fun _ => hR _ _⟩)⟩)
            rw [hn.wf k, d7 j (by omega)] at c
            exact c
          · exact w7_one_out a1 d1 (Or.inr ((le_n (by omega) (by omega)).mpr k)) (tB (hR _ _))
    · intro f i t hi _ ih
      unfold wp_X7_check_b16
      obtain ⟨k, k2⟩ := hb i hi
      refine ⟨fun c => absurd c (nle (by omega) (by omega)), fun _ => ?_⟩
      rw [show (452 : Int32) = nI 452 from rfl, ad, cl (by omega)]
      refine w7_one_in k a1 d1 (tD ⟨(vi (by omega) (by omega)), w7_worthOf (by omega) d9 (fun nm' pl' => ⟨fun _ => fun y ey => ?_, fun c => absurd ?_ c⟩)⟩)
      · rw [ey, i1]; exact ih (nm', pl') trivial
      · rw [hn.wf k, d7 i (by omega)]; exact k2
  unfold wp_X6_check
  refine loop_0 (fun f i (t : Nat → V) => wp_X6_check_b18 _ (nI P) sp tn tq wt f (nI w) (nI i) (0 : Int32) t) (fun _ _ => True) j tk trivial ?_ ?_
  · intro f t _
    unfold wp_X6_check_b18
    by_cases c0 : w ≤ j
    · refine ⟨fun _ => hm _ _ (by rw [if_pos (by omega)]) (fun nm' pl' => hC _ 0 _ _ _ _ hn), fun c => absurd ((le_n (by omega) (by omega)).mpr c0) c⟩
    · have q : ¬ (j < P ∧ wt j = wf (tn 1) (tq 1) sp j) := by
        rcases hnj with q | q
        · omega
        · exact q
      refine ⟨fun c => absurd c (nle (by omega) (by omega)), fun _ => ?_⟩
      rw [l1, ad, cl (by omega)]
      refine ⟨fun _ => hm _ _ (by rw [if_neg (by omega)]) (fun nm' pl' => hC _ 0 _ _ _ _ hn), fun c => ?_⟩
      have k : j < P := by
        rcases Nat.lt_or_ge j P with k | k
        · exact k
        · exact absurd ((le_n (by omega) (by omega)).mpr k) c
      refine ⟨(vi (by omega) (by omega)), w5_worthOf (by omega) c9 (fun tk' => ⟨fun c2 => absurd ⟨k, c2⟩ q, fun _ => hm _ _ (by rw [if_neg (by omega)]) (fun nm' pl' => hC _ 0 _ _ _ _ hn)⟩)⟩
  · intro f i t hi _ ih
    unfold wp_X6_check_b18
    obtain ⟨k, k2⟩ := hb i hi
    rw [cl (by omega)]
    refine ⟨fun c => absurd c (nle (by omega) (by omega)), fun _ => ⟨fun c => absurd c (nle k (by omega)), fun _ => ⟨(vi (by omega) (by omega)), w5_worthOf (by omega) c9 (fun tk' => ⟨fun _ => fun y ey => ?_, fun c => absurd k2 c⟩)⟩⟩⟩
    rw [ey, i1]; exact ih tk' trivial
theorem or0 (x : Int32) : x ||| 0 = x := Int32.or_zero
theorem fs83 {Q : Int32 → V → Prop} {KK : Int32 → Int32 → Int32 → Int32 → Int32 → V → Prop} {p f m k : Nat} (hf : f < 8) (hm : m < 8) (hk : k < 5) {x4 s0 : Int32} (h1 : (¬ s0 = 0) → sp (5 * f + k) = 0 → sp (5 * m + k) = 0 → KK (nI p) (nI f) (nI m) (x4 ||| ((1 : Int32) <<< (nI k &&& 31))) (nI (k + 1)) e) (h0 : ¬ ((¬ s0 = 0) ∧ sp (5 * f + k) = 0 ∧ sp (5 * m + k) = 0) → KK (nI p) (nI f) (nI m) x4 (nI (k + 1)) e) : wp_X6_falseSorts_b83 Q KK (nI P) fa mo sp (nI p) (nI f) (nI m) x4 (nI k) s0 e := by
  unfold wp_X6_falseSorts_b83
  refine ⟨fun c y ey => ?_, fun c => w6_cell ⟨(vi (by omega) (by omega)), ?_⟩⟩
  · rw [ey, i1]; exact h0 (fun q => q.1 c)
  rw [cl (by omega)]
  refine ⟨fun c2 y ey => ?_, fun c2 => w6_cell ⟨(vi (by omega) (by omega)), ?_⟩⟩
  · rw [ey, i1]; exact h0 (fun q => c2 q.2.1)
  rw [cl (by omega)]
  refine ⟨fun c3 y ey => ?_, fun c3 x ex y ey => ?_⟩
  · rw [ey, i1]; exact h0 (fun q => c3 q.2.2)
  · rw [ey, i1, ex]; exact h1 c c2 c3
theorem op_falseSorts (h : WR P Y B w z km fa mo fr sp ow tp tn tq wt s) (x1 : Int32) (C : Int32 → V → Int32 → V → Prop) (hC : ∀ r e', C r e' r e') : wp_X6_falseSorts x1 (nI P) fa mo sp e (fun r e' => wp_X7_falseSorts x1 s e (fun r' e'' => C r e' r' e'')) := by
  obtain ⟨⟨a1, a2, a3, a4⟩, ⟨b1, b2, b3, b4, b5⟩, c1, c2, c3, c4, c5, c6, c7, c8, c9⟩ := id h
  unfold wp_X6_falseSorts wp_X7_falseSorts
  rcases io x1 P (by omega) with ⟨p, hp, rfl⟩ | hx
  · rcases c2 p hp with ⟨g1, g2, g3, g4, g5⟩ | ⟨f, m, hf, hm, hfm, g1, g2, g3, g4, g5⟩
    · (repeat (with_reducible (first | refine tA ?_ | refine tB ?_ | refine tC ?_ | refine tD ?_ | refine w6_one_in (by assumption) (by assumption) ?_ | refine w6_one_out (by assumption) (by assumption) ?_ | refine w7_one_in (by assumption) (by assumption) (by assumption) ?_ | refine w7_one_out (by assumption) (by assumption) (by assumption) ?_ | refine w6_two_in (by assumption) (by assumption) (by assumption) (by assumption) ?_ | refine w6_two_out (by assumption) (by assumption) ?_ | refine w7_two_in (by assumption) (by assumption) (by assumption) (by assumption) (by assumption) ?_ | refine w7_two_out (by assumption) (by assumption) (by assumption) ?_ | refine w6_sort_in (by assumption) ?_ | refine w6_sort_out (by assumption) ?_ | refine w7_sort_in (by assumption) ?_ | refine w7_sort_out (by assumption) ?_ | refine w6_km_in (by assumption) ?_ | refine w6_km_out (by assumption) ?_ | refine w7_kind_in (by assumption) ?_ | refine w7_kind_out (by assumption) ?_ | refine w6_sheet_in (by assumption) ?_ | refine w6_sheet_out (by assumption) ?_ | refine w7_sheet_in (by assumption) ?_ | refine w7_sheet_out (by assumption) ?_ | refine w6_e1 ?_ | refine w6_e2 ?_ | refine w6_e3 ?_ | refine w6_e4 ?_ | refine w6_e5 ?_ | refine w6_e6 ?_ | refine w7_e1 ?_ | refine w7_e2 ?_ | refine w7_e3 ?_ | refine w7_e4 ?_ | refine w7_e5 ?_ | refine w7_e6 ?_)))
      rw [cl (by omega), g1, g2]
      refine ⟨(vi (by omega) (by omega)), fun f' ef => ⟨(vi (by omega) (by omega)), fun m' em => ?_⟩⟩
      subst ef; subst em
      refine w6_two_out a1 (Or.inl (Or.inl (by decide))) (tD (w6_e3 ?_))
      (repeat (with_reducible (first | refine tA ?_ | refine tB ?_ | refine tC ?_ | refine tD ?_ | refine w6_one_in (by assumption) (by assumption) ?_ | refine w6_one_out (by assumption) (by assumption) ?_ | refine w7_one_in (by assumption) (by assumption) (by assumption) ?_ | refine w7_one_out (by assumption) (by assumption) (by assumption) ?_ | refine w6_two_in (by assumption) (by assumption) (by assumption) (by assumption) ?_ | refine w6_two_out (by assumption) (by assumption) ?_ | refine w7_two_in (by assumption) (by assumption) (by assumption) (by assumption) (by assumption) ?_ | refine w7_two_out (by assumption) (by assumption) (by assumption) ?_ | refine w6_sort_in (by assumption) ?_ | refine w6_sort_out (by assumption) ?_ | refine w7_sort_in (by assumption) ?_ | refine w7_sort_out (by assumption) ?_ | refine w6_km_in (by assumption) ?_ | refine w6_km_out (by assumption) ?_ | refine w7_kind_in (by assumption) ?_ | refine w7_kind_out (by assumption) ?_ | refine w6_sheet_in (by assumption) ?_ | refine w6_sheet_out (by assumption) ?_ | refine w7_sheet_in (by assumption) ?_ | refine w7_sheet_out (by assumption) ?_ | refine w6_e1 ?_ | refine w6_e2 ?_ | refine w6_e3 ?_ | refine w6_e4 ?_ | refine w6_e5 ?_ | refine w6_e6 ?_ | refine w7_e1 ?_ | refine w7_e2 ?_ | refine w7_e3 ?_ | refine w7_e4 ?_ | refine w7_e5 ?_ | refine w7_e6 ?_)))
      refine w7_its (k := 2) (by omega) (by omega) (w7_its (k := 3) (by omega) (by omega) ?_)
      rw [g3]
      exact ⟨fun c => absurd rfl c, fun _ => w7_e3 (hC _ _)⟩
    · (repeat (with_reducible (first | refine tA ?_ | refine tB ?_ | refine tC ?_ | refine tD ?_ | refine w6_one_in (by assumption) (by assumption) ?_ | refine w6_one_out (by assumption) (by assumption) ?_ | refine w7_one_in (by assumption) (by assumption) (by assumption) ?_ | refine w7_one_out (by assumption) (by assumption) (by assumption) ?_ | refine w6_two_in (by assumption) (by assumption) (by assumption) (by assumption) ?_ | refine w6_two_out (by assumption) (by assumption) ?_ | refine w7_two_in (by assumption) (by assumption) (by assumption) (by assumption) (by assumption) ?_ | refine w7_two_out (by assumption) (by assumption) (by assumption) ?_ | refine w6_sort_in (by assumption) ?_ | refine w6_sort_out (by assumption) ?_ | refine w7_sort_in (by assumption) ?_ | refine w7_sort_out (by assumption) ?_ | refine w6_km_in (by assumption) ?_ | refine w6_km_out (by assumption) ?_ | refine w7_kind_in (by assumption) ?_ | refine w7_kind_out (by assumption) ?_ | refine w6_sheet_in (by assumption) ?_ | refine w6_sheet_out (by assumption) ?_ | refine w7_sheet_in (by assumption) ?_ | refine w7_sheet_out (by assumption) ?_ | refine w6_e1 ?_ | refine w6_e2 ?_ | refine w6_e3 ?_ | refine w6_e4 ?_ | refine w6_e5 ?_ | refine w6_e6 ?_ | refine w7_e1 ?_ | refine w7_e2 ?_ | refine w7_e3 ?_ | refine w7_e4 ?_ | refine w7_e5 ?_ | refine w7_e6 ?_)))
      rw [cl (by omega), g1, g2]
      refine ⟨(vi (by omega) (by omega)), fun f' ef => ⟨(vi (by omega) (by omega)), fun m' em => ?_⟩⟩
      subst ef; subst em
      refine w6_two_in (by omega) (by omega) hfm a1 (tB ?_)
      have nf : ¬ nI f = -1 := by
        intro k
        have k := (iq _ _).mp k
        rw [ti (by omega)] at k
        have : (-1 : Int32).toInt = -1 := rfl
        omega
      -- the class's run fixes the set by steps
      have key : ∀ (c i : Nat) (x4 : Int32), i + c = 5 → ∃ r : Int32, (∀ Q : Int32 → V → Prop, Q r e → ∃ j, wp_X6_falseSorts_b55 Q (nI P) fa mo sp j (nI p) (nI f) (nI m) x4 (nI i) e) ∧ (∀ Q : Int32 → V → Prop, Q r e → ∃ j, wp_X7_falseSorts_b45 Q s j (nI p) (nI f) (nI m) x4 (nI i) e) := by
        intro c
        induction c with
        | zero =>
          intro i x4 hi
          have : i = 5 := by omega
          subst this
          refine ⟨x4, fun Q q => ⟨1, ?_⟩, fun Q q => ⟨1, ?_⟩⟩
          · unfold wp_X6_falseSorts_b55; exact ⟨fun _ => q, fun c => absurd (show (5 : Int32) ≤ nI 5 by decide) c⟩
          · unfold wp_X7_falseSorts_b45; exact ⟨fun _ => q, fun c => absurd (show (5 : Int32) ≤ nI 5 by decide) c⟩
        | succ c ih =>
          intro i x4 hi
          have n5 : ∀ A : Prop, (5 : Int32) ≤ nI i → A := fun A q => absurd q (nle (a := 5) (by omega) (by omega))
          obtain ⟨⟨v, hv, ev⟩, sv⟩ := c4 p i hp (by omega)
          have sf := (c4 f i (by omega) (by omega)).2
          have sm' := (c4 m i (by omega) (by omega)).2
          by_cases g : (¬ sp (5 * p + i) ≤ 0) ∧ sp (5 * f + i) = 0 ∧ sp (5 * m + i) = 0
          · obtain ⟨r, r1, r2⟩ := ih (i + 1) (x4 ||| ((1 : Int32) <<< (nI i &&& 31))) (by omega)
            refine ⟨r, fun Q q => ?_, fun Q q => ?_⟩
            · obtain ⟨n, hn⟩ := r1 Q q
              refine ⟨n + 1, ?_⟩
              unfold wp_X6_falseSorts_b55
              refine ⟨fun k => n5 _ k, fun _ => w6_cell ⟨(vi (by omega) (by omega)), ?_⟩⟩
              rw [cl (by omega)]
              exact ⟨fun k => absurd k g.1, fun _ => fs83 (by omega) (by omega) (by omega) (fun _ _ _ => hn) (fun k => absurd ⟨by decide, g.2⟩ k)⟩
            · obtain ⟨n, hn⟩ := r2 Q q
              refine ⟨n + 1, ?_⟩
              unfold wp_X7_falseSorts_b45
              refine ⟨fun k => n5 _ k, fun _ => w7_has (by omega) (by omega) ⟨fun k => absurd (by rw [← sv]; exact k) g.1, fun _ => w7_has (by omega) (by omega) ⟨fun k => absurd (by rw [sf]; exact g.2.1) k, fun _ => w7_has (by omega) (by omega) ⟨fun k => absurd (by rw [sm']; exact g.2.2) k, fun _ x ex y ey => ?_⟩⟩⟩⟩
              rw [ey, i1, ex]; exact hn
          · obtain ⟨r, r1, r2⟩ := ih (i + 1) x4 (by omega)
            refine ⟨r, fun Q q => ?_, fun Q q => ?_⟩
            · obtain ⟨n, hn⟩ := r1 Q q
              refine ⟨n + 1, ?_⟩
              unfold wp_X6_falseSorts_b55
              refine ⟨fun k => n5 _ k, fun _ => w6_cell ⟨(vi (by omega) (by omega)), ?_⟩⟩
              rw [cl (by omega)]
              refine ⟨fun k => fs83 (by omega) (by omega) (by omega) (fun k => absurd rfl k) (fun _ => hn), fun k0 => fs83 (by omega) (by omega) (by omega) (fun _ k1 k2 => absurd ⟨k0, k1, k2⟩ g) (fun _ => hn)⟩
            · obtain ⟨n, hn⟩ := r2 Q q
              have st : ∀ x : Int32, x = x4 ||| 0 → ∀ y : Int32, y = nI i + 1 → wp_X7_falseSorts_b45 Q s n (nI p) (nI f) (nI m) x y e := by
                intro x ex y ey
                rw [ey, i1, ex, or0]; exact hn
              refine ⟨n + 1, ?_⟩
              unfold wp_X7_falseSorts_b45
              refine ⟨fun k => n5 _ k, fun _ => w7_has (by omega) (by omega) ⟨fun _ => st, fun k0 => w7_has (by omega) (by omega) ⟨fun _ => st, fun k1 => w7_has (by omega) (by omega) ⟨fun _ => st, fun k2 => absurd ⟨?_, ?_, ?_⟩ g⟩⟩⟩⟩
              · rw [← sv]; exact k0
              · rw [← sf]; exact k1
              · rw [← sm']; exact k2
      obtain ⟨r, r1, r2⟩ := key 5 0 0 rfl
      refine r1 _ ?_
      (repeat (with_reducible (first | refine tA ?_ | refine tB ?_ | refine tC ?_ | refine tD ?_ | refine w6_one_in (by assumption) (by assumption) ?_ | refine w6_one_out (by assumption) (by assumption) ?_ | refine w7_one_in (by assumption) (by assumption) (by assumption) ?_ | refine w7_one_out (by assumption) (by assumption) (by assumption) ?_ | refine w6_two_in (by assumption) (by assumption) (by assumption) (by assumption) ?_ | refine w6_two_out (by assumption) (by assumption) ?_ | refine w7_two_in (by assumption) (by assumption) (by assumption) (by assumption) (by assumption) ?_ | refine w7_two_out (by assumption) (by assumption) (by assumption) ?_ | refine w6_sort_in (by assumption) ?_ | refine w6_sort_out (by assumption) ?_ | refine w7_sort_in (by assumption) ?_ | refine w7_sort_out (by assumption) ?_ | refine w6_km_in (by assumption) ?_ | refine w6_km_out (by assumption) ?_ | refine w7_kind_in (by assumption) ?_ | refine w7_kind_out (by assumption) ?_ | refine w6_sheet_in (by assumption) ?_ | refine w6_sheet_out (by assumption) ?_ | refine w7_sheet_in (by assumption) ?_ | refine w7_sheet_out (by assumption) ?_ | refine w6_e1 ?_ | refine w6_e2 ?_ | refine w6_e3 ?_ | refine w6_e4 ?_ | refine w6_e5 ?_ | refine w6_e6 ?_ | refine w7_e1 ?_ | refine w7_e2 ?_ | refine w7_e3 ?_ | refine w7_e4 ?_ | refine w7_e5 ?_ | refine w7_e6 ?_)))
      refine w7_its (k := 2) (by omega) (by omega) (w7_its (k := 3) (by omega) (by omega) ?_)
      rw [g3, g4]
      exact ⟨fun _ => r2 _ (hC _ _), fun c => absurd c nf⟩
  · (repeat (with_reducible (first | refine tA ?_ | refine tB ?_ | refine tC ?_ | refine tD ?_ | refine w6_one_in (by assumption) (by assumption) ?_ | refine w6_one_out (by assumption) (by assumption) ?_ | refine w7_one_in (by assumption) (by assumption) (by assumption) ?_ | refine w7_one_out (by assumption) (by assumption) (by assumption) ?_ | refine w6_two_in (by assumption) (by assumption) (by assumption) (by assumption) ?_ | refine w6_two_out (by assumption) (by assumption) ?_ | refine w7_two_in (by assumption) (by assumption) (by assumption) (by assumption) (by assumption) ?_ | refine w7_two_out (by assumption) (by assumption) (by assumption) ?_ | refine w6_sort_in (by assumption) ?_ | refine w6_sort_out (by assumption) ?_ | refine w7_sort_in (by assumption) ?_ | refine w7_sort_out (by assumption) ?_ | refine w6_km_in (by assumption) ?_ | refine w6_km_out (by assumption) ?_ | refine w7_kind_in (by assumption) ?_ | refine w7_kind_out (by assumption) ?_ | refine w6_sheet_in (by assumption) ?_ | refine w6_sheet_out (by assumption) ?_ | refine w7_sheet_in (by assumption) ?_ | refine w7_sheet_out (by assumption) ?_ | refine w6_e1 ?_ | refine w6_e2 ?_ | refine w6_e3 ?_ | refine w6_e4 ?_ | refine w6_e5 ?_ | refine w6_e6 ?_ | refine w7_e1 ?_ | refine w7_e2 ?_ | refine w7_e3 ?_ | refine w7_e4 ?_ | refine w7_e5 ?_ | refine w7_e6 ?_)))
    exact hC _ _
end OPS
