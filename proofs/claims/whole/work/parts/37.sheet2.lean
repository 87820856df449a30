section SHEETS
variable {P Y B w : Nat} {z : Int32} {km fa mo fr sp ow tp tn : V} {tq : Nat → V} {wt s e : V} {bt ln : V} {nm : Nat → V} {mb ms mn : V}
theorem min_n {a b : Nat} (ha : a < 2147483648) (hb : b < 2147483648) : (if nI b < nI a then nI b else nI a) = nI (min a b) := by
  by_cases c : b < a
  · rw [if_pos ((lt_n hb ha).mpr c)]; congr 1; omega
  · rw [if_neg (nlt (by omega) hb)]; congr 1; omega
theorem w7_lacks_out {x : Int32} (h : Out x 4) {Q : Int32 → Prop} (q : Q 1) : wp_X7_lacks x mb Q := by
  unfold wp_X7_lacks
  exact w7_sheet_out h (tA q)
theorem w7_lacks_0 {k : Nat} (hk : k < 4) (h : ¬ mb k = 0) {Q : Int32 → Prop} (q : Q 0) : wp_X7_lacks (nI k) mb Q := by
  unfold wp_X7_lacks
  rw [cl (by omega)]
  exact w7_sheet_in hk (tC ⟨(vi (by omega) (by omega)), fun _ => q, fun c => absurd c h⟩)
theorem w7_lacks_2 {k : Nat} (hk : k < 4) (h : mb k = 0) {Q : Int32 → Prop} (q : Q 2) : wp_X7_lacks (nI k) mb Q := by
  unfold wp_X7_lacks
  rw [cl (by omega)]
  exact w7_sheet_in hk (tC ⟨(vi (by omega) (by omega)), fun c => absurd h c, fun _ => q⟩)
theorem t2A {A B : Prop} (h : B) : ((2 : Int32) = 0 → A) ∧ (¬ (2 : Int32) = 0 → B) := ⟨fun c => absurd c (by decide), fun _ => h⟩
theorem op_judge (h : WR P Y B w z km fa mo fr sp ow tp tn tq wt s) (hs : SH bt ln nm mb ms mn) (x1 : Int32) (C : Int32 → V → Int32 → V → Prop) (hC : ∀ r e', C r e' r e') : wp_X6_judge x1 (nI P) sp e bt ln nm (fun r e' => wp_X7_judge x1 s e mb ms mn (fun r' e'' => C r e' r' e'')) := by
  obtain ⟨⟨a1, a2, a3, a4⟩, ⟨b1, b2, b3, b4, b5⟩, c1, c2, c3, c4, c5, c6, c7, c8, c9⟩ := id h
  unfold wp_X6_judge
  rcases io x1 4 (by omega) with ⟨k, hk, rfl⟩ | ho
  · obtain ⟨⟨g1, g2⟩, ⟨L, hL, g3, g4⟩, g5⟩ := hs k hk
    (repeat (with_reducible (first | refine tA ?_ | refine tB ?_ | refine tC ?_ | refine tD ?_ | refine w6_one_in (by assumption) (by assumption) ?_ | refine w6_one_out (by assumption) (by assumption) ?_ | refine w7_one_in (by assumption) (by assumption) (by assumption) ?_ | refine w7_one_out (by assumption) (by assumption) (by assumption) ?_ | refine w6_two_in (by assumption) (by assumption) (by assumption) (by assumption) ?_ | refine w6_two_out (by assumption) (by assumption) ?_ | refine w7_two_in (by assumption) (by assumption) (by assumption) (by assumption) (by assumption) ?_ | refine w7_two_out (by assumption) (by assumption) (by assumption) ?_ | refine w6_sort_in (by assumption) ?_ | refine w6_sort_out (by assumption) ?_ | refine w7_sort_in (by assumption) ?_ | refine w7_sort_out (by assumption) ?_ | refine w6_km_in (by assumption) ?_ | refine w6_km_out (by assumption) ?_ | refine w7_kind_in (by assumption) ?_ | refine w7_kind_out (by assumption) ?_ | refine w6_sheet_in (by assumption) ?_ | refine w6_sheet_out (by assumption) ?_ | refine w7_sheet_in (by assumption) ?_ | refine w7_sheet_out (by assumption) ?_ | refine w6_e1 ?_ | refine w6_e2 ?_ | refine w6_e3 ?_ | refine w6_e4 ?_ | refine w6_e5 ?_ | refine w6_e6 ?_ | refine w7_e1 ?_ | refine w7_e2 ?_ | refine w7_e3 ?_ | refine w7_e4 ?_ | refine w7_e5 ?_ | refine w7_e6 ?_)))
    refine ⟨(vi (by omega) (by omega)), fun K hK eK => ?_⟩
    have : k = K := (eq_n (by omega) (by omega)).mp eK
    subst this
    by_cases z0 : bt k = 0
    · refine w1_missing_1 z0 ?_
      (repeat (with_reducible (first | refine tA ?_ | refine tB ?_ | refine tC ?_ | refine tD ?_ | refine w6_one_in (by assumption) (by assumption) ?_ | refine w6_one_out (by assumption) (by assumption) ?_ | refine w7_one_in (by assumption) (by assumption) (by assumption) ?_ | refine w7_one_out (by assumption) (by assumption) (by assumption) ?_ | refine w6_two_in (by assumption) (by assumption) (by assumption) (by assumption) ?_ | refine w6_two_out (by assumption) (by assumption) ?_ | refine w7_two_in (by assumption) (by assumption) (by assumption) (by assumption) (by assumption) ?_ | refine w7_two_out (by assumption) (by assumption) (by assumption) ?_ | refine w6_sort_in (by assumption) ?_ | refine w6_sort_out (by assumption) ?_ | refine w7_sort_in (by assumption) ?_ | refine w7_sort_out (by assumption) ?_ | refine w6_km_in (by assumption) ?_ | refine w6_km_out (by assumption) ?_ | refine w7_kind_in (by assumption) ?_ | refine w7_kind_out (by assumption) ?_ | refine w6_sheet_in (by assumption) ?_ | refine w6_sheet_out (by assumption) ?_ | refine w7_sheet_in (by assumption) ?_ | refine w7_sheet_out (by assumption) ?_ | refine w6_e1 ?_ | refine w6_e2 ?_ | refine w6_e3 ?_ | refine w6_e4 ?_ | refine w6_e5 ?_ | refine w6_e6 ?_ | refine w7_e1 ?_ | refine w7_e2 ?_ | refine w7_e3 ?_ | refine w7_e4 ?_ | refine w7_e5 ?_ | refine w7_e6 ?_)))
      unfold wp_X7_judge
      exact w7_lacks_2 hk (by rw [← g1]; exact z0) (t2A (w7_e2 (hC _ _)))
    · refine w1_missing_0 z0 ?_
      (repeat (with_reducible (first | refine tA ?_ | refine tB ?_ | refine tC ?_ | refine tD ?_ | refine w6_one_in (by assumption) (by assumption) ?_ | refine w6_one_out (by assumption) (by assumption) ?_ | refine w7_one_in (by assumption) (by assumption) (by assumption) ?_ | refine w7_one_out (by assumption) (by assumption) (by assumption) ?_ | refine w6_two_in (by assumption) (by assumption) (by assumption) (by assumption) ?_ | refine w6_two_out (by assumption) (by assumption) ?_ | refine w7_two_in (by assumption) (by assumption) (by assumption) (by assumption) (by assumption) ?_ | refine w7_two_out (by assumption) (by assumption) (by assumption) ?_ | refine w6_sort_in (by assumption) ?_ | refine w6_sort_out (by assumption) ?_ | refine w7_sort_in (by assumption) ?_ | refine w7_sort_out (by assumption) ?_ | refine w6_km_in (by assumption) ?_ | refine w6_km_out (by assumption) ?_ | refine w7_kind_in (by assumption) ?_ | refine w7_kind_out (by assumption) ?_ | refine w6_sheet_in (by assumption) ?_ | refine w6_sheet_out (by assumption) ?_ | refine w7_sheet_in (by assumption) ?_ | refine w7_sheet_out (by assumption) ?_ | refine w6_e1 ?_ | refine w6_e2 ?_ | refine w6_e3 ?_ | refine w6_e4 ?_ | refine w6_e5 ?_ | refine w6_e6 ?_ | refine w7_e1 ?_ | refine w7_e2 ?_ | refine w7_e3 ?_ | refine w7_e4 ?_ | refine w7_e5 ?_ | refine w7_e6 ?_)))
      rw [g3, min_n (by omega) (by omega)]
      intro M eM
      subst eM
      obtain ⟨j, hj, hb, hn⟩ := lead_ex (fun i => nm k i = sm (fun c => sp (5 * i + c)) 5) (min L P)
      have tog : ∀ i, i < P → sm (fun c => s (38 + 5 * i + c)) 5 = sm (fun c => sp (5 * i + c)) 5 := fun i hi => sm_congr 5 (fun c hc => (c4 i c hi hc).2)
      have m : wp_X7_judge (nI k) s e mb ms mn (fun r' e'' => C (nI j) e r' e'') := by
        unfold wp_X7_judge
        refine w7_lacks_0 hk (by rw [← g1]; exact z0) (tB ?_)
        refine loop_0 (fun n i (t : V) => wp_X7_judge_b18 _ s mb ms mn n (nI k) (nI i) t) (fun i t => t = e) j e rfl ?_ ?_
        · intro n t et
          subst et
          unfold wp_X7_judge_b18
          rw [cl (by omega), g4]
          refine ⟨(vi (by omega) (by omega)), fun _ => hC _ _, fun c => ?_⟩
          rw [le_n (by omega) (by omega)] at c
          rcases Nat.lt_or_ge j P with q | q
          · refine w7_one_in q a1 b1 (tD (w7_heap (by omega) ?_))
            rw [show (24 : Int32) = nI 24 from rfl, ix8, cl (by omega), g5 j (by omega), tog j q]
            refine ⟨(vi (by omega) (by omega)), fun _ => hC _ _, fun c2 => ?_⟩
            rcases hn with hn | hn
            · omega
            · exact absurd c2.symm hn
          · exact w7_one_out a1 b1 (Or.inr ((le_n (by omega) (by omega)).mpr q)) (tB (hC _ _))
        · intro n i t hi et ih
          subst et
          unfold wp_X7_judge_b18
          rw [cl (by omega), g4]
          refine ⟨(vi (by omega) (by omega)), fun c => absurd c (nle (by omega) (by omega)), fun _ => w7_one_in (by omega) a1 b1 (tD (w7_heap (by omega) ?_))⟩
          rw [show (24 : Int32) = nI 24 from rfl, ix8, cl (by omega), g5 i (by omega), tog i (by omega)]
          refine ⟨(vi (by omega) (by omega)), fun c => absurd (hb i hi).symm c, fun _ => fun y ey => ?_⟩
          rw [ey, i1]
          exact ih _ rfl
      refine loop_0 (fun n i (t : V) => wp_X6_judge_b51 _ k (nI P) sp bt ln nm n (nI (min L P)) (nI i) t) (fun i t => t = e) j e rfl ?_ ?_
      · intro n t et
        subst et
        unfold wp_X6_judge_b51
        refine ⟨fun c => ?_, fun c => ?_⟩
        · rw [le_n (by omega) (by omega)] at c
          rw [show min L P = j by omega]
          exact m
        · rw [le_n (by omega) (by omega)] at c
          refine ⟨(vi (by omega) (by omega)), w6_together (by omega) ?_⟩
          rw [cl (by omega)]
          refine ⟨fun c2 => ?_, fun _ => m⟩
          rcases hn with hn | hn
          · omega
          · exact absurd c2 hn
      · intro n i t hi et ih
        subst et
        unfold wp_X6_judge_b51
        refine ⟨fun c => absurd c (nle (by omega) (by omega)), fun _ => ⟨(vi (by omega) (by omega)), w6_together (by omega) ?_⟩⟩
        rw [cl (by omega)]
        refine ⟨fun _ => fun y ey => ?_, fun c => absurd (hb i hi) c⟩
        rw [ey, i1]
        exact ih _ rfl
  · (repeat (with_reducible (first | refine tA ?_ | refine tB ?_ | refine tC ?_ | refine tD ?_ | refine w6_one_in (by assumption) (by assumption) ?_ | refine w6_one_out (by assumption) (by assumption) ?_ | refine w7_one_in (by assumption) (by assumption) (by assumption) ?_ | refine w7_one_out (by assumption) (by assumption) (by assumption) ?_ | refine w6_two_in (by assumption) (by assumption) (by assumption) (by assumption) ?_ | refine w6_two_out (by assumption) (by assumption) ?_ | refine w7_two_in (by assumption) (by assumption) (by assumption) (by assumption) (by assumption) ?_ | refine w7_two_out (by assumption) (by assumption) (by assumption) ?_ | refine w6_sort_in (by assumption) ?_ | refine w6_sort_out (by assumption) ?_ | refine w7_sort_in (by assumption) ?_ | refine w7_sort_out (by assumption) ?_ | refine w6_km_in (by assumption) ?_ | refine w6_km_out (by assumption) ?_ | refine w7_kind_in (by assumption) ?_ | refine w7_kind_out (by assumption) ?_ | refine w6_sheet_in (by assumption) ?_ | refine w6_sheet_out (by assumption) ?_ | refine w7_sheet_in (by assumption) ?_ | refine w7_sheet_out (by assumption) ?_ | refine w6_e1 ?_ | refine w6_e2 ?_ | refine w6_e3 ?_ | refine w6_e4 ?_ | refine w6_e5 ?_ | refine w6_e6 ?_ | refine w7_e1 ?_ | refine w7_e2 ?_ | refine w7_e3 ?_ | refine w7_e4 ?_ | refine w7_e5 ?_ | refine w7_e6 ?_)))
    unfold wp_X7_judge
    refine w7_lacks_out ho ?_
    (repeat (with_reducible (first | refine tA ?_ | refine tB ?_ | refine tC ?_ | refine tD ?_ | refine w6_one_in (by assumption) (by assumption) ?_ | refine w6_one_out (by assumption) (by assumption) ?_ | refine w7_one_in (by assumption) (by assumption) (by assumption) ?_ | refine w7_one_out (by assumption) (by assumption) (by assumption) ?_ | refine w6_two_in (by assumption) (by assumption) (by assumption) (by assumption) ?_ | refine w6_two_out (by assumption) (by assumption) ?_ | refine w7_two_in (by assumption) (by assumption) (by assumption) (by assumption) (by assumption) ?_ | refine w7_two_out (by assumption) (by assumption) (by assumption) ?_ | refine w6_sort_in (by assumption) ?_ | refine w6_sort_out (by assumption) ?_ | refine w7_sort_in (by assumption) ?_ | refine w7_sort_out (by assumption) ?_ | refine w6_km_in (by assumption) ?_ | refine w6_km_out (by assumption) ?_ | refine w7_kind_in (by assumption) ?_ | refine w7_kind_out (by assumption) ?_ | refine w6_sheet_in (by assumption) ?_ | refine w6_sheet_out (by assumption) ?_ | refine w7_sheet_in (by assumption) ?_ | refine w7_sheet_out (by assumption) ?_ | refine w6_e1 ?_ | refine w6_e2 ?_ | refine w6_e3 ?_ | refine w6_e4 ?_ | refine w6_e5 ?_ | refine w6_e6 ?_ | refine w7_e1 ?_ | refine w7_e2 ?_ | refine w7_e3 ?_ | refine w7_e4 ?_ | refine w7_e5 ?_ | refine w7_e6 ?_)))
    exact hC _ _
theorem op_spoons (h : WR P Y B w z km fa mo fr sp ow tp tn tq wt s) (hs : SH bt ln nm mb ms mn) (x1 x2 : Int32) (C : Int32 → V → V → Int32 → V → V → Prop) (hC : ∀ r sp' e' s', WR P Y B w z km fa mo fr sp' ow tp tn tq wt s' → C r sp' e' r s' e') : wp_X6_spoons x1 x2 (nI P) sp e bt ln nm (fun r sp' e' => wp_X7_spoons x1 x2 s e mb ms mn (fun r' s' e'' => C r sp' e' r' s' e'')) := by
  obtain ⟨⟨a1, a2, a3, a4⟩, ⟨b1, b2, b3, b4, b5⟩, c1, c2, c3, c4, c5, c6, c7, c8, c9⟩ := id h
  unfold wp_X6_spoons
  rcases io x1 P (by omega) with ⟨p, hp, rfl⟩ | hx
  · rcases io x2 4 (by omega) with ⟨k, hk, rfl⟩ | ho
    · obtain ⟨⟨g1, g2⟩, ⟨L, hL, g3, g4⟩, g5⟩ := hs k hk
      (repeat (with_reducible (first | refine tA ?_ | refine tB ?_ | refine tC ?_ | refine tD ?_ | refine w6_one_in (by assumption) (by assumption) ?_ | refine w6_one_out (by assumption) (by assumption) ?_ | refine w7_one_in (by assumption) (by assumption) (by assumption) ?_ | refine w7_one_out (by assumption) (by assumption) (by assumption) ?_ | refine w6_two_in (by assumption) (by assumption) (by assumption) (by assumption) ?_ | refine w6_two_out (by assumption) (by assumption) ?_ | refine w7_two_in (by assumption) (by assumption) (by assumption) (by assumption) (by assumption) ?_ | refine w7_two_out (by assumption) (by assumption) (by assumption) ?_ | refine w6_sort_in (by assumption) ?_ | refine w6_sort_out (by assumption) ?_ | refine w7_sort_in (by assumption) ?_ | refine w7_sort_out (by assumption) ?_ | refine w6_km_in (by assumption) ?_ | refine w6_km_out (by assumption) ?_ | refine w7_kind_in (by assumption) ?_ | refine w7_kind_out (by assumption) ?_ | refine w6_sheet_in (by assumption) ?_ | refine w6_sheet_out (by assumption) ?_ | refine w7_sheet_in (by assumption) ?_ | refine w7_sheet_out (by assumption) ?_ | refine w6_e1 ?_ | refine w6_e2 ?_ | refine w6_e3 ?_ | refine w6_e4 ?_ | refine w6_e5 ?_ | refine w6_e6 ?_ | refine w7_e1 ?_ | refine w7_e2 ?_ | refine w7_e3 ?_ | refine w7_e4 ?_ | refine w7_e5 ?_ | refine w7_e6 ?_)))
      refine ⟨(vi (by omega) (by omega)), fun K hK eK => ?_⟩
      have : k = K := (eq_n (by omega) (by omega)).mp eK
      subst this
      by_cases z0 : bt k = 0
      · refine w1_missing_1 z0 ?_
        (repeat (with_reducible (first | refine tA ?_ | refine tB ?_ | refine tC ?_ | refine tD ?_ | refine w6_one_in (by assumption) (by assumption) ?_ | refine w6_one_out (by assumption) (by assumption) ?_ | refine w7_one_in (by assumption) (by assumption) (by assumption) ?_ | refine w7_one_out (by assumption) (by assumption) (by assumption) ?_ | refine w6_two_in (by assumption) (by assumption) (by assumption) (by assumption) ?_ | refine w6_two_out (by assumption) (by assumption) ?_ | refine w7_two_in (by assumption) (by assumption) (by assumption) (by assumption) (by assumption) ?_ | refine w7_two_out (by assumption) (by assumption) (by assumption) ?_ | refine w6_sort_in (by assumption) ?_ | refine w6_sort_out (by assumption) ?_ | refine w7_sort_in (by assumption) ?_ | refine w7_sort_out (by assumption) ?_ | refine w6_km_in (by assumption) ?_ | refine w6_km_out (by assumption) ?_ | refine w7_kind_in (by assumption) ?_ | refine w7_kind_out (by assumption) ?_ | refine w6_sheet_in (by assumption) ?_ | refine w6_sheet_out (by assumption) ?_ | refine w7_sheet_in (by assumption) ?_ | refine w7_sheet_out (by assumption) ?_ | refine w6_e1 ?_ | refine w6_e2 ?_ | refine w6_e3 ?_ | refine w6_e4 ?_ | refine w6_e5 ?_ | refine w6_e6 ?_ | refine w7_e1 ?_ | refine w7_e2 ?_ | refine w7_e3 ?_ | refine w7_e4 ?_ | refine w7_e5 ?_ | refine w7_e6 ?_)))
        unfold wp_X7_spoons
        (repeat (with_reducible (first | refine tA ?_ | refine tB ?_ | refine tC ?_ | refine tD ?_ | refine w6_one_in (by assumption) (by assumption) ?_ | refine w6_one_out (by assumption) (by assumption) ?_ | refine w7_one_in (by assumption) (by assumption) (by assumption) ?_ | refine w7_one_out (by assumption) (by assumption) (by assumption) ?_ | refine w6_two_in (by assumption) (by assumption) (by assumption) (by assumption) ?_ | refine w6_two_out (by assumption) (by assumption) ?_ | refine w7_two_in (by assumption) (by assumption) (by assumption) (by assumption) (by assumption) ?_ | refine w7_two_out (by assumption) (by assumption) (by assumption) ?_ | refine w6_sort_in (by assumption) ?_ | refine w6_sort_out (by assumption) ?_ | refine w7_sort_in (by assumption) ?_ | refine w7_sort_out (by assumption) ?_ | refine w6_km_in (by assumption) ?_ | refine w6_km_out (by assumption) ?_ | refine w7_kind_in (by assumption) ?_ | refine w7_kind_out (by assumption) ?_ | refine w6_sheet_in (by assumption) ?_ | refine w6_sheet_out (by assumption) ?_ | refine w7_sheet_in (by assumption) ?_ | refine w7_sheet_out (by assumption) ?_ | refine w6_e1 ?_ | refine w6_e2 ?_ | refine w6_e3 ?_ | refine w6_e4 ?_ | refine w6_e5 ?_ | refine w6_e6 ?_ | refine w7_e1 ?_ | refine w7_e2 ?_ | refine w7_e3 ?_ | refine w7_e4 ?_ | refine w7_e5 ?_ | refine w7_e6 ?_)))
        exact w7_lacks_2 hk (by rw [← g1]; exact z0) (t2A (w7_e2 (hC _ _ _ _ h)))
      · refine w1_missing_0 z0 ?_
        (repeat (with_reducible (first | refine tA ?_ | refine tB ?_ | refine tC ?_ | refine tD ?_ | refine w6_one_in (by assumption) (by assumption) ?_ | refine w6_one_out (by assumption) (by assumption) ?_ | refine w7_one_in (by assumption) (by assumption) (by assumption) ?_ | refine w7_one_out (by assumption) (by assumption) (by assumption) ?_ | refine w6_two_in (by assumption) (by assumption) (by assumption) (by assumption) ?_ | refine w6_two_out (by assumption) (by assumption) ?_ | refine w7_two_in (by assumption) (by assumption) (by assumption) (by assumption) (by assumption) ?_ | refine w7_two_out (by assumption) (by assumption) (by assumption) ?_ | refine w6_sort_in (by assumption) ?_ | refine w6_sort_out (by assumption) ?_ | refine w7_sort_in (by assumption) ?_ | refine w7_sort_out (by assumption) ?_ | refine w6_km_in (by assumption) ?_ | refine w6_km_out (by assumption) ?_ | refine w7_kind_in (by assumption) ?_ | refine w7_kind_out (by assumption) ?_ | refine w6_sheet_in (by assumption) ?_ | refine w6_sheet_out (by assumption) ?_ | refine w7_sheet_in (by assumption) ?_ | refine w7_sheet_out (by assumption) ?_ | refine w6_e1 ?_ | refine w6_e2 ?_ | refine w6_e3 ?_ | refine w6_e4 ?_ | refine w6_e5 ?_ | refine w6_e6 ?_ | refine w7_e1 ?_ | refine w7_e2 ?_ | refine w7_e3 ?_ | refine w7_e4 ?_ | refine w7_e5 ?_ | refine w7_e6 ?_)))
        rw [g3, show (if (5 : Int32) < nI L then (5 : Int32) else nI L) = nI (min L 5) from min_n (a := L) (b := 5) (by omega) (by omega)]
        intro M eM
        subst eM
        obtain ⟨j, hj, hb, hn⟩ := lead_ex (fun i => ¬ (nm k i < 0 ∨ 99 < nm k i)) (min L 5)
        have m : ∀ t : V, (∀ a, a < j → t (5 * p + a) = nm k a) → (∀ q, (q < 5 * p ∨ 5 * p + j ≤ q) → t q = sp q) → wp_X7_spoons (nI p) (nI k) s e mb ms mn (fun r' s' e'' => C (nI j) t e r' s' e'') := by
          intro t it io'
          unfold wp_X7_spoons
          (repeat (with_reducible (first | refine tA ?_ | refine tB ?_ | refine tC ?_ | refine tD ?_ | refine w6_one_in (by assumption) (by assumption) ?_ | refine w6_one_out (by assumption) (by assumption) ?_ | refine w7_one_in (by assumption) (by assumption) (by assumption) ?_ | refine w7_one_out (by assumption) (by assumption) (by assumption) ?_ | refine w6_two_in (by assumption) (by assumption) (by assumption) (by assumption) ?_ | refine w6_two_out (by assumption) (by assumption) ?_ | refine w7_two_in (by assumption) (by assumption) (by assumption) (by assumption) (by assumption) ?_ | refine w7_two_out (by assumption) (by assumption) (by assumption) ?_ | refine w6_sort_in (by assumption) ?_ | refine w6_sort_out (by assumption) ?_ | refine w7_sort_in (by assumption) ?_ | refine w7_sort_out (by assumption) ?_ | refine w6_km_in (by assumption) ?_ | refine w6_km_out (by assumption) ?_ | refine w7_kind_in (by assumption) ?_ | refine w7_kind_out (by assumption) ?_ | refine w6_sheet_in (by assumption) ?_ | refine w6_sheet_out (by assumption) ?_ | refine w7_sheet_in (by assumption) ?_ | refine w7_sheet_out (by assumption) ?_ | refine w6_e1 ?_ | refine w6_e2 ?_ | refine w6_e3 ?_ | refine w6_e4 ?_ | refine w6_e5 ?_ | refine w6_e6 ?_ | refine w7_e1 ?_ | refine w7_e2 ?_ | refine w7_e3 ?_ | refine w7_e4 ?_ | refine w7_e5 ?_ | refine w7_e6 ?_)))
          refine w7_lacks_0 hk (by rw [← g1]; exact z0) (tB ?_)
          refine loop_0 (fun n i (u : V × V) => wp_X7_spoons_b31 _ mb ms mn n (nI p) (nI k) (nI i) u.1 u.2) (fun i u => u.2 = e ∧ (∀ a, a < i → u.1 (38 + 5 * p + a) = nm k a) ∧ ∀ q, (q < 38 + 5 * p ∨ 38 + 5 * p + i ≤ q) → u.1 q = s q) j (s, e) ⟨rfl, fun a ha => by omega, fun _ _ => rfl⟩ ?_ ?_
          · intro n u ⟨eu, iu, ou⟩
            obtain ⟨u, u2⟩ := u
            simp only at eu iu ou
            subst eu
            have fin : C (nI j) t u2 (nI j) u u2 := by
              refine hC _ _ _ _ (h.spn (fun a b ha hb' => ?_) (fun q q1 q2 => ?_) (fun i hi => ou i (by omega)))
              · by_cases cc : a = p ∧ b < j
                · obtain ⟨rfl, hbj⟩ := cc
                  rw [it b hbj, iu b hbj]
                  refine ⟨?_, rfl⟩
                  have nb := hb b hbj
                  rcases io (nm k b) 100 (by omega) with ⟨v, hv, ev⟩ | q
                  · exact ⟨v, by omega, ev⟩
                  · exfalso
                    apply nb
                    rcases q with q | q
                    · exact Or.inl q
                    · right
                      rw [ie, ti (by omega)] at q
                      rw [il, show ((99 : Int32).toInt) = 99 from rfl]
                      omega
                · rw [io' _ (by omega), ou _ (by omega)]
                  exact c4 a b ha hb'
              · obtain ⟨e1, e2, e3⟩ := c3 q q1 q2
                exact ⟨e1, fun b hb' => by rw [io' _ (by omega)]; exact e2 b hb', e3⟩
            show wp_X7_spoons_b31 _ mb ms mn (n + 1) (nI p) (nI k) (nI j) u u2
            unfold wp_X7_spoons_b31
            rw [cl (by omega), g4]
            refine ⟨(vi (by omega) (by omega)), fun _ => fin, fun c => ?_⟩
            rw [le_n (by omega) (by omega)] at c
            rcases Nat.lt_or_ge j 5 with q | q
            · refine w7_sort_in q (tD ?_)
              rw [show (24 : Int32) = nI 24 from rfl, ix8, cl (by omega), g5 j (by omega)]
              refine ⟨(vi (by omega) (by omega)), w7_in (fun g => ?_) (fun _ => tB fin)⟩
              rcases hn with hn | hn
              · omega
              · exact absurd g hn
            · exact w7_sort_out (Or.inr ((le_n (a := 5) (by omega) (by omega)).mpr q)) (tB fin)
          · intro n i u hi ⟨eu, iu, ou⟩ ih
            obtain ⟨u, u2⟩ := u
            simp only at eu iu ou
            subst eu
            show wp_X7_spoons_b31 _ mb ms mn (n + 1) (nI p) (nI k) (nI i) u u2
            unfold wp_X7_spoons_b31
            rw [cl (by omega), g4]
            refine ⟨(vi (by omega) (by omega)), fun c => absurd c (nle (by omega) (by omega)), fun _ => w7_sort_in (by omega) (tD ?_)⟩
            rw [show (24 : Int32) = nI 24 from rfl, ix8, cl (by omega), g5 i (by omega)]
            refine ⟨(vi (by omega) (by omega)), w7_in (fun _ => tD ?_) (fun g => absurd g (hb i hi))⟩
            rw [show (38 : Int32) = nI 38 from rfl, show (5 : Int32) = nI 5 from rfl, ix7, cl (by omega)]
            refine ⟨(vi (by omega) (by omega)), (vi (by omega) (by omega)), fun s1 es y ey => ?_⟩
            rw [ey, i1]
            refine ih (s1, u2) ⟨rfl, fun a ha => ?_, fun q hq => ?_⟩
            · subst es
              by_cases g : a = i
              · subst g; exact us
              · show upd u _ _ _ = _
                rw [un (by omega)]; exact iu a (by omega)
            · subst es
              show upd u _ _ _ = _
              rw [un (by omega)]; exact ou q (by omega)
        refine loop_0 (fun n i (u : V × V) => wp_X6_spoons_b54 _ k (nI P) bt ln nm n (nI p) (nI (min L 5)) (nI i) u.1 u.2) (fun i u => u.2 = e ∧ (∀ a, a < i → u.1 (5 * p + a) = nm k a) ∧ ∀ q, (q < 5 * p ∨ 5 * p + i ≤ q) → u.1 q = sp q) j (sp, e) ⟨rfl, fun a ha => by omega, fun _ _ => rfl⟩ ?_ ?_
        · intro n u ⟨eu, iu, ou⟩
          obtain ⟨u, u2⟩ := u
          simp only at eu iu ou
          subst eu
          show wp_X6_spoons_b54 _ k (nI P) bt ln nm (n + 1) (nI p) (nI (min L 5)) (nI j) u u2
          unfold wp_X6_spoons_b54
          refine ⟨fun c => ?_, fun c => ?_⟩
          · rw [le_n (by omega) (by omega)] at c
            rw [show min L 5 = j by omega]
            exact m u iu ou
          · rw [le_n (by omega) (by omega)] at c
            rw [cl (by omega)]
            refine ⟨(vi (by omega) (by omega)), w6_notWithin (fun g => ?_) (fun _ => tD ?_)⟩
            · rcases hn with hn | hn
              · omega
              · exact absurd g hn
            · exact m u iu ou
        · intro n i u hi ⟨eu, iu, ou⟩ ih
          obtain ⟨u, u2⟩ := u
          simp only at eu iu ou
          subst eu
          show wp_X6_spoons_b54 _ k (nI P) bt ln nm (n + 1) (nI p) (nI (min L 5)) (nI i) u u2
          unfold wp_X6_spoons_b54
          rw [cl (by omega)]
          refine ⟨fun c => absurd c (nle (by omega) (by omega)), fun _ => ⟨(vi (by omega) (by omega)), w6_notWithin (fun _ => tB (w6_cell ⟨(vi (by omega) (by omega)), (vi (by omega) (by omega)), fun s1 es y ey => ?_⟩)) (fun g => absurd g (hb i hi))⟩⟩
          rw [ey, i1]
          rw [cl (by omega)] at es
          refine ih (s1, u2) ⟨rfl, fun a ha => ?_, fun q hq => ?_⟩
          · subst es
            by_cases g : a = i
            · subst g; exact us
            · show upd u _ _ _ = _
              rw [un (by omega)]; exact iu a (by omega)
          · subst es
            show upd u _ _ _ = _
            rw [un (by omega)]; exact ou q (by omega)
    · (repeat (with_reducible (first | refine tA ?_ | refine tB ?_ | refine tC ?_ | refine tD ?_ | refine w6_one_in (by assumption) (by assumption) ?_ | refine w6_one_out (by assumption) (by assumption) ?_ | refine w7_one_in (by assumption) (by assumption) (by assumption) ?_ | refine w7_one_out (by assumption) (by assumption) (by assumption) ?_ | refine w6_two_in (by assumption) (by assumption) (by assumption) (by assumption) ?_ | refine w6_two_out (by assumption) (by assumption) ?_ | refine w7_two_in (by assumption) (by assumption) (by assumption) (by assumption) (by assumption) ?_ | refine w7_two_out (by assumption) (by assumption) (by assumption) ?_ | refine w6_sort_in (by assumption) ?_ | refine w6_sort_out (by assumption) ?_ | refine w7_sort_in (by assumption) ?_ | refine w7_sort_out (by assumption) ?_ | refine w6_km_in (by assumption) ?_ | refine w6_km_out (by assumption) ?_ | refine w7_kind_in (by assumption) ?_ | refine w7_kind_out (by assumption) ?_ | refine w6_sheet_in (by assumption) ?_ | refine w6_sheet_out (by assumption) ?_ | refine w7_sheet_in (by assumption) ?_ | refine w7_sheet_out (by assumption) ?_ | refine w6_e1 ?_ | refine w6_e2 ?_ | refine w6_e3 ?_ | refine w6_e4 ?_ | refine w6_e5 ?_ | refine w6_e6 ?_ | refine w7_e1 ?_ | refine w7_e2 ?_ | refine w7_e3 ?_ | refine w7_e4 ?_ | refine w7_e5 ?_ | refine w7_e6 ?_)))
      unfold wp_X7_spoons
      (repeat (with_reducible (first | refine tA ?_ | refine tB ?_ | refine tC ?_ | refine tD ?_ | refine w6_one_in (by assumption) (by assumption) ?_ | refine w6_one_out (by assumption) (by assumption) ?_ | refine w7_one_in (by assumption) (by assumption) (by assumption) ?_ | refine w7_one_out (by assumption) (by assumption) (by assumption) ?_ | refine w6_two_in (by assumption) (by assumption) (by assumption) (by assumption) ?_ | refine w6_two_out (by assumption) (by assumption) ?_ | refine w7_two_in (by assumption) (by assumption) (by assumption) (by assumption) (by assumption) ?_ | refine w7_two_out (by assumption) (by assumption) (by assumption) ?_ | refine w6_sort_in (by assumption) ?_ | refine w6_sort_out (by assumption) ?_ | refine w7_sort_in (by assumption) ?_ | refine w7_sort_out (by assumption) ?_ | refine w6_km_in (by assumption) ?_ | refine w6_km_out (by assumption) ?_ | refine w7_kind_in (by assumption) ?_ | refine w7_kind_out (by assumption) ?_ | refine w6_sheet_in (by assumption) ?_ | refine w6_sheet_out (by assumption) ?_ | refine w7_sheet_in (by assumption) ?_ | refine w7_sheet_out (by assumption) ?_ | refine w6_e1 ?_ | refine w6_e2 ?_ | refine w6_e3 ?_ | refine w6_e4 ?_ | refine w6_e5 ?_ | refine w6_e6 ?_ | refine w7_e1 ?_ | refine w7_e2 ?_ | refine w7_e3 ?_ | refine w7_e4 ?_ | refine w7_e5 ?_ | refine w7_e6 ?_)))
      refine w7_lacks_out ho ?_
      (repeat (with_reducible (first | refine tA ?_ | refine tB ?_ | refine tC ?_ | refine tD ?_ | refine w6_one_in (by assumption) (by assumption) ?_ | refine w6_one_out (by assumption) (by assumption) ?_ | refine w7_one_in (by assumption) (by assumption) (by assumption) ?_ | refine w7_one_out (by assumption) (by assumption) (by assumption) ?_ | refine w6_two_in (by assumption) (by assumption) (by assumption) (by assumption) ?_ | refine w6_two_out (by assumption) (by assumption) ?_ | refine w7_two_in (by assumption) (by assumption) (by assumption) (by assumption) (by assumption) ?_ | refine w7_two_out (by assumption) (by assumption) (by assumption) ?_ | refine w6_sort_in (by assumption) ?_ | refine w6_sort_out (by assumption) ?_ | refine w7_sort_in (by assumption) ?_ | refine w7_sort_out (by assumption) ?_ | refine w6_km_in (by assumption) ?_ | refine w6_km_out (by assumption) ?_ | refine w7_kind_in (by assumption) ?_ | refine w7_kind_out (by assumption) ?_ | refine w6_sheet_in (by assumption) ?_ | refine w6_sheet_out (by assumption) ?_ | refine w7_sheet_in (by assumption) ?_ | refine w7_sheet_out (by assumption) ?_ | refine w6_e1 ?_ | refine w6_e2 ?_ | refine w6_e3 ?_ | refine w6_e4 ?_ | refine w6_e5 ?_ | refine w6_e6 ?_ | refine w7_e1 ?_ | refine w7_e2 ?_ | refine w7_e3 ?_ | refine w7_e4 ?_ | refine w7_e5 ?_ | refine w7_e6 ?_)))
      exact hC _ _ _ _ h
  · (repeat (with_reducible (first | refine tA ?_ | refine tB ?_ | refine tC ?_ | refine tD ?_ | refine w6_one_in (by assumption) (by assumption) ?_ | refine w6_one_out (by assumption) (by assumption) ?_ | refine w7_one_in (by assumption) (by assumption) (by assumption) ?_ | refine w7_one_out (by assumption) (by assumption) (by assumption) ?_ | refine w6_two_in (by assumption) (by assumption) (by assumption) (by assumption) ?_ | refine w6_two_out (by assumption) (by assumption) ?_ | refine w7_two_in (by assumption) (by assumption) (by assumption) (by assumption) (by assumption) ?_ | refine w7_two_out (by assumption) (by assumption) (by assumption) ?_ | refine w6_sort_in (by assumption) ?_ | refine w6_sort_out (by assumption) ?_ | refine w7_sort_in (by assumption) ?_ | refine w7_sort_out (by assumption) ?_ | refine w6_km_in (by assumption) ?_ | refine w6_km_out (by assumption) ?_ | refine w7_kind_in (by assumption) ?_ | refine w7_kind_out (by assumption) ?_ | refine w6_sheet_in (by assumption) ?_ | refine w6_sheet_out (by assumption) ?_ | refine w7_sheet_in (by assumption) ?_ | refine w7_sheet_out (by assumption) ?_ | refine w6_e1 ?_ | refine w6_e2 ?_ | refine w6_e3 ?_ | refine w6_e4 ?_ | refine w6_e5 ?_ | refine w6_e6 ?_ | refine w7_e1 ?_ | refine w7_e2 ?_ | refine w7_e3 ?_ | refine w7_e4 ?_ | refine w7_e5 ?_ | refine w7_e6 ?_)))
    unfold wp_X7_spoons
    (repeat (with_reducible (first | refine tA ?_ | refine tB ?_ | refine tC ?_ | refine tD ?_ | refine w6_one_in (by assumption) (by assumption) ?_ | refine w6_one_out (by assumption) (by assumption) ?_ | refine w7_one_in (by assumption) (by assumption) (by assumption) ?_ | refine w7_one_out (by assumption) (by assumption) (by assumption) ?_ | refine w6_two_in (by assumption) (by assumption) (by assumption) (by assumption) ?_ | refine w6_two_out (by assumption) (by assumption) ?_ | refine w7_two_in (by assumption) (by assumption) (by assumption) (by assumption) (by assumption) ?_ | refine w7_two_out (by assumption) (by assumption) (by assumption) ?_ | refine w6_sort_in (by assumption) ?_ | refine w6_sort_out (by assumption) ?_ | refine w7_sort_in (by assumption) ?_ | refine w7_sort_out (by assumption) ?_ | refine w6_km_in (by assumption) ?_ | refine w6_km_out (by assumption) ?_ | refine w7_kind_in (by assumption) ?_ | refine w7_kind_out (by assumption) ?_ | refine w6_sheet_in (by assumption) ?_ | refine w6_sheet_out (by assumption) ?_ | refine w7_sheet_in (by assumption) ?_ | refine w7_sheet_out (by assumption) ?_ | refine w6_e1 ?_ | refine w6_e2 ?_ | refine w6_e3 ?_ | refine w6_e4 ?_ | refine w6_e5 ?_ | refine w6_e6 ?_ | refine w7_e1 ?_ | refine w7_e2 ?_ | refine w7_e3 ?_ | refine w7_e4 ?_ | refine w7_e5 ?_ | refine w7_e6 ?_)))
    exact hC _ _ _ _ h
end SHEETS
