/-! one of the people more -/
/-- what the model's row is behind a birth -/
def BornS (P n : Nat) (x2 x3 : Int32) (v : Nat → Int32) (s s' : V) : Prop :=
  s' (6 + 4 * P + 0) = nI (n / 10) ∧ s' (6 + 4 * P + 1) = nI (n % 10) ∧ s' (6 + 4 * P + 2) = x2 ∧ s' (6 + 4 * P + 3) = x3 ∧ (∀ k, k < 5 → s' (38 + 5 * P + k) = v k) ∧ (∀ o, o < 8 → s' (78 + 8 * P + o) = 0 ∧ s' (78 + 8 * o + P) = 0) ∧ s' 4 = nI (P + 1) ∧
  ∀ i, i ≠ 4 → (i < 6 + 4 * P ∨ 10 + 4 * P ≤ i) → (i < 38 + 5 * P ∨ 43 + 5 * P ≤ i) → (∀ o, o < 8 → i ≠ 78 + 8 * P + o ∧ i ≠ 78 + 8 * o + P) → s' i = s i
theorem w7_born {P n : Nat} (hP : P < 8) (hn : n < 70) {x2 x3 : Int32} {s : V} (hs : s 4 = nI P) (v : Nat → Int32) (hx : (x2 = -1 ∧ ∀ k, v k = 0) ∨ (∃ f m : Nat, f < P ∧ m < P ∧ x2 = nI f ∧ x3 = nI m ∧ ∀ k, k < 5 → v k = (s (38 + 5 * f + k) + s (38 + 5 * m + k)) / 2)) {Q : Int32 → V → Prop} (h : ∀ s', BornS P n x2 x3 v s s' → Q (nI P) s') : wp_X7_born (nI n) x2 x3 s Q := by
  unfold wp_X7_born
  rw [show ((4 : Int32).toNatClampNeg) = 4 from rfl, hs]
  refine ⟨vi (n := 4) (by omega) (by omega), fun x4 e4 => ?_⟩
  subst e4
  refine w7_lays1 (k := 0) hP (by omega) (w7_lays1 (k := 1) hP (by omega) (w7_lays1 (k := 2) hP (by omega) (w7_lays1 (k := 3) hP (by omega) ?_)))
  rw [show (10 : Int32) = nI 10 from rfl, rm_n (by omega) (by omega) (by omega), dv (by omega) (by omega) (by omega)]
  generalize hs1 : upd (upd (upd (upd s (6 + 4 * P + 0) (nI (n / 10))) (6 + 4 * P + 1) (nI (n % 10))) (6 + 4 * P + 2) x2) (6 + 4 * P + 3) x3 = s1
  have k0 : s1 (6 + 4 * P + 0) = nI (n / 10) := by rw [← hs1, un (by omega), un (by omega), un (by omega), us]
  have k1 : s1 (6 + 4 * P + 1) = nI (n % 10) := by rw [← hs1, un (by omega), un (by omega), us]
  have k2 : s1 (6 + 4 * P + 2) = x2 := by rw [← hs1, un (by omega), us]
  have k3 : s1 (6 + 4 * P + 3) = x3 := by rw [← hs1, us]
  have ko : ∀ i, (i < 6 + 4 * P ∨ 10 + 4 * P ≤ i) → s1 i = s i := fun i hi => by rw [← hs1, un (by omega), un (by omega), un (by omega), un (by omega)]
  refine loop_0 (fun n i (t : V) => wp_X7_born_b49 Q n x2 x3 (nI P) (nI i) t) (fun i t => (∀ k, k < i → t (38 + 5 * P + k) = v k) ∧ ∀ j, (j < 38 + 5 * P ∨ 38 + 5 * P + i ≤ j) → t j = s1 j) 5 s1 ⟨fun k hk => by omega, fun j _ => rfl⟩ ?_ ?_
  · intro n1 t ⟨it1, it2⟩
    unfold wp_X7_born_b49
    refine ⟨fun _ => ?_, fun c => absurd (show (5 : Int32) ≤ nI 5 by decide) c⟩
    refine loop_0 (fun n i (r : V) => wp_X7_born_b105 Q n (nI P) (nI i) r) (fun i r => (∀ o, o < i → r (78 + 8 * P + o) = 0 ∧ r (78 + 8 * o + P) = 0) ∧ ∀ j, (∀ o, o < i → j ≠ 78 + 8 * P + o ∧ j ≠ 78 + 8 * o + P) → r j = t j) 8 t ⟨fun o ho => by omega, fun j _ => rfl⟩ ?_ ?_
    · intro n2 r ⟨ir1, ir2⟩
      unfold wp_X7_born_b105
      refine ⟨fun _ => ⟨vi (n := 4) (by omega) (by omega), vi (n := 4) (by omega) (by omega), fun s' es => ?_⟩, fun c => absurd (show (8 : Int32) ≤ nI 8 by decide) c⟩
      have r4 : r 4 = nI P := by rw [ir2 4 (fun o ho => by omega), it2 4 (by omega), ko 4 (by omega), hs]
      rw [show ((4 : Int32).toNatClampNeg) = 4 from rfl, r4, i1] at es
      subst es
      have low : ∀ i, i ≠ 4 → i < 38 → upd r 4 (nI (P + 1)) i = s1 i := fun i h1 h2 => by rw [un h1, ir2 i (fun o ho => by omega), it2 i (by omega)]
      refine h _ ⟨by rw [low _ (by omega) (by omega)]; exact k0, by rw [low _ (by omega) (by omega)]; exact k1, by rw [low _ (by omega) (by omega)]; exact k2, by rw [low _ (by omega) (by omega)]; exact k3, fun k hk => by rw [un (by omega), ir2 _ (fun o ho => by omega)]; exact it1 k hk, fun o ho => ⟨by rw [un (by omega)]; exact (ir1 o ho).1, by rw [un (by omega)]; exact (ir1 o ho).2⟩, us, fun i g1 g2 g3 g4 => by rw [un g1, ir2 i g4, it2 i (by omega), ko i g2]⟩
    · intro n2 i r hi ⟨ir1, ir2⟩ ih
      unfold wp_X7_born_b105
      refine ⟨fun c => absurd c (nle (a := 8) hi (by omega)), fun _ => ?_⟩
      rw [show (78 : Int32) = nI 78 from rfl, show (8 : Int32) = nI 8 from rfl, ix7, ix7, cl (by omega), cl (by omega)]
      refine ⟨(vi (by omega) (by omega)), fun r1 e1 => ⟨(vi (by omega) (by omega)), fun r2 e2 => fun y ey => ?_⟩⟩
      rw [ey, i1]
      refine ih _ ⟨fun o ho => ?_, fun j hj => ?_⟩
      · subst e2; subst e1
        by_cases g : o = i
        · subst g
          refine ⟨?_, us⟩
          by_cases g2 : 78 + 8 * P + o = 78 + 8 * o + P
          · rw [g2, us]
          · rw [un g2, us]
        · have q := ir1 o (by omega)
          refine ⟨?_, ?_⟩
          · by_cases g2 : 78 + 8 * P + o = 78 + 8 * i + P
            · rw [g2, us]
            · rw [un g2, un (by omega)]; exact q.1
          · by_cases g2 : 78 + 8 * o + P = 78 + 8 * P + i
            · by_cases g3 : 78 + 8 * o + P = 78 + 8 * i + P
              · rw [g3, us]
              · rw [un g3, g2, us]
            · rw [un (by omega), un g2]; exact q.2
      · subst e2; subst e1
        have q := hj i (by omega)
        rw [un q.2, un q.1, ir2 j (fun o ho => hj o (by omega))]
  · intro n1 i t hi ⟨it1, it2⟩ ih
    unfold wp_X7_born_b49
    refine ⟨fun c => absurd c (nle (a := 5) hi (by omega)), fun _ => ⟨fun c => ?_, fun c => ?_⟩⟩
    · rcases hx with ⟨hx, -⟩ | ⟨f, m, hf, hm, rfl, rfl, hv⟩
      · exact absurd hx c
      · refine w7_has (by omega) hi (w7_has (by omega) hi ?_)
        rw [show (38 : Int32) = nI 38 from rfl, show (5 : Int32) = nI 5 from rfl, ix7, cl (by omega)]
        refine ⟨(vi (by omega) (by omega)), fun t1 e1 => fun y ey => ?_⟩
        rw [ey, i1]
        refine ih _ ⟨fun k hk => ?_, fun j hj => ?_⟩
        · subst e1
          by_cases g : k = i
          · subst g
            rw [us, it2 _ (by omega), it2 _ (by omega), ko _ (by omega), ko _ (by omega), hv k hi]
          · rw [un (by omega)]; exact it1 k (by omega)
        · subst e1
          rw [un (by omega)]; exact it2 j (by omega)
    · rw [show (38 : Int32) = nI 38 from rfl, show (5 : Int32) = nI 5 from rfl, ix7, cl (by omega)]
      refine ⟨(vi (by omega) (by omega)), fun t1 e1 => fun y ey => ?_⟩
      rw [ey, i1]
      refine ih _ ⟨fun k hk => ?_, fun j hj => ?_⟩
      · subst e1
        by_cases g : k = i
        · subst g
          rw [us]
          rcases hx with ⟨-, hv⟩ | ⟨f, m, hf, hm, rfl, rfl, hv⟩
          · exact (hv k).symm
          · exfalso
            have c := (iq _ _).mp c
            rw [ti (by omega)] at c
            have : (-1 : Int32).toInt = -1 := rfl
            omega
        · rw [un (by omega)]; exact it1 k (by omega)
      · subst e1
        rw [un (by omega)]; exact it2 j (by omega)
theorem w5_addOrphan {P : Nat} (hP : P < 8) {x : Int32} {km fa mo : V} {Q : Int32 → Int32 → V → V → V → Prop} (h : Q (nI P) (nI (P + 1)) (upd km P x) (upd fa P (-1)) (upd mo P (-1))) : wp_X5_addOrphan x (nI P) km fa mo Q := by
  unfold wp_X5_addOrphan
  rw [cl (by omega)]
  refine ⟨vi hP (by omega), fun a ea => ⟨vi hP (by omega), fun b eb => ⟨vi hP (by omega), fun c ec => fun d ed => ?_⟩⟩⟩
  subst ea; subst eb; subst ec
  rw [ed, i1]
  exact h
section OPS
variable {P Y B w : Nat} {z : Int32} {km fa mo fr sp ow tp tn : V} {tq : Nat → V} {wt s e : V}
/-- the relation behind a birth -/
theorem WR.born (h : WR P Y B w z km fa mo fr sp ow tp tn tq wt s) (hP : P < 8) {n : Nat} (hn : n < 70) {x2 x3 : Int32} {v : Nat → Int32} {fr' sp' s' : V} (hb : BornS P n x2 x3 v s s') (h3 : ∀ i, i ≠ P → fr' i = fr i) (h4 : ∀ k, k < 5 → sp' (5 * P + k) = v k ∧ Bd 99 (v k)) (h5 : ∀ i, (i < 5 * P ∨ 5 * P + 5 ≤ i) → sp' i = sp i)
    (hp : (x2 = -1 ∧ x3 = -1 ∧ fr' P = 0) ∨ ∃ f m : Nat, f < P ∧ m < P ∧ f ≠ m ∧ x2 = nI f ∧ x3 = nI m ∧ fr' P = (fr f ||| ((1 : Int32) <<< (nI f &&& 31))) ||| (fr m ||| ((1 : Int32) <<< (nI m &&& 31)))) : WR (P + 1) Y B w z (upd km P (nI n)) (upd fa P x2) (upd mo P x3) fr' sp' ow tp tn tq wt s' := by
  obtain ⟨⟨a1, a2, a3, a4⟩, ⟨b1, b2, b3, b4, b5⟩, c1, c2, c3, c4, c5, c6, c7, c8, c9⟩ := h
  obtain ⟨d0, d1, d2, d3, d4, d5, d6, d7⟩ := hb
  have low : ∀ i, i < 4 → s' i = s i := fun i hi => d7 i (by omega) (by omega) (by omega) (fun o ho => by omega)
  have high : ∀ i, 142 ≤ i → s' i = s i := fun i hi => d7 i (by omega) (by omega) (by omega) (fun o ho => by omega)
  refine ⟨⟨by omega, a2, a3, a4⟩, ⟨d6, by rw [low _ (by omega)]; exact b2, by rw [low _ (by omega)]; exact b3, by rw [low _ (by omega)]; exact b4, by rw [low _ (by omega)]; exact b5⟩, fun p hp' => ?_, fun p hp' => ?_, fun p q1 q2 => ?_, fun p k hp' hk => ?_, fun a b ha hb => ?_, c6.fr (fun i g1 g2 => high i (by omega)), c7.fr (fun i g1 g2 => high i (by omega)), c8.fr (by omega) (fun i g1 g2 => high i (by omega)), c9.fr (by omega) (fun i g1 g2 => high i (by omega))⟩
  · by_cases g : p = P
    · subst g
      exact ⟨n / 10, n % 10, by omega, by omega, by rw [us]; congr 1; omega, d0, d1⟩
    · obtain ⟨K, m, g1, g2, g3, g4, g5⟩ := c1 p (by omega)
      exact ⟨K, m, g1, g2, by rw [un g]; exact g3, by rw [d7 _ (by omega) (by omega) (by omega) (fun o ho => by omega)]; exact g4, by rw [d7 _ (by omega) (by omega) (by omega) (fun o ho => by omega)]; exact g5⟩
  · by_cases g : p = P
    · subst g
      rcases hp with ⟨e1, e2, e3⟩ | ⟨f, m, g1, g2, g3, e1, e2, e3⟩
      · exact Or.inl ⟨by rw [us]; exact e1, by rw [us]; exact e2, d2.trans e1, d3.trans e2, e3⟩
      · exact Or.inr ⟨f, m, g1, g2, g3, by rw [us]; exact e1, by rw [us]; exact e2, d2.trans e1, d3.trans e2, by rw [e3, h3 f (by omega), h3 m (by omega)]⟩
    · rcases c2 p (by omega) with ⟨e1, e2, e3, e4, e5⟩ | ⟨f, m, g1, g2, g3, e1, e2, e3, e4, e5⟩
      · exact Or.inl ⟨by rw [un g]; exact e1, by rw [un g]; exact e2, by rw [d7 _ (by omega) (by omega) (by omega) (fun o ho => by omega)]; exact e3, by rw [d7 _ (by omega) (by omega) (by omega) (fun o ho => by omega)]; exact e4, by rw [h3 p g]; exact e5⟩
      · exact Or.inr ⟨f, m, g1, g2, g3, by rw [un g]; exact e1, by rw [un g]; exact e2, by rw [d7 _ (by omega) (by omega) (by omega) (fun o ho => by omega)]; exact e3, by rw [d7 _ (by omega) (by omega) (by omega) (fun o ho => by omega)]; exact e4, by rw [h3 p g, h3 f (by omega), h3 m (by omega)]; exact e5⟩
  · obtain ⟨e1, e2, e3⟩ := c3 p (by omega) q2
    exact ⟨by rw [h3 p (by omega)]; exact e1, fun k hk => by rw [h5 _ (by omega)]; exact e2 k hk, e3⟩
  · by_cases g : p = P
    · subst g
      rw [(h4 k hk).1]
      exact ⟨(h4 k hk).2, d4 k hk⟩
    · rw [h5 _ (by omega), d7 _ (by omega) (by omega) (by omega) (fun o ho => by omega)]
      exact c4 p k (by omega) hk
  · by_cases g : a = P
    · subst g
      rw [(d5 b (by omega)).1, ((c3 a (Nat.le_refl a) hP).2.2 b (by omega)).1]
      exact ⟨⟨0, by omega, rfl⟩, rfl⟩
    · by_cases g2 : b = P
      · subst g2
        rw [(d5 a (by omega)).2, ((c3 b (Nat.le_refl b) hP).2.2 a (by omega)).2]
        exact ⟨⟨0, by omega, rfl⟩, rfl⟩
      · rw [d7 _ (by omega) (by omega) (by omega) (fun o ho => by omega)]
        exact c5 a b (by omega) (by omega)
theorem op_person (h : WR P Y B w z km fa mo fr sp ow tp tn tq wt s) (x : Int32) (C : Int32 → Int32 → V → V → V → V → Int32 → V → V → Prop) (hC : ∀ r P' km' fa' mo' e' s', WR P' Y B w z km' fa' mo' fr sp ow tp tn tq wt s' → C r (nI P') km' fa' mo' e' r s' e') : wp_X6_person x (nI P) km fa mo e (fun r p' km' fa' mo' e' => wp_X7_person x s e (fun r' s' e'' => C r p' km' fa' mo' e' r' s' e'')) := by
  obtain ⟨⟨a1, a2, a3, a4⟩, ⟨b1, b2, b3, b4, b5⟩, c1, c2, c3, c4, c5, c6, c7, c8, c9⟩ := id h
  unfold wp_X6_person wp_X7_person
  rw [show ((4 : Int32).toNatClampNeg) = 4 from rfl, b1, show (8 : Int32) = nI 8 from rfl]
  rcases io x 70 (by omega) with ⟨n, hn, rfl⟩ | hx
  · (repeat (with_reducible (first | refine tA ?_ | refine tB ?_ | refine tC ?_ | refine tD ?_ | refine w6_one_in (by assumption) (by assumption) ?_ | refine w6_one_out (by assumption) (by assumption) ?_ | refine w7_one_in (by assumption) (by assumption) (by assumption) ?_ | refine w7_one_out (by assumption) (by assumption) (by assumption) ?_ | refine w6_two_in (by assumption) (by assumption) (by assumption) (by assumption) ?_ | refine w6_two_out (by assumption) (by assumption) ?_ | refine w7_two_in (by assumption) (by assumption) (by assumption) (by assumption) (by assumption) ?_ | refine w7_two_out (by assumption) (by assumption) (by assumption) ?_ | refine w6_sort_in (by assumption) ?_ | refine w6_sort_out (by assumption) ?_ | refine w7_sort_in (by assumption) ?_ | refine w7_sort_out (by assumption) ?_ | refine w6_km_in (by assumption) ?_ | refine w6_km_out (by assumption) ?_ | refine w7_kind_in (by assumption) ?_ | refine w7_kind_out (by assumption) ?_ | refine w6_sheet_in (by assumption) ?_ | refine w6_sheet_out (by assumption) ?_ | refine w7_sheet_in (by assumption) ?_ | refine w7_sheet_out (by assumption) ?_ | refine w6_e1 ?_ | refine w6_e2 ?_ | refine w6_e3 ?_ | refine w6_e4 ?_ | refine w6_e5 ?_ | refine w6_e6 ?_ | refine w7_e1 ?_ | refine w7_e2 ?_ | refine w7_e3 ?_ | refine w7_e4 ?_ | refine w7_e5 ?_ | refine w7_e6 ?_)))
    rcases Nat.lt_or_ge P 8 with hP | hP
    · refine ⟨fun _ => w5_addOrphan hP ?_, fun c => absurd ((lt_n (by omega) (by omega)).mpr hP) c⟩
      (repeat (with_reducible (first | refine tA ?_ | refine tB ?_ | refine tC ?_ | refine tD ?_ | refine w6_one_in (by assumption) (by assumption) ?_ | refine w6_one_out (by assumption) (by assumption) ?_ | refine w7_one_in (by assumption) (by assumption) (by assumption) ?_ | refine w7_one_out (by assumption) (by assumption) (by assumption) ?_ | refine w6_two_in (by assumption) (by assumption) (by assumption) (by assumption) ?_ | refine w6_two_out (by assumption) (by assumption) ?_ | refine w7_two_in (by assumption) (by assumption) (by assumption) (by assumption) (by assumption) ?_ | refine w7_two_out (by assumption) (by assumption) (by assumption) ?_ | refine w6_sort_in (by assumption) ?_ | refine w6_sort_out (by assumption) ?_ | refine w7_sort_in (by assumption) ?_ | refine w7_sort_out (by assumption) ?_ | refine w6_km_in (by assumption) ?_ | refine w6_km_out (by assumption) ?_ | refine w7_kind_in (by assumption) ?_ | refine w7_kind_out (by assumption) ?_ | refine w6_sheet_in (by assumption) ?_ | refine w6_sheet_out (by assumption) ?_ | refine w7_sheet_in (by assumption) ?_ | refine w7_sheet_out (by assumption) ?_ | refine w6_e1 ?_ | refine w6_e2 ?_ | refine w6_e3 ?_ | refine w6_e4 ?_ | refine w6_e5 ?_ | refine w6_e6 ?_ | refine w7_e1 ?_ | refine w7_e2 ?_ | refine w7_e3 ?_ | refine w7_e4 ?_ | refine w7_e5 ?_ | refine w7_e6 ?_)))
      refine ⟨vi (n := 4) (by omega) (by omega), fun _ => ?_, fun c => ?_⟩
      · refine w7_born hP hn b1 (fun _ => 0) (Or.inl ⟨rfl, fun _ => rfl⟩) (fun s' hb => hC _ _ _ _ _ _ _ ?_)
        exact h.born hP hn hb (fun _ _ => rfl) (fun k hk => ⟨(c3 P (Nat.le_refl P) hP).2.1 k hk, 0, by omega, rfl⟩) (fun _ _ => rfl) (Or.inl ⟨rfl, rfl, (c3 P (Nat.le_refl P) hP).1⟩)
      · rw [eq_n (by omega) (by omega)] at c; omega
    · have e8 : P = 8 := by omega
      subst e8
      refine ⟨fun c => absurd c (nlt (by omega) (by omega)), fun _ => w6_e4 ?_⟩
      (repeat (with_reducible (first | refine tA ?_ | refine tB ?_ | refine tC ?_ | refine tD ?_ | refine w6_one_in (by assumption) (by assumption) ?_ | refine w6_one_out (by assumption) (by assumption) ?_ | refine w7_one_in (by assumption) (by assumption) (by assumption) ?_ | refine w7_one_out (by assumption) (by assumption) (by assumption) ?_ | refine w6_two_in (by assumption) (by assumption) (by assumption) (by assumption) ?_ | refine w6_two_out (by assumption) (by assumption) ?_ | refine w7_two_in (by assumption) (by assumption) (by assumption) (by assumption) (by assumption) ?_ | refine w7_two_out (by assumption) (by assumption) (by assumption) ?_ | refine w6_sort_in (by assumption) ?_ | refine w6_sort_out (by assumption) ?_ | refine w7_sort_in (by assumption) ?_ | refine w7_sort_out (by assumption) ?_ | refine w6_km_in (by assumption) ?_ | refine w6_km_out (by assumption) ?_ | refine w7_kind_in (by assumption) ?_ | refine w7_kind_out (by assumption) ?_ | refine w6_sheet_in (by assumption) ?_ | refine w6_sheet_out (by assumption) ?_ | refine w7_sheet_in (by assumption) ?_ | refine w7_sheet_out (by assumption) ?_ | refine w6_e1 ?_ | refine w6_e2 ?_ | refine w6_e3 ?_ | refine w6_e4 ?_ | refine w6_e5 ?_ | refine w6_e6 ?_ | refine w7_e1 ?_ | refine w7_e2 ?_ | refine w7_e3 ?_ | refine w7_e4 ?_ | refine w7_e5 ?_ | refine w7_e6 ?_)))
      exact ⟨vi (n := 4) (by omega) (by omega), fun c => absurd rfl c, fun _ => w7_e4 (hC _ _ _ _ _ _ _ h)⟩
  · (repeat (with_reducible (first | refine tA ?_ | refine tB ?_ | refine tC ?_ | refine tD ?_ | refine w6_one_in (by assumption) (by assumption) ?_ | refine w6_one_out (by assumption) (by assumption) ?_ | refine w7_one_in (by assumption) (by assumption) (by assumption) ?_ | refine w7_one_out (by assumption) (by assumption) (by assumption) ?_ | refine w6_two_in (by assumption) (by assumption) (by assumption) (by assumption) ?_ | refine w6_two_out (by assumption) (by assumption) ?_ | refine w7_two_in (by assumption) (by assumption) (by assumption) (by assumption) (by assumption) ?_ | refine w7_two_out (by assumption) (by assumption) (by assumption) ?_ | refine w6_sort_in (by assumption) ?_ | refine w6_sort_out (by assumption) ?_ | refine w7_sort_in (by assumption) ?_ | refine w7_sort_out (by assumption) ?_ | refine w6_km_in (by assumption) ?_ | refine w6_km_out (by assumption) ?_ | refine w7_kind_in (by assumption) ?_ | refine w7_kind_out (by assumption) ?_ | refine w6_sheet_in (by assumption) ?_ | refine w6_sheet_out (by assumption) ?_ | refine w7_sheet_in (by assumption) ?_ | refine w7_sheet_out (by assumption) ?_ | refine w6_e1 ?_ | refine w6_e2 ?_ | refine w6_e3 ?_ | refine w6_e4 ?_ | refine w6_e5 ?_ | refine w6_e6 ?_ | refine w7_e1 ?_ | refine w7_e2 ?_ | refine w7_e3 ?_ | refine w7_e4 ?_ | refine w7_e5 ?_ | refine w7_e6 ?_)))
    exact hC _ _ _ _ _ _ _ h
theorem op_child (h : WR P Y B w z km fa mo fr sp ow tp tn tq wt s) (x x2 x3 : Int32) (C : Int32 → Int32 → V → V → V → V → V → V → Int32 → V → V → Prop) (hC : ∀ r P' km' fa' mo' fr' sp' e' s', WR P' Y B w z km' fa' mo' fr' sp' ow tp tn tq wt s' → C r (nI P') km' fa' mo' fr' sp' e' r s' e') : wp_X6_child x x2 x3 (nI P) km fa mo fr sp e (fun r p' km' fa' mo' fr' sp' e' => wp_X7_child x x2 x3 s e (fun r' s' e'' => C r p' km' fa' mo' fr' sp' e' r' s' e'')) := by
  obtain ⟨⟨a1, a2, a3, a4⟩, ⟨b1, b2, b3, b4, b5⟩, c1, c2, c3, c4, c5, c6, c7, c8, c9⟩ := id h
  unfold wp_X6_child wp_X7_child
  rw [show ((4 : Int32).toNatClampNeg) = 4 from rfl, b1, show (8 : Int32) = nI 8 from rfl]
  rcases io x 70 (by omega) with ⟨n, hn, rfl⟩ | hx
  · rcases two_or x2 x3 a1 with ⟨f, m, hf, hm, hfm, rfl, rfl⟩ | hy
    · (repeat (with_reducible (first | refine tA ?_ | refine tB ?_ | refine tC ?_ | refine tD ?_ | refine w6_one_in (by assumption) (by assumption) ?_ | refine w6_one_out (by assumption) (by assumption) ?_ | refine w7_one_in (by assumption) (by assumption) (by assumption) ?_ | refine w7_one_out (by assumption) (by assumption) (by assumption) ?_ | refine w6_two_in (by assumption) (by assumption) (by assumption) (by assumption) ?_ | refine w6_two_out (by assumption) (by assumption) ?_ | refine w7_two_in (by assumption) (by assumption) (by assumption) (by assumption) (by assumption) ?_ | refine w7_two_out (by assumption) (by assumption) (by assumption) ?_ | refine w6_sort_in (by assumption) ?_ | refine w6_sort_out (by assumption) ?_ | refine w7_sort_in (by assumption) ?_ | refine w7_sort_out (by assumption) ?_ | refine w6_km_in (by assumption) ?_ | refine w6_km_out (by assumption) ?_ | refine w7_kind_in (by assumption) ?_ | refine w7_kind_out (by assumption) ?_ | refine w6_sheet_in (by assumption) ?_ | refine w6_sheet_out (by assumption) ?_ | refine w7_sheet_in (by assumption) ?_ | refine w7_sheet_out (by assumption) ?_ | refine w6_e1 ?_ | refine w6_e2 ?_ | refine w6_e3 ?_ | refine w6_e4 ?_ | refine w6_e5 ?_ | refine w6_e6 ?_ | refine w7_e1 ?_ | refine w7_e2 ?_ | refine w7_e3 ?_ | refine w7_e4 ?_ | refine w7_e5 ?_ | refine w7_e6 ?_)))
      rcases Nat.lt_or_ge P 8 with hP | hP
      · refine ⟨fun _ => ?_, fun c => absurd ((lt_n (by omega) (by omega)).mpr hP) c⟩
        unfold wp_X5_addChild
        refine w5_addOrphan hP ⟨vi hP (by omega), fun fa' ef => ⟨vi hP (by omega), fun mo' em => w5_withForebears (by omega) (w5_withForebears (by omega) ⟨vi hP (by omega), fun fr' er' => ?_⟩)⟩⟩
        rw [cl (by omega)] at ef em er'
        have efa : fa' = upd fa P (nI f) := by subst ef; funext i; by_cases g : i = P <;> simp [upd, g]
        have emo : mo' = upd mo P (nI m) := by subst em; funext i; by_cases g : i = P <;> simp [upd, g]
        subst efa; subst emo
        refine loop_0 (fun n i (t : V) => wp_X5_addChild_b44 _ n (nI f) (nI m) (nI P) (nI i) (nI (P + 1)) _ _ _ _ t) (fun i t => (∀ k, k < i → t (5 * P + k) = (sp (5 * f + k) + sp (5 * m + k)) / 2) ∧ ∀ j, (j < 5 * P ∨ 5 * P + i ≤ j) → t j = sp j) 5 sp ⟨fun k hk => by omega, fun j _ => rfl⟩ ?_ ?_
        · intro n1 t ⟨it1, it2⟩
          unfold wp_X5_addChild_b44
          refine ⟨fun _ => ?_, fun c => absurd (show (5 : Int32) ≤ nI 5 by decide) c⟩
          (repeat (with_reducible (first | refine tA ?_ | refine tB ?_ | refine tC ?_ | refine tD ?_ | refine w6_one_in (by assumption) (by assumption) ?_ | refine w6_one_out (by assumption) (by assumption) ?_ | refine w7_one_in (by assumption) (by assumption) (by assumption) ?_ | refine w7_one_out (by assumption) (by assumption) (by assumption) ?_ | refine w6_two_in (by assumption) (by assumption) (by assumption) (by assumption) ?_ | refine w6_two_out (by assumption) (by assumption) ?_ | refine w7_two_in (by assumption) (by assumption) (by assumption) (by assumption) (by assumption) ?_ | refine w7_two_out (by assumption) (by assumption) (by assumption) ?_ | refine w6_sort_in (by assumption) ?_ | refine w6_sort_out (by assumption) ?_ | refine w7_sort_in (by assumption) ?_ | refine w7_sort_out (by assumption) ?_ | refine w6_km_in (by assumption) ?_ | refine w6_km_out (by assumption) ?_ | refine w7_kind_in (by assumption) ?_ | refine w7_kind_out (by assumption) ?_ | refine w6_sheet_in (by assumption) ?_ | refine w6_sheet_out (by assumption) ?_ | refine w7_sheet_in (by assumption) ?_ | refine w7_sheet_out (by assumption) ?_ | refine w6_e1 ?_ | refine w6_e2 ?_ | refine w6_e3 ?_ | refine w6_e4 ?_ | refine w6_e5 ?_ | refine w6_e6 ?_ | refine w7_e1 ?_ | refine w7_e2 ?_ | refine w7_e3 ?_ | refine w7_e4 ?_ | refine w7_e5 ?_ | refine w7_e6 ?_)))
          refine ⟨vi (n := 4) (by omega) (by omega), fun _ => ?_, fun c => ?_⟩
          · refine w7_born hP hn b1 (fun k => (s (38 + 5 * f + k) + s (38 + 5 * m + k)) / 2) (Or.inr ⟨f, m, hf, hm, rfl, rfl, fun _ _ => rfl⟩) (fun s' hb => hC _ _ _ _ _ _ _ _ _ ?_)
            refine h.born hP hn hb (fun i hi => by rw [er', un hi]) (fun k hk => ?_) (fun i hi => it2 i (by omega)) (Or.inr ⟨f, m, hf, hm, hfm, rfl, rfl, by rw [er', us]⟩)
            obtain ⟨⟨v1, hv1, ev1⟩, sv1⟩ := c4 f k hf hk
            obtain ⟨⟨v2, hv2, ev2⟩, sv2⟩ := c4 m k hm hk
            refine ⟨by rw [it1 k hk, sv1, sv2], (v1 + v2) / 2, by omega, ?_⟩
            show (s (38 + 5 * f + k) + s (38 + 5 * m + k)) / 2 = _
            rw [sv1, sv2, ev1, ev2, ad, show (2 : Int32) = nI 2 from rfl, dv (by omega) (by omega) (by omega)]
          · rw [eq_n (by omega) (by omega)] at c; omega
        · intro n1 i t hi ⟨it1, it2⟩ ih
          unfold wp_X5_addChild_b44
          refine ⟨fun c => absurd c (nle (a := 5) hi (by omega)), fun _ => w6_cell (w5_poured (by omega) (by omega) hi ⟨(vi (by omega) (by omega)), fun t1 e1 => fun y ey => ?_⟩)⟩
          rw [ey, i1]
          rw [cl (by omega)] at e1
          refine ih _ ⟨fun k hk => ?_, fun j hj => ?_⟩
          · subst e1
            by_cases g : k = i
            · subst g
              rw [us, it2 _ (by omega), it2 _ (by omega)]
            · rw [un (by omega)]; exact it1 k (by omega)
          · subst e1
            rw [un (by omega)]; exact it2 j (by omega)
      · have e8 : P = 8 := by omega
        subst e8
        refine ⟨fun c => absurd c (nlt (by omega) (by omega)), fun _ => w6_e4 ?_⟩
        (repeat (with_reducible (first | refine tA ?_ | refine tB ?_ | refine tC ?_ | refine tD ?_ | refine w6_one_in (by assumption) (by assumption) ?_ | refine w6_one_out (by assumption) (by assumption) ?_ | refine w7_one_in (by assumption) (by assumption) (by assumption) ?_ | refine w7_one_out (by assumption) (by assumption) (by assumption) ?_ | refine w6_two_in (by assumption) (by assumption) (by assumption) (by assumption) ?_ | refine w6_two_out (by assumption) (by assumption) ?_ | refine w7_two_in (by assumption) (by assumption) (by assumption) (by assumption) (by assumption) ?_ | refine w7_two_out (by assumption) (by assumption) (by assumption) ?_ | refine w6_sort_in (by assumption) ?_ | refine w6_sort_out (by assumption) ?_ | refine w7_sort_in (by assumption) ?_ | refine w7_sort_out (by assumption) ?_ | refine w6_km_in (by assumption) ?_ | refine w6_km_out (by assumption) ?_ | refine w7_kind_in (by assumption) ?_ | refine w7_kind_out (by assumption) ?_ | refine w6_sheet_in (by assumption) ?_ | refine w6_sheet_out (by assumption) ?_ | refine w7_sheet_in (by assumption) ?_ | refine w7_sheet_out (by assumption) ?_ | refine w6_e1 ?_ | refine w6_e2 ?_ | refine w6_e3 ?_ | refine w6_e4 ?_ | refine w6_e5 ?_ | refine w6_e6 ?_ | refine w7_e1 ?_ | refine w7_e2 ?_ | refine w7_e3 ?_ | refine w7_e4 ?_ | refine w7_e5 ?_ | refine w7_e6 ?_)))
        exact ⟨vi (n := 4) (by omega) (by omega), fun c => absurd rfl c, fun _ => w7_e4 (hC _ _ _ _ _ _ _ _ _ h)⟩
    · (repeat (with_reducible (first | refine tA ?_ | refine tB ?_ | refine tC ?_ | refine tD ?_ | refine w6_one_in (by assumption) (by assumption) ?_ | refine w6_one_out (by assumption) (by assumption) ?_ | refine w7_one_in (by assumption) (by assumption) (by assumption) ?_ | refine w7_one_out (by assumption) (by assumption) (by assumption) ?_ | refine w6_two_in (by assumption) (by assumption) (by assumption) (by assumption) ?_ | refine w6_two_out (by assumption) (by assumption) ?_ | refine w7_two_in (by assumption) (by assumption) (by assumption) (by assumption) (by assumption) ?_ | refine w7_two_out (by assumption) (by assumption) (by assumption) ?_ | refine w6_sort_in (by assumption) ?_ | refine w6_sort_out (by assumption) ?_ | refine w7_sort_in (by assumption) ?_ | refine w7_sort_out (by assumption) ?_ | refine w6_km_in (by assumption) ?_ | refine w6_km_out (by assumption) ?_ | refine w7_kind_in (by assumption) ?_ | refine w7_kind_out (by assumption) ?_ | refine w6_sheet_in (by assumption) ?_ | refine w6_sheet_out (by assumption) ?_ | refine w7_sheet_in (by assumption) ?_ | refine w7_sheet_out (by assumption) ?_ | refine w6_e1 ?_ | refine w6_e2 ?_ | refine w6_e3 ?_ | refine w6_e4 ?_ | refine w6_e5 ?_ | refine w6_e6 ?_ | refine w7_e1 ?_ | refine w7_e2 ?_ | refine w7_e3 ?_ | refine w7_e4 ?_ | refine w7_e5 ?_ | refine w7_e6 ?_)))
      exact hC _ _ _ _ _ _ _ _ _ h
  · (repeat (with_reducible (first | refine tA ?_ | refine tB ?_ | refine tC ?_ | refine tD ?_ | refine w6_one_in (by assumption) (by assumption) ?_ | refine w6_one_out (by assumption) (by assumption) ?_ | refine w7_one_in (by assumption) (by assumption) (by assumption) ?_ | refine w7_one_out (by assumption) (by assumption) (by assumption) ?_ | refine w6_two_in (by assumption) (by assumption) (by assumption) (by assumption) ?_ | refine w6_two_out (by assumption) (by assumption) ?_ | refine w7_two_in (by assumption) (by assumption) (by assumption) (by assumption) (by assumption) ?_ | refine w7_two_out (by assumption) (by assumption) (by assumption) ?_ | refine w6_sort_in (by assumption) ?_ | refine w6_sort_out (by assumption) ?_ | refine w7_sort_in (by assumption) ?_ | refine w7_sort_out (by assumption) ?_ | refine w6_km_in (by assumption) ?_ | refine w6_km_out (by assumption) ?_ | refine w7_kind_in (by assumption) ?_ | refine w7_kind_out (by assumption) ?_ | refine w6_sheet_in (by assumption) ?_ | refine w6_sheet_out (by assumption) ?_ | refine w7_sheet_in (by assumption) ?_ | refine w7_sheet_out (by assumption) ?_ | refine w6_e1 ?_ | refine w6_e2 ?_ | refine w6_e3 ?_ | refine w6_e4 ?_ | refine w6_e5 ?_ | refine w6_e6 ?_ | refine w7_e1 ?_ | refine w7_e2 ?_ | refine w7_e3 ?_ | refine w7_e4 ?_ | refine w7_e5 ?_ | refine w7_e6 ?_)))
    exact hC _ _ _ _ _ _ _ _ _ h
end OPS
