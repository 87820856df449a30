/-! the relation between the class's world and the model's row -/
theorem tA {A B : Prop} (h : B) : ((¬ (0 : Int32) = 0) → A) ∧ ((0 : Int32) = 0 → B) := ⟨fun c => absurd rfl c, fun _ => h⟩
theorem tB {A B : Prop} (h : A) : ((0 : Int32) = 0 → A) ∧ (¬ (0 : Int32) = 0 → B) := ⟨fun _ => h, fun c => absurd rfl c⟩
theorem tC {A B : Prop} (h : A) : (¬ (1 : Int32) = 0 → A) ∧ ((1 : Int32) = 0 → B) := ⟨fun _ => h, fun c => absurd c (by decide)⟩
theorem tD {A B : Prop} (h : B) : ((1 : Int32) = 0 → A) ∧ (¬ (1 : Int32) = 0 → B) := ⟨fun c => absurd c (by decide), fun _ => h⟩
theorem w6_e1 {e : Nat → Int32} {Q : Int32 → (Nat → Int32) → Prop} (h : Q (er 1) (eu e 1)) : wp_X6_error (1 : Int32) e Q := w6_error (k := 1) (by omega) (by omega) h
theorem w6_e2 {e : Nat → Int32} {Q : Int32 → (Nat → Int32) → Prop} (h : Q (er 2) (eu e 2)) : wp_X6_error (2 : Int32) e Q := w6_error (k := 2) (by omega) (by omega) h
theorem w6_e3 {e : Nat → Int32} {Q : Int32 → (Nat → Int32) → Prop} (h : Q (er 3) (eu e 3)) : wp_X6_error (3 : Int32) e Q := w6_error (k := 3) (by omega) (by omega) h
theorem w6_e4 {e : Nat → Int32} {Q : Int32 → (Nat → Int32) → Prop} (h : Q (er 4) (eu e 4)) : wp_X6_error (4 : Int32) e Q := w6_error (k := 4) (by omega) (by omega) h
theorem w6_e5 {e : Nat → Int32} {Q : Int32 → (Nat → Int32) → Prop} (h : Q (er 5) (eu e 5)) : wp_X6_error (5 : Int32) e Q := w6_error (k := 5) (by omega) (by omega) h
theorem w6_e6 {e : Nat → Int32} {Q : Int32 → (Nat → Int32) → Prop} (h : Q (er 6) (eu e 6)) : wp_X6_error (6 : Int32) e Q := w6_error (k := 6) (by omega) (by omega) h
theorem w7_e1 {e : Nat → Int32} {Q : Int32 → (Nat → Int32) → Prop} (h : Q (er 1) (eu e 1)) : wp_X7_error (1 : Int32) e Q := w7_error (k := 1) (by omega) h
theorem w7_e2 {e : Nat → Int32} {Q : Int32 → (Nat → Int32) → Prop} (h : Q (er 2) (eu e 2)) : wp_X7_error (2 : Int32) e Q := w7_error (k := 2) (by omega) h
theorem w7_e3 {e : Nat → Int32} {Q : Int32 → (Nat → Int32) → Prop} (h : Q (er 3) (eu e 3)) : wp_X7_error (3 : Int32) e Q := w7_error (k := 3) (by omega) h
theorem w7_e4 {e : Nat → Int32} {Q : Int32 → (Nat → Int32) → Prop} (h : Q (er 4) (eu e 4)) : wp_X7_error (4 : Int32) e Q := w7_error (k := 4) (by omega) h
theorem w7_e5 {e : Nat → Int32} {Q : Int32 → (Nat → Int32) → Prop} (h : Q (er 5) (eu e 5)) : wp_X7_error (5 : Int32) e Q := w7_error (k := 5) (by omega) h
theorem w7_e6 {e : Nat → Int32} {Q : Int32 → (Nat → Int32) → Prop} (h : Q (er 6) (eu e 6)) : wp_X7_error (6 : Int32) e Q := w7_error (k := 6) (by omega) h
abbrev V : Type := Nat → Int32
def Rk (P : Nat) (km s : V) : Prop := ∀ p, p < P → ∃ K m : Nat, K < 7 ∧ m < 10 ∧ km p = nI (10 * K + m) ∧ s (6 + 4 * p + 0) = nI K ∧ s (6 + 4 * p + 1) = nI m
/-- parents: none, or two elder ones; whom one is from, as the class keeps it -/
def Pn (fa mo fr s : V) (p : Nat) : Prop := fa p = -1 ∧ mo p = -1 ∧ s (6 + 4 * p + 2) = -1 ∧ s (6 + 4 * p + 3) = -1 ∧ fr p = 0
def Pt2 (fa mo fr s : V) (p : Nat) : Prop := ∃ f m : Nat, f < p ∧ m < p ∧ f ≠ m ∧ fa p = nI f ∧ mo p = nI m ∧ s (6 + 4 * p + 2) = nI f ∧ s (6 + 4 * p + 3) = nI m ∧ fr p = (fr f ||| ((1 : Int32) <<< (nI f &&& 31))) ||| (fr m ||| ((1 : Int32) <<< (nI m &&& 31)))
def Rp (P : Nat) (fa mo fr s : V) : Prop := ∀ p, p < P → Pn fa mo fr s p ∨ Pt2 fa mo fr s p
def R0 (P : Nat) (fr sp ow : V) : Prop := ∀ p, P ≤ p → p < 8 → fr p = 0 ∧ (∀ k, k < 5 → sp (5 * p + k) = 0) ∧ ∀ o, o < 8 → ow (8 * p + o) = 0 ∧ ow (8 * o + p) = 0
def Rs (P : Nat) (sp s : V) : Prop := ∀ p k, p < P → k < 5 → Bd 99 (sp (5 * p + k)) ∧ s (38 + 5 * p + k) = sp (5 * p + k)
def Ro (P : Nat) (ow s : V) : Prop := ∀ a b, a < P → b < P → Bd 999 (ow (8 * a + b)) ∧ s (78 + 8 * a + b) = ow (8 * a + b)
def Rt (tp s : V) : Prop := ∀ i, i < 60 → Bd 255 (tp i) ∧ s (392 + i) = tp i
def Rw (wt s : V) : Prop := ∀ i, i < 24 → s (452 + i) = wt i
/-- a part of a text and a step of it -/
def isOp (c : Nat) : Prop := c = 124 ∨ c = 38 ∨ c = 60 ∨ c = 61 ∨ c = 62 ∨ c = 43 ∨ c = 45 ∨ c = 42 ∨ c = 47 ∨ c = 37
def TK (u : Nat) (t a b : Int32) : Prop :=
  (∃ v : Nat, v ≤ 9999 ∧ t = nI v ∧ a = nI 0 ∧ b = nI v) ∨ (∃ j : Nat, j < 3 ∧ t = -nI (j + 1) ∧ a = nI 1 ∧ b = cNa (nI (3 * u + j))) ∨ (t = -nI 33 ∧ a = nI 2) ∨ (∃ c : Nat, isOp c ∧ t = -nI c ∧ a = nI 3 ∧ b = nI c)
/-- how high the pile stands ahead of part i -/
def dp (q : V) : Nat → Int
  | 0 => 0
  | i + 1 => dp q i + (if (-3 : Int32) ≤ q i then 1 else if q i = -33 then 0 else -1)
def WF (q : V) (N : Nat) : Prop := (∀ i, i < N → ¬ (-3 : Int32) ≤ q i → (q i = -33 → 1 ≤ dp q i) ∧ (¬ q i = -33 → 2 ≤ dp q i)) ∧ (0 < N → 1 ≤ dp q N)
def Rx (u : Nat) (n : Int32) (q s : V) : Prop := ∃ N : Nat, N ≤ 60 ∧ n = nI N ∧ s (142 + 125 * u) = nI N ∧ (∀ i, i < N → TK u (q i) (s (143 + 125 * u + 2 * i)) (s (144 + 125 * u + 2 * i))) ∧ WF q N
def WR (P Y B w : Nat) (z : Int32) (km fa mo fr sp ow tp tn : V) (tq : Nat → V) (wt s : V) : Prop :=
  (P ≤ 8 ∧ Y ≤ 999 ∧ B ≤ 60 ∧ w ≤ 24) ∧ (s 4 = nI P ∧ s 0 = nI Y ∧ s 2 = nI B ∧ s 3 = nI w ∧ s 1 = z) ∧ Rk P km s ∧ Rp P fa mo fr s ∧ R0 P fr sp ow ∧ Rs P sp s ∧ Ro P ow s ∧ Rt tp s ∧ Rw wt s ∧ Rx 0 (tn 0) (tq 0) s ∧ Rx 1 (tn 1) (tq 1) s
/-! frames: a row that is the same in a part's places keeps the part -/
theorem Rk.fr {P : Nat} {km s s' : V} (hP : P ≤ 8) (h : Rk P km s) (e : ∀ i, 6 ≤ i → i < 38 → s' i = s i) : Rk P km s' := fun p hp => by
  obtain ⟨K, m, h1, h2, h3, h4, h5⟩ := h p hp
  exact ⟨K, m, h1, h2, h3, by rw [e _ (by omega) (by omega)]; exact h4, by rw [e _ (by omega) (by omega)]; exact h5⟩
theorem Rp.fr {P : Nat} {fa mo fr s s' : V} (hP : P ≤ 8) (h : Rp P fa mo fr s) (e : ∀ i, 6 ≤ i → i < 38 → s' i = s i) : Rp P fa mo fr s' := fun p hp => by
  rcases h p hp with ⟨h1, h2, h3, h4, h5⟩ | ⟨f, m, h1, h2, h3, h4, h5, h6, h7, h8⟩
  · exact Or.inl ⟨h1, h2, by rw [e _ (by omega) (by omega)]; exact h3, by rw [e _ (by omega) (by omega)]; exact h4, h5⟩
  · exact Or.inr ⟨f, m, h1, h2, h3, h4, h5, by rw [e _ (by omega) (by omega)]; exact h6, by rw [e _ (by omega) (by omega)]; exact h7, h8⟩
theorem Rs.fr {P : Nat} {sp s s' : V} (hP : P ≤ 8) (h : Rs P sp s) (e : ∀ i, 38 ≤ i → i < 78 → s' i = s i) : Rs P sp s' := fun p k hp hk => ⟨(h p k hp hk).1, by rw [e _ (by omega) (by omega)]; exact (h p k hp hk).2⟩
theorem Ro.fr {P : Nat} {ow s s' : V} (hP : P ≤ 8) (h : Ro P ow s) (e : ∀ i, 78 ≤ i → i < 142 → s' i = s i) : Ro P ow s' := fun a b ha hb => ⟨(h a b ha hb).1, by rw [e _ (by omega) (by omega)]; exact (h a b ha hb).2⟩
theorem Rt.fr {tp s s' : V} (h : Rt tp s) (e : ∀ i, 392 ≤ i → i < 452 → s' i = s i) : Rt tp s' := fun i hi => ⟨(h i hi).1, by rw [e _ (by omega) (by omega)]; exact (h i hi).2⟩
theorem Rw.fr {wt s s' : V} (h : Rw wt s) (e : ∀ i, 452 ≤ i → i < 476 → s' i = s i) : Rw wt s' := fun i hi => by rw [e _ (by omega) (by omega)]; exact h i hi
theorem Rx.fr {u : Nat} (hu : u < 2) {n : Int32} {q s s' : V} (h : Rx u n q s) (e : ∀ i, 142 + 125 * u ≤ i → i < 267 + 125 * u → s' i = s i) : Rx u n q s' := by
  obtain ⟨N, h1, h2, h3, h4, h5⟩ := h
  exact ⟨N, h1, h2, by rw [e _ (by omega) (by omega)]; exact h3, fun i hi => by rw [e _ (by omega) (by omega), e _ (by omega) (by omega)]; exact h4 i hi, h5⟩
/-- the same row but for some places: which parts are kept -/
theorem WR.low {P Y B w P' Y' B' w' : Nat} {z z' : Int32} {km fa mo fr sp ow tp tn : V} {tq : Nat → V} {wt s s' : V} (h : WR P Y B w z km fa mo fr sp ow tp tn tq wt s) (eP : P' = P) (hb : Y' ≤ 999 ∧ B' ≤ 60 ∧ w' ≤ 24) (h0 : s' 4 = nI P ∧ s' 0 = nI Y' ∧ s' 2 = nI B' ∧ s' 3 = nI w' ∧ s' 1 = z') (e : ∀ i, 6 ≤ i → i < 476 → s' i = s i) : WR P' Y' B' w' z' km fa mo fr sp ow tp tn tq wt s' := by
  subst eP
  obtain ⟨⟨a1, a2, a3, a4⟩, b, c1, c2, c3, c4, c5, c6, c7, c8, c9⟩ := h
  exact ⟨⟨a1, hb⟩, h0, c1.fr a1 (fun i h1 h2 => e i h1 (by omega)), c2.fr a1 (fun i h1 h2 => e i h1 (by omega)), c3, c4.fr a1 (fun i h1 h2 => e i (by omega) (by omega)), c5.fr a1 (fun i h1 h2 => e i (by omega) (by omega)), c6.fr (fun i h1 h2 => e i (by omega) (by omega)), c7.fr (fun i h1 h2 => e i (by omega) (by omega)), c8.fr (by omega) (fun i h1 h2 => e i (by omega) (by omega)), c9.fr (by omega) (fun i h1 h2 => e i (by omega) (by omega))⟩
theorem us {f : V} {i : Nat} {v : Int32} : upd f i v i = v := pk_us
theorem un {f : V} {i j : Nat} {v : Int32} (h : j ≠ i) : upd f i v j = f j := pk_un h
section OPS
variable {P Y B w : Nat} {z : Int32} {km fa mo fr sp ow tp tn : V} {tq : Nat → V} {wt s e : V}
theorem op_year (h : WR P Y B w z km fa mo fr sp ow tp tn tq wt s) (x : Int32) (C : Int32 → Int32 → V → Int32 → V → V → Prop) (hC : ∀ r Y' e' s', WR P Y' B w z km fa mo fr sp ow tp tn tq wt s' → C r (nI Y') e' r s' e') : wp_X6_year x (nI Y) e (fun r y' e' => wp_X7_year x s e (fun r' s' e'' => C r y' e' r' s' e'')) := by
  obtain ⟨⟨a1, a2, a3, a4⟩, ⟨b1, b2, b3, b4, b5⟩, -⟩ := id h
  unfold wp_X6_year wp_X7_year
  rcases io x 1000 (by omega) with ⟨v, hv, rfl⟩ | ho
  · refine w6_within_in (lo := 0) (hi := 999) (by omega) (by omega) (by omega) (tB (w7_in_in (lo := 0) (hi := 999) (by omega) (by omega) (by omega) (tD ?_)))
    refine w7_change1 (i := 0) (by omega) ?_
    rw [b2]
    exact hC _ _ _ _ (h.low rfl ⟨by omega, a3, a4⟩ ⟨by rw [un (by omega)]; exact b1, us, by rw [un (by omega)]; exact b3, by rw [un (by omega)]; exact b4, by rw [un (by omega)]; exact b5⟩ (fun i h1 h2 => un (by omega)))
  · refine w6_within_out (hi := 999) (by omega) ho (tD (w6_e1 (w7_in_out (hi := 999) (by omega) ho (tB (w7_e1 ?_)))))
    exact hC _ _ _ _ h
theorem op_seed (h : WR P Y B w z km fa mo fr sp ow tp tn tq wt s) (x : Int32) (C : Int32 → Int32 → Int32 → V → Prop) (hC : ∀ r z' s', WR P Y B w z' km fa mo fr sp ow tp tn tq wt s' → C r z' r s') : wp_X6_seed x z (fun r z' => wp_X7_seed x s (fun r' s' => C r z' r' s')) := by
  obtain ⟨⟨a1, a2, a3, a4⟩, ⟨b1, b2, b3, b4, b5⟩, -⟩ := id h
  unfold wp_X6_seed wp_X7_seed
  refine w7_change1 (i := 1) (by omega) ?_
  rw [b5]
  exact hC _ _ _ (h.low rfl ⟨a2, a3, a4⟩ ⟨by rw [un (by omega)]; exact b1, by rw [un (by omega)]; exact b2, by rw [un (by omega)]; exact b3, by rw [un (by omega)]; exact b4, us⟩ (fun i h1 h2 => un (by omega)))
theorem op_hold (h : WR P Y B w z km fa mo fr sp ow tp tn tq wt s) (x1 x2 : Int32) (C : Int32 → V → Int32 → V → Prop) (hC : ∀ r e', C r e' r e') : wp_X6_hold x1 x2 (nI P) sp e (fun r e' => wp_X7_hold x1 x2 s e (fun r' e'' => C r e' r' e'')) := by
  obtain ⟨⟨a1, a2, a3, a4⟩, ⟨b1, b2, b3, b4, b5⟩, c1, c2, c3, c4, c5, c6, c7, c8, c9⟩ := id h
  unfold wp_X6_hold wp_X7_hold
  rcases io x1 P (by omega) with ⟨p, hp, rfl⟩ | hx
  · rcases io x2 5 (by omega) with ⟨k, hk, rfl⟩ | hy
    · (repeat (with_reducible (first | refine tA ?_ | refine tB ?_ | refine tC ?_ | refine tD ?_ | refine w6_one_in (by assumption) (by assumption) ?_ | refine w6_one_out (by assumption) (by assumption) ?_ | refine w7_one_in (by assumption) (by assumption) (by assumption) ?_ | refine w7_one_out (by assumption) (by assumption) (by assumption) ?_ | refine w6_two_in (by assumption) (by assumption) (by assumption) (by assumption) ?_ | refine w6_two_out (by assumption) (by assumption) ?_ | refine w7_two_in (by assumption) (by assumption) (by assumption) (by assumption) (by assumption) ?_ | refine w7_two_out (by assumption) (by assumption) (by assumption) ?_ | refine w6_sort_in (by assumption) ?_ | refine w6_sort_out (by assumption) ?_ | refine w7_sort_in (by assumption) ?_ | refine w7_sort_out (by assumption) ?_ | refine w6_km_in (by assumption) ?_ | refine w6_km_out (by assumption) ?_ | refine w7_kind_in (by assumption) ?_ | refine w7_kind_out (by assumption) ?_ | refine w6_sheet_in (by assumption) ?_ | refine w6_sheet_out (by assumption) ?_ | refine w7_sheet_in (by assumption) ?_ | refine w7_sheet_out (by assumption) ?_ | refine w6_e1 ?_ | refine w6_e2 ?_ | refine w6_e3 ?_ | refine w6_e4 ?_ | refine w6_e5 ?_ | refine w6_e6 ?_ | refine w7_e1 ?_ | refine w7_e2 ?_ | refine w7_e3 ?_ | refine w7_e4 ?_ | refine w7_e5 ?_ | refine w7_e6 ?_)))
      refine w6_cell ⟨(vi (by omega) (by omega)), ?_⟩
      (repeat (with_reducible (first | refine tA ?_ | refine tB ?_ | refine tC ?_ | refine tD ?_ | refine w6_one_in (by assumption) (by assumption) ?_ | refine w6_one_out (by assumption) (by assumption) ?_ | refine w7_one_in (by assumption) (by assumption) (by assumption) ?_ | refine w7_one_out (by assumption) (by assumption) (by assumption) ?_ | refine w6_two_in (by assumption) (by assumption) (by assumption) (by assumption) ?_ | refine w6_two_out (by assumption) (by assumption) ?_ | refine w7_two_in (by assumption) (by assumption) (by assumption) (by assumption) (by assumption) ?_ | refine w7_two_out (by assumption) (by assumption) (by assumption) ?_ | refine w6_sort_in (by assumption) ?_ | refine w6_sort_out (by assumption) ?_ | refine w7_sort_in (by assumption) ?_ | refine w7_sort_out (by assumption) ?_ | refine w6_km_in (by assumption) ?_ | refine w6_km_out (by assumption) ?_ | refine w7_kind_in (by assumption) ?_ | refine w7_kind_out (by assumption) ?_ | refine w6_sheet_in (by assumption) ?_ | refine w6_sheet_out (by assumption) ?_ | refine w7_sheet_in (by assumption) ?_ | refine w7_sheet_out (by assumption) ?_ | refine w6_e1 ?_ | refine w6_e2 ?_ | refine w6_e3 ?_ | refine w6_e4 ?_ | refine w6_e5 ?_ | refine w6_e6 ?_ | refine w7_e1 ?_ | refine w7_e2 ?_ | refine w7_e3 ?_ | refine w7_e4 ?_ | refine w7_e5 ?_ | refine w7_e6 ?_)))
      refine w7_has (by omega) hk ?_
      rw [cl (by omega), (c4 p k hp hk).2]
      exact hC _ _
    · (repeat (with_reducible (first | refine tA ?_ | refine tB ?_ | refine tC ?_ | refine tD ?_ | refine w6_one_in (by assumption) (by assumption) ?_ | refine w6_one_out (by assumption) (by assumption) ?_ | refine w7_one_in (by assumption) (by assumption) (by assumption) ?_ | refine w7_one_out (by assumption) (by assumption) (by assumption) ?_ | refine w6_two_in (by assumption) (by assumption) (by assumption) (by assumption) ?_ | refine w6_two_out (by assumption) (by assumption) ?_ | refine w7_two_in (by assumption) (by assumption) (by assumption) (by assumption) (by assumption) ?_ | refine w7_two_out (by assumption) (by assumption) (by assumption) ?_ | refine w6_sort_in (by assumption) ?_ | refine w6_sort_out (by assumption) ?_ | refine w7_sort_in (by assumption) ?_ | refine w7_sort_out (by assumption) ?_ | refine w6_km_in (by assumption) ?_ | refine w6_km_out (by assumption) ?_ | refine w7_kind_in (by assumption) ?_ | refine w7_kind_out (by assumption) ?_ | refine w6_sheet_in (by assumption) ?_ | refine w6_sheet_out (by assumption) ?_ | refine w7_sheet_in (by assumption) ?_ | refine w7_sheet_out (by assumption) ?_ | refine w6_e1 ?_ | refine w6_e2 ?_ | refine w6_e3 ?_ | refine w6_e4 ?_ | refine w6_e5 ?_ | refine w6_e6 ?_ | refine w7_e1 ?_ | refine w7_e2 ?_ | refine w7_e3 ?_ | refine w7_e4 ?_ | refine w7_e5 ?_ | refine w7_e6 ?_)))
      exact hC _ _
  · (repeat (with_reducible (first | refine tA ?_ | refine tB ?_ | refine tC ?_ | refine tD ?_ | refine w6_one_in (by assumption) (by assumption) ?_ | refine w6_one_out (by assumption) (by assumption) ?_ | refine w7_one_in (by assumption) (by assumption) (by assumption) ?_ | refine w7_one_out (by assumption) (by assumption) (by assumption) ?_ | refine w6_two_in (by assumption) (by assumption) (by assumption) (by assumption) ?_ | refine w6_two_out (by assumption) (by assumption) ?_ | refine w7_two_in (by assumption) (by assumption) (by assumption) (by assumption) (by assumption) ?_ | refine w7_two_out (by assumption) (by assumption) (by assumption) ?_ | refine w6_sort_in (by assumption) ?_ | refine w6_sort_out (by assumption) ?_ | refine w7_sort_in (by assumption) ?_ | refine w7_sort_out (by assumption) ?_ | refine w6_km_in (by assumption) ?_ | refine w6_km_out (by assumption) ?_ | refine w7_kind_in (by assumption) ?_ | refine w7_kind_out (by assumption) ?_ | refine w6_sheet_in (by assumption) ?_ | refine w6_sheet_out (by assumption) ?_ | refine w7_sheet_in (by assumption) ?_ | refine w7_sheet_out (by assumption) ?_ | refine w6_e1 ?_ | refine w6_e2 ?_ | refine w6_e3 ?_ | refine w6_e4 ?_ | refine w6_e5 ?_ | refine w6_e6 ?_ | refine w7_e1 ?_ | refine w7_e2 ?_ | refine w7_e3 ?_ | refine w7_e4 ?_ | refine w7_e5 ?_ | refine w7_e6 ?_)))
    exact hC _ _
end OPS
