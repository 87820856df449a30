/-! PURE PART. Numbers: nI n for naturals; an argument is in a range (nI of it) or out. -/
theorem li (n : Nat) : (OfNat.ofNat n : Int32) = nI n := rfl
theorem l0 : (0 : Int32) = nI 0 := rfl
theorem l1 : (1 : Int32) = nI 1 := rfl
theorem ti {n : Nat} (h : n < 2147483648) : (nI n).toInt = (n : Int) := nI_toInt h
theorem cl {n : Nat} (h : n < 2147483648) : (nI n).toNatClampNeg = n := nI_clamp h
theorem vi {n N : Nat} (h : n < N) (hN : N < 2147483648) : vp_in (nI n) N := vp_in_nI h hN
theorem le_n {a b : Nat} (ha : a < 2147483648) (hb : b < 2147483648) : nI a ≤ nI b ↔ a ≤ b := nI_leI ha hb
theorem lt_n {a b : Nat} (ha : a < 2147483648) (hb : b < 2147483648) : nI a < nI b ↔ a < b := nI_ltI ha hb
theorem eq_n {a b : Nat} (ha : a < 2147483648) (hb : b < 2147483648) : nI a = nI b ↔ a = b := nI_eq ha hb
/-- x is not one of 0 .. n-1 -/
def Out (x : Int32) (n : Nat) : Prop := x < 0 ∨ nI n ≤ x
theorem io (x : Int32) (n : Nat) (hn : n < 2147483648) : (∃ j : Nat, j < n ∧ x = nI j) ∨ Out x n := by
  rcases pk_ix x (n := n) hn with h | h | h
  · exact Or.inr (Or.inl h)
  · exact Or.inr (Or.inr h)
  · exact Or.inl h
theorem il (x y : Int32) : x < y ↔ x.toInt < y.toInt := Int32.lt_iff_toInt_lt
theorem ie (x y : Int32) : x ≤ y ↔ x.toInt ≤ y.toInt := Int32.le_iff_toInt_le
theorem iq (x y : Int32) : x = y ↔ x.toInt = y.toInt := Int32.toInt_inj.symm
theorem ad {a b : Nat} : nI a + nI b = nI (a + b) := nI_add a b
theorem ml {a b : Nat} : nI a * nI b = nI (a * b) := pk_mul a b
theorem sb {a b : Nat} (h : b ≤ a) : nI a - nI b = nI (a - b) := pk_sub h
/-! the class's small questions -/
theorem w6_notWithin {v lo hi : Int32} {Q : Int32 → Prop} (h1 : ¬ (v < lo ∨ hi < v) → Q 0) (h2 : (v < lo ∨ hi < v) → Q 1) : wp_X6_notWithin v lo hi Q := by
  unfold wp_X6_notWithin
  refine ⟨fun c => h2 (Or.inl c), fun c => ⟨fun c2 => h1 ?_, fun c2 => h2 (Or.inr ?_)⟩⟩
  · rintro (q | q)
    · exact c q
    · rw [il] at q; rw [ie] at c2; omega
  · rw [il]; rw [ie] at c2; omega
theorem w6_within_in {n lo hi : Nat} (h1 : lo ≤ n) (h2 : n ≤ hi) (hh : hi < 2147483648) {Q : Int32 → Prop} (h : Q 0) : wp_X6_notWithin (nI n) (nI lo) (nI hi) Q := by
  refine w6_notWithin (fun _ => h) (fun c => ?_)
  rw [lt_n (by omega) (by omega), lt_n (by omega) (by omega)] at c
  omega
theorem w6_within_out {x : Int32} {hi : Nat} (hh : hi + 1 < 2147483648) (ho : Out x (hi + 1)) {Q : Int32 → Prop} (h : Q 1) : wp_X6_notWithin x (nI 0) (nI hi) Q := by
  refine w6_notWithin (fun c => absurd ?_ c) (fun _ => h)
  rcases ho with q | q
  · exact Or.inl q
  · right
    rw [ie, ti (by omega)] at q
    rw [il, ti (by omega)]
    omega
theorem w6_km_in {n : Nat} (hn : n < 70) {Q : Int32 → Prop} (h : Q 0) : wp_X6_notKm (nI n) Q := by
  unfold wp_X6_notKm
  exact w6_within_in (lo := 0) (hi := 69) (by omega) (by omega) (by omega) ⟨bz_0, h⟩
theorem w6_km_out {x : Int32} (ho : Out x 70) {Q : Int32 → Prop} (h : Q 1) : wp_X6_notKm x Q := by
  unfold wp_X6_notKm
  exact w6_within_out (hi := 69) (by omega) ho ⟨bz_1, h⟩
theorem w6_sort_in {n : Nat} (hn : n < 5) {Q : Int32 → Prop} (h : Q 0) : wp_X6_notSort (nI n) Q := by
  unfold wp_X6_notSort
  exact w6_within_in (lo := 0) (hi := 4) (by omega) (by omega) (by omega) ⟨bz_0, h⟩
theorem w6_sort_out {x : Int32} (ho : Out x 5) {Q : Int32 → Prop} (h : Q 1) : wp_X6_notSort x Q := by
  unfold wp_X6_notSort
  exact w6_within_out (hi := 4) (by omega) ho ⟨bz_1, h⟩
theorem w6_sheet_in {n : Nat} (hn : n < 4) {Q : Int32 → Prop} (h : Q 0) : wp_X6_notSheet (nI n) Q := by
  unfold wp_X6_notSheet
  exact w6_within_in (lo := 0) (hi := 3) (by omega) (by omega) (by omega) ⟨bz_0, h⟩
theorem w6_sheet_out {x : Int32} (ho : Out x 4) {Q : Int32 → Prop} (h : Q 1) : wp_X6_notSheet x Q := by
  unfold wp_X6_notSheet
  exact w6_within_out (hi := 3) (by omega) ho ⟨bz_1, h⟩
theorem w6_one_in {p P : Nat} (hp : p < P) (hP : P ≤ 8) {Q : Int32 → Prop} (h : Q 0) : wp_X6_notOne (nI p) (nI P) Q := by
  unfold wp_X6_notOne
  refine ⟨fun c => ?_, fun _ => ⟨fun _ => h, fun c => ?_⟩⟩
  · rw [l0, lt_n (by omega) (by omega)] at c; omega
  · rw [lt_n (by omega) (by omega)] at c; omega
theorem w6_one_out {x : Int32} {P : Nat} (hP : P ≤ 8) (ho : Out x P) {Q : Int32 → Prop} (h : Q 1) : wp_X6_notOne x (nI P) Q := by
  unfold wp_X6_notOne
  refine ⟨fun _ => h, fun c => ⟨fun c2 => ?_, fun _ => h⟩⟩
  rcases ho with q | q
  · exact absurd q c
  · rw [ie] at q; rw [il] at c2; omega
/-- two others, both of the people -/
def Two (x y : Int32) (P : Nat) (a b : Nat) : Prop := a < P ∧ b < P ∧ a ≠ b ∧ x = nI a ∧ y = nI b
def NotTwo (x y : Int32) (P : Nat) : Prop := Out x P ∨ Out y P ∨ x = y
theorem two_or (x y : Int32) {P : Nat} (hP : P ≤ 8) : (∃ a b, Two x y P a b) ∨ NotTwo x y P := by
  rcases io x P (by omega) with ⟨a, ha, rfl⟩ | h
  · rcases io y P (by omega) with ⟨b, hb, rfl⟩ | h
    · by_cases e : a = b
      · subst e; exact Or.inr (Or.inr (Or.inr rfl))
      · exact Or.inl ⟨a, b, ha, hb, e, rfl, rfl⟩
    · exact Or.inr (Or.inr (Or.inl h))
  · exact Or.inr (Or.inl h)
theorem w6_two_in {a b P : Nat} (ha : a < P) (hb : b < P) (hab : a ≠ b) (hP : P ≤ 8) {Q : Int32 → Prop} (h : Q 0) : wp_X6_notTwo (nI a) (nI b) (nI P) Q := by
  unfold wp_X6_notTwo
  refine w6_one_in ha hP ⟨fun c => absurd rfl c, fun _ => w6_one_in hb hP ⟨fun c => absurd rfl c, fun _ => ⟨fun _ => h, fun c => ?_⟩⟩⟩
  rw [eq_n (by omega) (by omega)] at c; exact absurd c hab
theorem w6_two_out {x y : Int32} {P : Nat} (hP : P ≤ 8) (ho : NotTwo x y P) {Q : Int32 → Prop} (h : Q 1) : wp_X6_notTwo x y (nI P) Q := by
  unfold wp_X6_notTwo
  rcases io x P (by omega) with ⟨a, ha, rfl⟩ | hx
  · refine w6_one_in ha hP ⟨fun _ => h, fun _ => ?_⟩
    rcases io y P (by omega) with ⟨b, hb, rfl⟩ | hy
    · refine w6_one_in hb hP ⟨fun _ => h, fun _ => ⟨fun c => ?_, fun _ => h⟩⟩
      rcases ho with q | q | q
      · rcases q with q | q
        · rw [l0, lt_n (by omega) (by omega)] at q; omega
        · rw [le_n (by omega) (by omega)] at q; omega
      · rcases q with q | q
        · rw [l0, lt_n (by omega) (by omega)] at q; omega
        · rw [le_n (by omega) (by omega)] at q; omega
      · exact absurd q c
    · exact w6_one_out hP hy ⟨fun _ => h, fun c => absurd c (by decide)⟩
  · exact w6_one_out hP hx ⟨fun _ => h, fun c => absurd c (by decide)⟩
theorem w6_cell {p k : Nat} {Q : Int32 → Prop} (h : Q (nI (5 * p + k))) : wp_X6_cell (nI p) (nI k) Q := by
  unfold wp_X6_cell
  rw [show (5 : Int32) = nI 5 from rfl, ml, ad, Nat.mul_comm p 5]
  exact h
theorem w6_pair {p k : Nat} {Q : Int32 → Prop} (h : Q (nI (8 * p + k))) : wp_X6_pair (nI p) (nI k) Q := by
  unfold wp_X6_pair
  rw [show (8 : Int32) = nI 8 from rfl, ml, ad, Nat.mul_comm p 8]
  exact h
theorem w6_truth {x : Int32} {Q : Int32 → Prop} (h : Q (if x = 0 then 0 else 1)) : wp_X6_truth x Q := by
  unfold wp_X6_truth
  refine ⟨fun c => ?_, fun c => ?_⟩
  · rw [if_pos c] at h; exact h
  · rw [if_neg c] at h; exact h
/-- the acts' errors: both sides count alike -/
def er (k : Nat) : Int32 := (-1000000000 : Int32) - nI k
def eu (e : Nat → Int32) (k : Nat) : Nat → Int32 := upd e k (e k + 1)
theorem w6_error {k : Nat} (h1 : 1 ≤ k) (hk : k ≤ 6) {e : Nat → Int32} {Q : Int32 → (Nat → Int32) → Prop} (h : Q (er k) (eu e k)) : wp_X6_error (nI k) e Q := by
  unfold wp_X6_error
  refine ⟨fun c => ?_, fun _ => ⟨fun c => ?_, fun _ => ⟨vi (by omega) (by omega), vi (by omega) (by omega), fun e' he => ?_⟩⟩⟩
  · rw [l0, lt_n (by omega) (by omega)] at c; omega
  · rw [show (7 : Int32) = nI 7 from rfl, le_n (by omega) (by omega)] at c; omega
  · subst he; rw [cl (by omega)]; exact h
theorem w7_error {k : Nat} (hk : k ≤ 6) {e : Nat → Int32} {Q : Int32 → (Nat → Int32) → Prop} (h : Q (er k) (eu e k)) : wp_X7_error (nI k) e Q := by
  unfold wp_X7_error
  refine ⟨vi (by omega) (by omega), vi (by omega) (by omega), fun e' he => ?_⟩
  subst he; rw [cl (by omega)]; exact h
/-! the model's small questions -/
theorem w7_in {v lo hi : Int32} {Q : Int32 → Prop} (h1 : ¬ (v < lo ∨ hi < v) → Q 1) (h2 : (v < lo ∨ hi < v) → Q 0) : wp_X7_in v lo hi Q := by
  unfold wp_X7_in
  exact ⟨fun c => h2 (Or.inl c), fun c => ⟨fun c2 => h2 (Or.inr c2), fun c2 => h1 (fun q => q.elim c c2)⟩⟩
theorem w7_in_in {n lo hi : Nat} (h1 : lo ≤ n) (h2 : n ≤ hi) (hh : hi < 2147483648) {Q : Int32 → Prop} (h : Q 1) : wp_X7_in (nI n) (nI lo) (nI hi) Q := by
  refine w7_in (fun _ => h) (fun c => ?_)
  rw [lt_n (by omega) (by omega), lt_n (by omega) (by omega)] at c
  omega
theorem w7_in_out {x : Int32} {hi : Nat} (hh : hi + 1 < 2147483648) (ho : Out x (hi + 1)) {Q : Int32 → Prop} (h : Q 0) : wp_X7_in x (nI 0) (nI hi) Q := by
  refine w7_in (fun c => absurd ?_ c) (fun _ => h)
  rcases ho with q | q
  · exact Or.inl q
  · right
    rw [ie, ti (by omega)] at q
    rw [il, ti (by omega)]
    omega
theorem w7_kind_in {n : Nat} (hn : n < 70) {Q : Int32 → Prop} (h : Q 1) : wp_X7_isKind (nI n) Q := by
  unfold wp_X7_isKind
  exact w7_in_in (lo := 0) (hi := 69) (by omega) (by omega) (by omega) ⟨bz_1, h⟩
theorem w7_kind_out {x : Int32} (ho : Out x 70) {Q : Int32 → Prop} (h : Q 0) : wp_X7_isKind x Q := by
  unfold wp_X7_isKind
  exact w7_in_out (hi := 69) (by omega) ho ⟨bz_0, h⟩
theorem w7_sort_in {n : Nat} (hn : n < 5) {Q : Int32 → Prop} (h : Q 1) : wp_X7_isSort (nI n) Q := by
  unfold wp_X7_isSort
  exact w7_in_in (lo := 0) (hi := 4) (by omega) (by omega) (by omega) ⟨bz_1, h⟩
theorem w7_sort_out {x : Int32} (ho : Out x 5) {Q : Int32 → Prop} (h : Q 0) : wp_X7_isSort x Q := by
  unfold wp_X7_isSort
  exact w7_in_out (hi := 4) (by omega) ho ⟨bz_0, h⟩
theorem w7_sheet_in {n : Nat} (hn : n < 4) {Q : Int32 → Prop} (h : Q 1) : wp_X7_isSheet (nI n) Q := by
  unfold wp_X7_isSheet
  exact w7_in_in (lo := 0) (hi := 3) (by omega) (by omega) (by omega) ⟨bz_1, h⟩
theorem w7_sheet_out {x : Int32} (ho : Out x 4) {Q : Int32 → Prop} (h : Q 0) : wp_X7_isSheet x Q := by
  unfold wp_X7_isSheet
  exact w7_in_out (hi := 3) (by omega) ho ⟨bz_0, h⟩
theorem w7_one_in {p P : Nat} (hp : p < P) (hP : P ≤ 8) {s : Nat → Int32} (hs : s 4 = nI P) {Q : Int32 → Prop} (h : Q 1) : wp_X7_isPerson (nI p) s Q := by
  unfold wp_X7_isPerson
  refine ⟨vi (n := 4) (by omega) (by omega), ?_⟩
  rw [show ((4 : Int32).toNatClampNeg) = 4 from rfl, hs, l1, sb (by omega)]
  exact w7_in_in (lo := 0) (by omega) (by omega) (by omega) ⟨bz_1, h⟩
theorem w7_one_out {x : Int32} {P : Nat} (hP : P ≤ 8) {s : Nat → Int32} (hs : s 4 = nI P) (ho : Out x P) {Q : Int32 → Prop} (h : Q 0) : wp_X7_isPerson x s Q := by
  unfold wp_X7_isPerson
  refine ⟨vi (n := 4) (by omega) (by omega), ?_⟩
  rw [show ((4 : Int32).toNatClampNeg) = 4 from rfl, hs]
  refine w7_in (fun c => absurd ?_ c) (fun _ => ⟨bz_0, h⟩)
  rcases ho with q | q
  · exact Or.inl q
  · right
    by_cases e : P = 0
    · subst e
      rw [show nI 0 - 1 = (-1 : Int32) from rfl, il]
      rw [ie, ti (by omega)] at q
      have : (-1 : Int32).toInt = -1 := rfl
      omega
    · rw [l1, sb (by omega), il, ti (by omega)]
      rw [ie, ti (by omega)] at q
      omega
theorem w7_two_in {a b P : Nat} (ha : a < P) (hb : b < P) (hab : a ≠ b) (hP : P ≤ 8) {s : Nat → Int32} (hs : s 4 = nI P) {Q : Int32 → Prop} (h : Q 1) : wp_X7_areTwo (nI a) (nI b) s Q := by
  unfold wp_X7_areTwo
  refine w7_one_in ha hP hs ⟨fun c => absurd c (by decide), fun _ => w7_one_in hb hP hs ⟨fun c => absurd c (by decide), fun _ => ⟨fun c => ?_, fun _ => h⟩⟩⟩
  rw [eq_n (by omega) (by omega)] at c; exact absurd c hab
theorem w7_two_out {x y : Int32} {P : Nat} (hP : P ≤ 8) {s : Nat → Int32} (hs : s 4 = nI P) (ho : NotTwo x y P) {Q : Int32 → Prop} (h : Q 0) : wp_X7_areTwo x y s Q := by
  unfold wp_X7_areTwo
  rcases io x P (by omega) with ⟨a, ha, rfl⟩ | hx
  · refine w7_one_in ha hP hs ⟨fun _ => h, fun _ => ?_⟩
    rcases io y P (by omega) with ⟨b, hb, rfl⟩ | hy
    · refine w7_one_in hb hP hs ⟨fun _ => h, fun _ => ⟨fun _ => h, fun c => ?_⟩⟩
      rcases ho with q | q | q
      · rcases q with q | q
        · rw [l0, lt_n (by omega) (by omega)] at q; omega
        · rw [le_n (by omega) (by omega)] at q; omega
      · rcases q with q | q
        · rw [l0, lt_n (by omega) (by omega)] at q; omega
        · rw [le_n (by omega) (by omega)] at q; omega
      · exact absurd q c
    · exact w7_one_out hP hs hy ⟨fun _ => h, fun c => absurd rfl c⟩
  · exact w7_one_out hP hs hx ⟨fun _ => h, fun c => absurd rfl c⟩
theorem ix7 (a b : Nat) {p k : Nat} : ((nI a + nI b * nI p) + nI k) = nI (a + b * p + k) := by rw [ml, ad, ad]
theorem w7_its {p k : Nat} (hp : p < 8) (hk : k < 4) {s : Nat → Int32} {Q : Int32 → Prop} (h : Q (s (6 + 4 * p + k))) : wp_X7_its (nI p) (nI k) s Q := by
  unfold wp_X7_its
  rw [show (6 : Int32) = nI 6 from rfl, show (4 : Int32) = nI 4 from rfl, ix7, cl (by omega)]
  exact ⟨vi (by omega) (by omega), h⟩
theorem w7_lays1 {p k : Nat} (hp : p < 8) (hk : k < 4) {v : Int32} {s : Nat → Int32} {Q : (Nat → Int32) → Prop} (h : Q (upd s (6 + 4 * p + k) v)) : wp_X7_lays1 (nI p) (nI k) v s Q := by
  unfold wp_X7_lays1
  rw [show (6 : Int32) = nI 6 from rfl, show (4 : Int32) = nI 4 from rfl, ix7, cl (by omega)]
  exact ⟨vi (by omega) (by omega), fun s' e => by subst e; exact h⟩
theorem w7_has {p k : Nat} (hp : p < 8) (hk : k < 5) {s : Nat → Int32} {Q : Int32 → Prop} (h : Q (s (38 + 5 * p + k))) : wp_X7_has (nI p) (nI k) s Q := by
  unfold wp_X7_has
  rw [show (38 : Int32) = nI 38 from rfl, show (5 : Int32) = nI 5 from rfl, ix7, cl (by omega)]
  exact ⟨vi (by omega) (by omega), h⟩
theorem w7_owed {p k : Nat} (hp : p < 8) (hk : k < 8) {s : Nat → Int32} {Q : Int32 → Prop} (h : Q (s (78 + 8 * p + k))) : wp_X7_owed (nI p) (nI k) s Q := by
  unfold wp_X7_owed
  rw [show (78 : Int32) = nI 78 from rfl, show (8 : Int32) = nI 8 from rfl, ix7, cl (by omega)]
  exact ⟨vi (by omega) (by omega), h⟩
theorem w7_change1 {i : Nat} (hi : i < 476) {v : Int32} {s : Nat → Int32} {Q : Int32 → (Nat → Int32) → Prop} (h : Q (s i) (upd s i v)) : wp_X7_change1 (nI i) v s Q := by
  unfold wp_X7_change1
  refine ⟨vi (by omega) (by omega), fun x e => ⟨vi (by omega) (by omega), fun s' e' => ?_⟩⟩
  subst e; subst e'
  rw [cl (by omega)]
  exact h
