/-! sheets -/
theorem ix8 (b : Nat) {p k : Nat} : (nI b * nI p) + nI k = nI (b * p + k) := by rw [ml, ad]
def okB (x : Int32) : Prop := x = 0 ∨ x = 8 ∨ x = 16 ∨ x = 32
def SH (bt ln : V) (nm : Nat → V) (mb ms mn : V) : Prop := ∀ k, k < 4 → (bt k = mb k ∧ okB (bt k)) ∧ (∃ L : Nat, L ≤ 24 ∧ ln k = nI L ∧ ms k = nI L) ∧ ∀ i, i < 24 → mn (24 * k + i) = nm k i
theorem lead_ex (b : Nat → Prop) : ∀ n, ∃ j, j ≤ n ∧ (∀ i, i < j → b i) ∧ (j = n ∨ ¬ b j)
  | 0 => ⟨0, Nat.le_refl 0, fun i h => by omega, Or.inl rfl⟩
  | n + 1 => by
    obtain ⟨j, h1, h2, h3⟩ := lead_ex b n
    rcases h3 with rfl | h3
    · by_cases c : b j
      · exact ⟨j + 1, Nat.le_refl _, fun i hi => by rcases Nat.lt_or_ge i j with q | q; exact h2 i q; rw [show i = j by omega]; exact c, Or.inl rfl⟩
      · exact ⟨j, by omega, h2, Or.inr c⟩
    · exact ⟨j, by omega, h2, Or.inr h3⟩
theorem w1_missing_0 {b : Int32} (h : ¬ b = 0) {Q : Int32 → Prop} (q : Q 0) : wp_X1_missing b Q := by
  unfold wp_X1_missing; exact ⟨fun _ => q, fun c => absurd c h⟩
theorem w1_missing_1 {b : Int32} (h : b = 0) {Q : Int32 → Prop} (q : Q 1) : wp_X1_missing b Q := by
  unfold wp_X1_missing; exact ⟨fun c => absurd h c, fun _ => q⟩
theorem w1_begin {x1 x2 b l : Int32} {f : V} {Q : Int32 → Int32 → V → Prop} (h : ∀ g : V, (∀ i, i < 24 → g i = 0) → Q x1 x2 g) : wp_X1_begin x1 x2 b l f Q := by
  unfold wp_X1_begin
  refine loop_0 (fun n i (t : V) => wp_X1_begin_b12 Q n (nI i) x1 x2 t) (fun i t => ∀ k, k < i → t k = 0) 24 f (fun k hk => by omega) ?_ ?_
  · intro n t it
    unfold wp_X1_begin_b12
    exact ⟨fun _ => h t it, fun c => absurd (show (24 : Int32) ≤ nI 24 by decide) c⟩
  · intro n i t hi it ih
    unfold wp_X1_begin_b12
    refine ⟨fun c => absurd c (nle (a := 24) hi (by omega)), fun _ => ⟨(vi (by omega) (by omega)), fun t1 e1 y ey => ?_⟩⟩
    rw [ey, i1]
    rw [cl (by omega)] at e1
    refine ih _ (fun k hk => ?_)
    subst e1
    by_cases g : k = i
    · subst g; exact us
    · rw [un g]; exact it k (by omega)
theorem w7_zero {k : Nat} (hk : k < 4) {e b1 s1 mn : V} {Q : Int32 → V → V → V → V → Prop} (h : ∀ g : V, (∀ i, i < 24 → g (24 * k + i) = 0) → (∀ j, (j < 24 * k ∨ 24 * k + 24 ≤ j) → g j = mn j) → Q 1 e b1 s1 g) : ∃ j, wp_X7_sheet_b90 Q j (nI k) (0 : Int32) e b1 s1 mn := by
  refine loop_0 (fun n i (t : V) => wp_X7_sheet_b90 Q n (nI k) (nI i) e b1 s1 t) (fun i t => (∀ a, a < i → t (24 * k + a) = 0) ∧ ∀ j, (j < 24 * k ∨ 24 * k + 24 ≤ j) → t j = mn j) 24 mn ⟨fun a ha => by omega, fun _ _ => rfl⟩ ?_ ?_
  · intro n t ⟨it, io⟩
    unfold wp_X7_sheet_b90
    exact ⟨fun _ => h t it io, fun c => absurd (show (24 : Int32) ≤ nI 24 by decide) c⟩
  · intro n i t hi ⟨it, io⟩ ih
    unfold wp_X7_sheet_b90
    refine ⟨fun c => absurd c (nle (a := 24) hi (by omega)), fun _ => ?_⟩
    rw [show (24 : Int32) = nI 24 from rfl, ix8, cl (by omega)]
    refine ⟨(vi (by omega) (by omega)), fun t1 e1 y ey => ?_⟩
    rw [ey, i1]
    refine ih _ ⟨fun a ha => ?_, fun j hj => ?_⟩
    · subst e1
      by_cases g : a = i
      · subst g; exact us
      · rw [un (by omega)]; exact it a (by omega)
    · subst e1
      rw [un (by omega)]; exact io j hj
theorem vup_s {α : Type} {f : Nat → α} {k : Nat} {v : α} : va_up f k v k = v := va_up_self f k v
theorem vup_n {α : Type} {f : Nat → α} {k j : Nat} {v : α} (h : j ≠ k) : va_up f k v j = f j := by simp [va_up, h]
section SHEETS
variable {bt ln : V} {nm : Nat → V} {mb ms mn e : V}
theorem SH.new (h : SH bt ln nm mb ms mn) {k L : Nat} (hk : k < 4) (hL : L ≤ 24) {x : Int32} (hx : okB x) {g g' : V} (hg : ∀ i, i < 24 → g i = 0) (hg' : ∀ i, i < 24 → g' (24 * k + i) = 0) (ho : ∀ j, (j < 24 * k ∨ 24 * k + 24 ≤ j) → g' j = mn j) : SH (va_up bt k x) (va_up ln k (nI L)) (va_up nm k g) (upd mb k x) (upd ms k (nI L)) g' := by
  intro j hj
  by_cases c : j = k
  · subst c
    rw [vup_s, vup_s, vup_s, us, us]
    exact ⟨⟨rfl, hx⟩, ⟨L, hL, rfl, rfl⟩, fun i hi => by rw [hg' i hi, hg i hi]⟩
  · rw [vup_n c, vup_n c, vup_n c, un c, un c]
    obtain ⟨h1, h2, h3⟩ := h j hj
    exact ⟨h1, h2, fun i hi => by rw [ho _ (by omega)]; exact h3 i hi⟩
theorem m7_sheet {k : Nat} (hk : k < 4) {x2 x3 : Int32} (hb : okB x2) {Q : Int32 → V → V → V → V → Prop} (q : wp_X7_sheet_b35 Q (nI k) x2 x3 e mb ms mn) : wp_X7_sheet (nI k) x2 x3 e mb ms mn Q := by
  unfold wp_X7_sheet
  refine w7_sheet_in hk (tD ⟨fun _ => q, fun c0 => ⟨fun _ => q, fun c1 => ⟨fun _ => q, fun c2 => ⟨fun _ => q, fun c3 => ?_⟩⟩⟩⟩)
  rcases hb with hb | hb | hb | hb
  · exact absurd hb c0
  · exact absurd hb c1
  · exact absurd hb c2
  · exact absurd hb c3
theorem m6_sheet {k : Nat} (hk : k < 4) {x2 x3 : Int32} (hb : okB x2) {Q : Int32 → V → V → V → (Nat → V) → Prop} (q : wp_X6_sheet_b35 Q (nI k) x2 x3 e bt ln nm) : wp_X6_sheet (nI k) x2 x3 e bt ln nm Q := by
  unfold wp_X6_sheet
  refine w6_sheet_in hk (tA ⟨fun _ => q, fun c0 => ⟨fun _ => q, fun c1 => ⟨fun _ => q, fun c2 => ⟨fun _ => q, fun c3 => ?_⟩⟩⟩⟩)
  rcases hb with hb | hb | hb | hb
  · exact absurd hb c0
  · exact absurd hb c1
  · exact absurd hb c2
  · exact absurd hb c3
theorem op_sheet (h : SH bt ln nm mb ms mn) (x1 x2 x3 : Int32) (C : Int32 → V → V → V → (Nat → V) → Int32 → V → V → V → V → Prop) (hC : ∀ r e' bt' ln' nm' mb' ms' mn', SH bt' ln' nm' mb' ms' mn' → C r e' bt' ln' nm' r e' mb' ms' mn') : wp_X6_sheet x1 x2 x3 e bt ln nm (fun r e' bt' ln' nm' => wp_X7_sheet x1 x2 x3 e mb ms mn (fun r' e'' mb' ms' mn' => C r e' bt' ln' nm' r' e'' mb' ms' mn')) := by
  rcases io x1 4 (by omega) with ⟨k, hk, rfl⟩ | ho
  · by_cases hb : okB x2
    · refine m6_sheet hk hb ?_
      unfold wp_X6_sheet_b35
      refine ⟨fun n0 => ⟨fun c => ⟨fun c2 => ⟨(vi (by omega) (by omega)), fun K hK eK => ?_⟩, fun c2 => w6_e1 ?_⟩, fun c => w6_e3 ?_⟩, fun z0 => ⟨(vi (by omega) (by omega)), fun K hK eK => ?_⟩⟩
      · have : k = K := (eq_n (by omega) (by omega)).mp eK
        subst this
        have hx : ∃ L : Nat, L ≤ 24 ∧ x3 = nI L := by
          rw [ie] at c c2
          have k0 : (0 : Int32).toInt = 0 := rfl
          have k24 : (24 : Int32).toInt = 24 := rfl
          rcases io x3 25 (by omega) with ⟨L, hL, q⟩ | q
          · exact ⟨L, by omega, q⟩
          · exfalso
            rcases q with q | q
            · rw [il] at q; omega
            · rw [ie, ti (by omega)] at q; omega
        obtain ⟨L, hL, rfl⟩ := hx
        refine w1_begin (fun g hg bt' eb ln' el nm' en => m7_sheet hk hb ?_)
        unfold wp_X7_sheet_b35 wp_X7_sheet_b49
        rw [cl (by omega)]
        refine ⟨fun q => absurd q n0, fun _ => ⟨fun _ => ⟨fun q => absurd q n0, fun _ => ⟨fun _ => ⟨(vi (by omega) (by omega)), fun mb' em => ⟨fun _ => ⟨(vi (by omega) (by omega)), fun ms' es => w7_zero hk (fun g' hg' ho' => ?_)⟩, fun q => absurd q n0⟩⟩, fun q => absurd c2 q⟩⟩, fun q => absurd c q⟩⟩
        subst eb; subst el; subst en; subst em; subst es
        exact hC _ _ _ _ _ _ _ _ (h.new hk hL hb hg hg' ho')
      · refine m7_sheet hk hb ?_
        unfold wp_X7_sheet_b35 wp_X7_sheet_b49
        exact ⟨fun q => absurd q n0, fun _ => ⟨fun _ => ⟨fun q => absurd q n0, fun _ => ⟨fun q => absurd q c2, fun _ => w7_e1 (hC _ _ _ _ _ _ _ _ h)⟩⟩, fun q => absurd c q⟩⟩
      · refine m7_sheet hk hb ?_
        unfold wp_X7_sheet_b35
        exact ⟨fun q => absurd q n0, fun _ => ⟨fun q => absurd q c, fun _ => w7_e3 (hC _ _ _ _ _ _ _ _ h)⟩⟩
      · have : k = K := (eq_n (by omega) (by omega)).mp eK
        subst this
        unfold wp_X1_lose
        refine w1_begin (fun g hg bt' eb ln' el nm' en => m7_sheet hk hb ?_)
        unfold wp_X7_sheet_b35 wp_X7_sheet_b49
        rw [cl (by omega)]
        refine ⟨fun _ => ⟨fun _ => ⟨(vi (by omega) (by omega)), fun mb' em => ⟨fun q => absurd z0 q, fun _ => ⟨(vi (by omega) (by omega)), fun ms' es => w7_zero hk (fun g' hg' ho' => ?_)⟩⟩⟩, fun q => absurd z0 q⟩, fun q => absurd z0 q⟩
        subst eb; subst el; subst en; subst em; subst es; subst z0
        exact hC _ _ _ _ _ _ _ _ (h.new (L := 0) hk (by omega) (Or.inl rfl) hg hg' ho')
    · unfold wp_X6_sheet wp_X7_sheet
      (repeat (with_reducible (first | refine tA ?_ | refine tB ?_ | refine tC ?_ | refine tD ?_ | refine w6_one_in (by assumption) (by assumption) ?_ | refine w6_one_out (by assumption) (by assumption) ?_ | refine w7_one_in (by assumption) (by assumption) (by assumption) ?_ | refine w7_one_out (by assumption) (by assumption) (by assumption) ?_ | refine w6_two_in (by assumption) (by assumption) (by assumption) (by assumption) ?_ | refine w6_two_out (by assumption) (by assumption) ?_ | refine w7_two_in (by assumption) (by assumption) (by assumption) (by assumption) (by assumption) ?_ | refine w7_two_out (by assumption) (by assumption) (by assumption) ?_ | refine w6_sort_in (by assumption) ?_ | refine w6_sort_out (by assumption) ?_ | refine w7_sort_in (by assumption) ?_ | refine w7_sort_out (by assumption) ?_ | refine w6_km_in (by assumption) ?_ | refine w6_km_out (by assumption) ?_ | refine w7_kind_in (by assumption) ?_ | refine w7_kind_out (by assumption) ?_ | refine w6_sheet_in (by assumption) ?_ | refine w6_sheet_out (by assumption) ?_ | refine w7_sheet_in (by assumption) ?_ | refine w7_sheet_out (by assumption) ?_ | refine w6_e1 ?_ | refine w6_e2 ?_ | refine w6_e3 ?_ | refine w6_e4 ?_ | refine w6_e5 ?_ | refine w6_e6 ?_ | refine w7_e1 ?_ | refine w7_e2 ?_ | refine w7_e3 ?_ | refine w7_e4 ?_ | refine w7_e5 ?_ | refine w7_e6 ?_)))
      have n0 : ¬ x2 = 0 := fun q => hb (Or.inl q)
      have n1 : ¬ x2 = 8 := fun q => hb (Or.inr (Or.inl q))
      have n2 : ¬ x2 = 16 := fun q => hb (Or.inr (Or.inr (Or.inl q)))
      have n3 : ¬ x2 = 32 := fun q => hb (Or.inr (Or.inr (Or.inr q)))
      refine ⟨fun q => absurd q n0, fun _ => ⟨fun q => absurd q n1, fun _ => ⟨fun q => absurd q n2, fun _ => ⟨fun q => absurd q n3, fun _ => w6_e1 ?_⟩⟩⟩⟩
      (repeat (with_reducible (first | refine tA ?_ | refine tB ?_ | refine tC ?_ | refine tD ?_ | refine w6_one_in (by assumption) (by assumption) ?_ | refine w6_one_out (by assumption) (by assumption) ?_ | refine w7_one_in (by assumption) (by assumption) (by assumption) ?_ | refine w7_one_out (by assumption) (by assumption) (by assumption) ?_ | refine w6_two_in (by assumption) (by assumption) (by assumption) (by assumption) ?_ | refine w6_two_out (by assumption) (by assumption) ?_ | refine w7_two_in (by assumption) (by assumption) (by assumption) (by assumption) (by assumption) ?_ | refine w7_two_out (by assumption) (by assumption) (by assumption) ?_ | refine w6_sort_in (by assumption) ?_ | refine w6_sort_out (by assumption) ?_ | refine w7_sort_in (by assumption) ?_ | refine w7_sort_out (by assumption) ?_ | refine w6_km_in (by assumption) ?_ | refine w6_km_out (by assumption) ?_ | refine w7_kind_in (by assumption) ?_ | refine w7_kind_out (by assumption) ?_ | refine w6_sheet_in (by assumption) ?_ | refine w6_sheet_out (by assumption) ?_ | refine w7_sheet_in (by assumption) ?_ | refine w7_sheet_out (by assumption) ?_ | refine w6_e1 ?_ | refine w6_e2 ?_ | refine w6_e3 ?_ | refine w6_e4 ?_ | refine w6_e5 ?_ | refine w6_e6 ?_ | refine w7_e1 ?_ | refine w7_e2 ?_ | refine w7_e3 ?_ | refine w7_e4 ?_ | refine w7_e5 ?_ | refine w7_e6 ?_)))
      exact ⟨fun q => absurd q n0, fun _ => ⟨fun q => absurd q n1, fun _ => ⟨fun q => absurd q n2, fun _ => ⟨fun q => absurd q n3, fun _ => w7_e1 (hC _ _ _ _ _ _ _ _ h)⟩⟩⟩⟩
  · unfold wp_X6_sheet wp_X7_sheet
    (repeat (with_reducible (first | refine tA ?_ | refine tB ?_ | refine tC ?_ | refine tD ?_ | refine w6_one_in (by assumption) (by assumption) ?_ | refine w6_one_out (by assumption) (by assumption) ?_ | refine w7_one_in (by assumption) (by assumption) (by assumption) ?_ | refine w7_one_out (by assumption) (by assumption) (by assumption) ?_ | refine w6_two_in (by assumption) (by assumption) (by assumption) (by assumption) ?_ | refine w6_two_out (by assumption) (by assumption) ?_ | refine w7_two_in (by assumption) (by assumption) (by assumption) (by assumption) (by assumption) ?_ | refine w7_two_out (by assumption) (by assumption) (by assumption) ?_ | refine w6_sort_in (by assumption) ?_ | refine w6_sort_out (by assumption) ?_ | refine w7_sort_in (by assumption) ?_ | refine w7_sort_out (by assumption) ?_ | refine w6_km_in (by assumption) ?_ | refine w6_km_out (by assumption) ?_ | refine w7_kind_in (by assumption) ?_ | refine w7_kind_out (by assumption) ?_ | refine w6_sheet_in (by assumption) ?_ | refine w6_sheet_out (by assumption) ?_ | refine w7_sheet_in (by assumption) ?_ | refine w7_sheet_out (by assumption) ?_ | refine w6_e1 ?_ | refine w6_e2 ?_ | refine w6_e3 ?_ | refine w6_e4 ?_ | refine w6_e5 ?_ | refine w6_e6 ?_ | refine w7_e1 ?_ | refine w7_e2 ?_ | refine w7_e3 ?_ | refine w7_e4 ?_ | refine w7_e5 ?_ | refine w7_e6 ?_)))
    exact hC _ _ _ _ _ _ _ _ h
end SHEETS
