/-! pairs: whose child one may be; odds -/
noncomputable def dc (p : Prop) : Bool := @decide p (Classical.propDecidable p)
theorem dc_t {p : Prop} : dc p = true ↔ p := @decide_eq_true_iff p (Classical.propDecidable p)
theorem dc_f {p : Prop} : dc p = false ↔ ¬ p := by
  constructor
  · intro h c; rw [dc_t.mpr c] at h; exact absurd h (by decide)
  · intro h
    cases e : dc p
    · rfl
    · exact absurd (dc_t.mp e) h
def rc (c : Nat → Bool) (a : Nat) : Nat → Nat
  | 0 => 0
  | n + 1 => rc c a n + (if a < n ∧ c n = true then 1 else 0)
theorem rc_0 {c : Nat → Bool} {a : Nat} : ∀ n, n ≤ a + 1 → rc c a n = 0
  | 0, _ => rfl
  | n + 1, h => by rw [rc, rc_0 n (by omega), if_neg (by omega)]
theorem rc_t {c : Nat → Bool} {a n : Nat} (h : a < n) (hc : c n = true) : rc c a (n + 1) = rc c a n + 1 := by rw [rc, if_pos ⟨h, hc⟩]
theorem rc_f {c : Nat → Bool} {a n : Nat} (hc : c n = false) : rc c a (n + 1) = rc c a n := by rw [rc, if_neg (by rw [hc]; simp), Nat.add_zero]
theorem rc_le {c : Nat → Bool} {a : Nat} : ∀ n, rc c a n ≤ n
  | 0 => Nat.le_refl 0
  | n + 1 => by
    have := rc_le (c := c) (a := a) n
    rw [rc]
    by_cases d : a < n ∧ c n = true
    · rw [if_pos d]; omega
    · rw [if_neg d]; omega
def tc (c : Nat → Nat → Bool) (P : Nat) : Nat → Nat
  | 0 => 0
  | a + 1 => tc c P a + rc (c a) a P
theorem tc_le {c : Nat → Nat → Bool} {P : Nat} (hP : P ≤ 8) : ∀ a, tc c P a ≤ 8 * a
  | 0 => Nat.le_refl 0
  | a + 1 => by
    have h1 := tc_le (c := c) hP a
    have h2 := rc_le (c := c a) (a := a) P
    rw [tc]; omega
/-- one may be a child of these -/
def PB (sp : V) (a b p : Nat) : Prop := a ≠ p ∧ b ≠ p ∧ ∀ k, k < 5 → (sp (5 * a + k) + sp (5 * b + k)) / 2 = sp (5 * p + k)
theorem w4_couldBear {sp : V} {a b p : Nat} (ha : a < 8) (hb : b < 8) (hp : p < 8) {Q : Int32 → Prop} (h1 : PB sp a b p → Q 1) (h0 : ¬ PB sp a b p → Q 0) : wp_X4_couldBear (nI a) (nI b) (nI p) sp Q := by
  unfold wp_X4_couldBear
  refine ⟨fun c => h0 (fun q => q.1 ((eq_n (by omega) (by omega)).mp c)), fun c => ⟨fun c2 => ?_, fun c2 => h0 (fun q => q.2.1 ((eq_n (by omega) (by omega)).mp c2))⟩⟩
  have na : a ≠ p := fun q => c (by rw [q])
  have nb : b ≠ p := fun q => c2 (by rw [q])
  obtain ⟨j, hj, hb', hn⟩ := lead_ex (fun k => (sp (5 * a + k) + sp (5 * b + k)) / 2 = sp (5 * p + k)) 5
  refine loop_0 (fun n k (t : Unit) => wp_X4_couldBear_b17 Q sp n (nI a) (nI b) (nI p) (nI k)) (fun _ _ => True) j () trivial ?_ ?_
  · intro n _ _
    unfold wp_X4_couldBear_b17
    rcases Nat.lt_or_ge j 5 with g | g
    · have q : ¬ (sp (5 * a + j) + sp (5 * b + j)) / 2 = sp (5 * p + j) := by
        rcases hn with q | q
        · omega
        · exact q
      refine ⟨fun d => absurd d (nle (a := 5) g (by omega)), fun _ => w5_poured ha hb g (w6_cell ⟨(vi (by omega) (by omega)), ?_⟩)⟩
      rw [cl (by omega)]
      exact ⟨fun d => absurd d q, fun _ => h0 (fun r => q (r.2.2 j g))⟩
    · have : j = 5 := by omega
      subst this
      exact ⟨fun _ => h1 ⟨na, nb, hb'⟩, fun d => absurd (show (5 : Int32) ≤ nI 5 by decide) d⟩
  · intro n k _ hk _ ih
    unfold wp_X4_couldBear_b17
    refine ⟨fun d => absurd d (nle (a := 5) (by omega) (by omega)), fun _ => w5_poured ha hb (by omega) (w6_cell ⟨(vi (by omega) (by omega)), ?_⟩)⟩
    rw [cl (by omega)]
    refine ⟨fun _ y ey => ?_, fun d => absurd (hb' k hk) d⟩
    rw [ey, i1]
    exact ih () trivial
theorem w7_arePoured {s : V} {a b p : Nat} (ha : a < 8) (hb : b < 8) (hp : p < 8) {Q : Int32 → Prop} (h1 : (∀ k, k < 5 → (s (38 + 5 * a + k) + s (38 + 5 * b + k)) / 2 = s (38 + 5 * p + k)) → Q 1) (h0 : (¬ ∀ k, k < 5 → (s (38 + 5 * a + k) + s (38 + 5 * b + k)) / 2 = s (38 + 5 * p + k)) → Q 0) : wp_X7_arePoured (nI a) (nI b) (nI p) s Q := by
  unfold wp_X7_arePoured
  refine loop_0 (fun n k (t : Int32) => wp_X7_arePoured_b6 Q s n (nI a) (nI b) (nI p) t (nI k)) (fun i t => (t = 1 ∧ ∀ k, k < i → (s (38 + 5 * a + k) + s (38 + 5 * b + k)) / 2 = s (38 + 5 * p + k)) ∨ (t = 0 ∧ ¬ ∀ k, k < i → (s (38 + 5 * a + k) + s (38 + 5 * b + k)) / 2 = s (38 + 5 * p + k))) 5 1 (Or.inl ⟨rfl, fun k hk => absurd hk (Nat.not_lt_zero k)⟩) ?_ ?_
  · intro n t ht
    unfold wp_X7_arePoured_b6
    refine ⟨fun _ => ?_, fun d => absurd (show (5 : Int32) ≤ nI 5 by decide) d⟩
    rcases ht with ⟨e, g⟩ | ⟨e, g⟩ <;> subst e
    · exact ⟨bz_1, h1 g⟩
    · exact ⟨bz_0, h0 g⟩
  · intro n i t hi ht ih
    unfold wp_X7_arePoured_b6
    refine ⟨fun d => absurd d (nle (a := 5) hi (by omega)), fun _ => ?_⟩
    rcases ht with ⟨e, g⟩ | ⟨e, g⟩ <;> subst e
    · refine ⟨fun d => absurd d (by decide), fun _ => w7_has ha hi (w7_has hb hi (w7_has hp hi ⟨fun d y ey => ?_, fun d y ey => ?_⟩))⟩
      · rw [ey, i1]; exact ih 0 (Or.inr ⟨rfl, fun q => d (q i (by omega))⟩)
      · rw [ey, i1]
        refine ih 1 (Or.inl ⟨rfl, fun k hk => ?_⟩)
        by_cases c : k = i
        · subst c; exact d
        · exact g k (by omega)
    · refine ⟨fun _ y ey => ?_, fun d => absurd rfl d⟩
      rw [ey, i1]
      exact ih 0 (Or.inr ⟨rfl, fun q => g (fun k hk => q k (by omega))⟩)
section PAIRS
variable {P Y B w : Nat} {z : Int32} {km fa mo fr sp ow tp tn : V} {tq tk : Nat → V} {wt s e nm pl : V}
theorem w4_pairsFor (hP : P ≤ 8) {p : Nat} (hp : p < P) {Q : Int32 → Prop} (h : Q (nI (tc (fun a b => dc (PB sp a b p)) P P))) : wp_X4_pairsFor (nI p) (nI P) sp Q := by
  unfold wp_X4_pairsFor
  refine loop_0 (fun n a (t : Int32) => wp_X4_pairsFor_b5 Q (nI P) sp n (nI p) t (nI a)) (fun a t => t = nI (tc (fun a b => dc (PB sp a b p)) P a)) P 0 rfl ?_ ?_
  · intro n t et
    unfold wp_X4_pairsFor_b5
    exact ⟨fun _ => by rw [et]; exact h, fun c => absurd ((le_n (by omega) (by omega)).mpr (Nat.le_refl P)) c⟩
  · intro n a t ha et ih
    unfold wp_X4_pairsFor_b5
    refine ⟨fun c => absurd c (nle ha (by omega)), fun _ x5 e5 => ?_⟩
    rw [e5, i1]
    refine pk_loop (fun m b (u : Int32) => wp_X4_pairsFor_b20 Q (wp_X4_pairsFor_b5 Q (nI P) sp n) (nI P) sp m (nI p) u (nI a) (nI b)) (fun b u => a < b ∧ u = nI (tc (fun a b => dc (PB sp a b p)) P a + rc (fun b => dc (PB sp a b p)) a b)) P (a + 1) t (by omega) ⟨by omega, by rw [rc_0 _ (Nat.le_refl _), et]; rfl⟩ ?_ ?_
    · intro m u ⟨_, eu⟩
      unfold wp_X4_pairsFor_b20
      refine ⟨fun _ y ey => ?_, fun c => absurd ((le_n (by omega) (by omega)).mpr (Nat.le_refl P)) c⟩
      rw [ey, i1]
      exact ih u eu
    · intro m b u hb ⟨hab, eu⟩ ih2
      unfold wp_X4_pairsFor_b20
      refine ⟨fun c => absurd c (nle hb (by omega)), fun _ => w4_couldBear (by omega) (by omega) (by omega) (fun g => w6_truth (fun x ex y ey => ?_)) (fun g => w6_truth (fun x ex y ey => ?_))⟩
      · rw [ey, i1, ex, if_neg (by decide), eu, l1, ad]
        refine ih2 _ ⟨by omega, ?_⟩
        rw [rc_t hab (dc_t.mpr g)]; rfl
      · rw [ey, i1, ex, if_pos rfl, eu, l0, ad]
        refine ih2 _ ⟨by omega, ?_⟩
        rw [rc_f (dc_f.mpr g)]; rfl
theorem w4_fp_none (hP : P ≤ 8) {p a : Nat} (hp : p < P) (ha : a < P) {Q : Int32 → Prop} {KK : Int32 → Int32 → Prop} (hno : ∀ b, a < b → b < P → ¬ PB sp a b p) (hK : KK (nI p) (nI (a + 1))) : ∃ j, wp_X4_firstPairFor_b15 Q KK (nI P) sp j (nI p) (nI a) (nI (a + 1)) := by
  refine pk_loop (fun m b (u : Unit) => wp_X4_firstPairFor_b15 Q KK (nI P) sp m (nI p) (nI a) (nI b)) (fun b _ => a < b) P (a + 1) () (by omega) (by omega) ?_ ?_
  · intro m u _
    unfold wp_X4_firstPairFor_b15
    refine ⟨fun _ y ey => ?_, fun c => absurd ((le_n (by omega) (by omega)).mpr (Nat.le_refl P)) c⟩
    rw [ey, i1]; exact hK
  · intro m b u hb hab ih
    unfold wp_X4_firstPairFor_b15
    refine ⟨fun c => absurd c (nle hb (by omega)), fun _ => w4_couldBear (by omega) (by omega) (by omega) (fun g => absurd g (hno b hab hb)) (fun g => tB (fun y ey => ?_))⟩
    rw [ey, i1]; exact ih () (by omega)
theorem w4_fp_some (hP : P ≤ 8) {p a b0 : Nat} (hp : p < P) (ha : a < b0) (hb0 : b0 < P) {Q : Int32 → Prop} {KK : Int32 → Int32 → Prop} (hno : ∀ b, a < b → b < b0 → ¬ PB sp a b p) (hy : PB sp a b0 p) (hQ : Q (nI (8 * a + b0))) : ∃ j, wp_X4_firstPairFor_b15 Q KK (nI P) sp j (nI p) (nI a) (nI (a + 1)) := by
  refine pk_loop (fun m b (u : Unit) => wp_X4_firstPairFor_b15 Q KK (nI P) sp m (nI p) (nI a) (nI b)) (fun b _ => a < b) b0 (a + 1) () (by omega) (by omega) ?_ ?_
  · intro m u _
    unfold wp_X4_firstPairFor_b15
    exact ⟨fun c => absurd c (nle hb0 (by omega)), fun _ => w4_couldBear (by omega) (by omega) (by omega) (fun g => tD (w6_pair hQ)) (fun g => absurd hy g)⟩
  · intro m b u hb hab ih
    unfold wp_X4_firstPairFor_b15
    refine ⟨fun c => absurd c (nle (by omega) (by omega)), fun _ => w4_couldBear (by omega) (by omega) (by omega) (fun g => absurd g (hno b hab hb)) (fun g => tB (fun y ey => ?_))⟩
    rw [ey, i1]; exact ih () (by omega)
/-- the first pair, or none (a0 = P) -/
def FPr (P : Nat) (sp : V) (p a0 b0 : Nat) : Prop := a0 < b0 ∧ a0 ≤ P ∧ (∀ a b, a < b → b < P → (a < a0 ∨ (a = a0 ∧ b < b0)) → ¬ PB sp a b p) ∧ (a0 < P → b0 < P ∧ PB sp a0 b0 p)
theorem fp_ex (P : Nat) (sp : V) (p : Nat) : ∃ a0 b0, FPr P sp p a0 b0 := by
  obtain ⟨a0, h1, h2, h3⟩ := lead_ex (fun a => ∀ b, a < b → b < P → ¬ PB sp a b p) P
  rcases Nat.lt_or_ge a0 P with g | g
  · have h4 : ¬ ∀ b, a0 < b → b < P → ¬ PB sp a0 b p := by
      rcases h3 with q | q
      · omega
      · exact q
    obtain ⟨b0, k1, k2, k3⟩ := lead_ex (fun b => a0 < b → ¬ PB sp a0 b p) P
    rcases Nat.lt_or_ge b0 P with g2 | g2
    · have k4 : ¬ (a0 < b0 → ¬ PB sp a0 b0 p) := by
        rcases k3 with q | q
        · omega
        · exact q
      have k5 : a0 < b0 := by
        rcases Nat.lt_or_ge a0 b0 with q | q
        · exact q
        · exact absurd (fun c => by omega) k4
      have k6 : PB sp a0 b0 p := by
        by_cases q : PB sp a0 b0 p
        · exact q
        · exact absurd (fun _ => q) k4
      refine ⟨a0, b0, k5, h1, fun a b hab hb hlt => ?_, fun _ => ⟨g2, k6⟩⟩
      rcases hlt with q | ⟨q, q2⟩
      · exact h2 a q b hab hb
      · subst q; exact k2 b q2 hab
    · exact absurd (fun b hb1 hb2 => k2 b (by omega) hb1) h4
  · exact ⟨a0, P + 1, by omega, h1, fun a b hab hb _ => h2 a (by omega) b hab hb, fun c => by omega⟩
theorem w4_firstPairFor (hP : P ≤ 8) {p a0 b0 : Nat} (hp : p < P) (hf : FPr P sp p a0 b0) {Q : Int32 → Prop} (hn : a0 = P → Q (-1)) (hy : a0 < P → Q (nI (8 * a0 + b0))) : wp_X4_firstPairFor (nI p) (nI P) sp Q := by
  obtain ⟨f1, f2, f3, f4⟩ := hf
  unfold wp_X4_firstPairFor
  refine loop_0 (fun n a (t : Unit) => wp_X4_firstPairFor_b2 Q (nI P) sp n (nI p) (nI a)) (fun _ _ => True) a0 () trivial ?_ ?_
  · intro n _ _
    unfold wp_X4_firstPairFor_b2
    rcases Nat.lt_or_ge a0 P with g | g
    · refine ⟨fun c => absurd c (nle g (by omega)), fun _ y ey => ?_⟩
      rw [ey, i1]
      exact w4_fp_some hP hp f1 (f4 g).1 (fun b h1 h2 => f3 a0 b h1 (by have := (f4 g).1; omega) (Or.inr ⟨rfl, h2⟩)) (f4 g).2 (hy g)
    · exact ⟨fun _ => hn (by omega), fun c => absurd ((le_n (by omega) (by omega)).mpr g) c⟩
  · intro n a _ ha _ ih
    unfold wp_X4_firstPairFor_b2
    refine ⟨fun c => absurd c (nle (by omega) (by omega)), fun _ y ey => ?_⟩
    rw [ey, i1]
    exact w4_fp_none hP hp (by omega) (fun b h1 h2 => f3 a b h1 h2 (Or.inl ha)) (ih () trivial)
/-- the model's search -/
theorem w7_parents (h : WR P Y B w z km fa mo fr sp ow tp tn tq wt s) {p a0 b0 v : Nat} (hp : p < P) (hv : v < 3) (hf : FPr P sp p a0 b0) {Q : Int32 → V → Prop} (h0 : v = 0 → Q (nI (tc (fun a b => dc (PB sp a b p)) P P)) e) (hn : v ≠ 0 → a0 = P → Q (er 2) (eu e 2)) (hy1 : v = 1 → a0 < P → Q (nI a0) e) (hy2 : v = 2 → a0 < P → Q (nI b0) e) : wp_X7_parents (nI p) (nI v) s e Q := by
  obtain ⟨⟨a1, a2, a3, a4⟩, ⟨b1, b2, b3, b4, b5⟩, c1, c2, c3, c4, c5, c6, c7, c8, c9⟩ := id h
  obtain ⟨f1, f2, f3, f4⟩ := hf
  have pbs : ∀ a b, a < P → b < P → a ≠ p → b ≠ p → ((∀ k, k < 5 → (s (38 + 5 * a + k) + s (38 + 5 * b + k)) / 2 = s (38 + 5 * p + k)) ↔ PB sp a b p) := fun a b ha hb na nb => by
    constructor
    · intro g
      refine ⟨na, nb, fun k hk => ?_⟩
      have := g k hk
      rw [(c4 a k ha hk).2, (c4 b k hb hk).2, (c4 p k hp hk).2] at this
      exact this
    · intro g k hk
      rw [(c4 a k ha hk).2, (c4 b k hb hk).2, (c4 p k hp hk).2]
      exact g.2.2 k hk
  unfold wp_X7_parents
  refine w7_one_in hp a1 b1 (tD (w7_in_in (lo := 0) (hi := 2) (by omega) (by omega) (by omega) (tC ?_)))
  refine loop_0 (fun n a (t : Int32 × Int32 × Int32) => wp_X7_parents_b34 Q s n (nI p) (nI v) t.1 t.2.1 t.2.2 (nI a) e) (fun a t => t.1 = nI (tc (fun a b => dc (PB sp a b p)) P a) ∧ (¬ a0 < a → tc (fun a b => dc (PB sp a b p)) P a = 0 ∧ t.2.1 = -1 ∧ t.2.2 = -1) ∧ (a0 < a → 0 < tc (fun a b => dc (PB sp a b p)) P a ∧ t.2.1 = nI a0 ∧ t.2.2 = nI b0)) P (0, -1, -1) ⟨rfl, fun _ => ⟨rfl, rfl, rfl⟩, fun c => absurd c (Nat.not_lt_zero _)⟩ ?_ ?_
  · intro n t ⟨e1, e2, e3⟩
    have tb := tc_le (c := fun a b => dc (PB sp a b p)) a1 P
    unfold wp_X7_parents_b34
    rw [show ((4 : Int32).toNatClampNeg) = 4 from rfl, b1]
    refine ⟨vi (n := 4) (by omega) (by omega), fun _ => ?_, fun c => absurd ((le_n (by omega) (by omega)).mpr (Nat.le_refl P)) c⟩
    have fin : (v = 0 ∨ a0 < P) → ((¬ nI v = 0) → ((¬ nI v = (1 : Int32)) → Q t.2.2 e) ∧ ((nI v = (1 : Int32)) → Q t.2.1 e)) ∧ ((nI v = 0) → Q t.1 e) := by
      intro hva
      refine ⟨fun c => ⟨fun c2 => ?_, fun c2 => ?_⟩, fun c => ?_⟩
      · have k0 : v ≠ 0 := fun k => c (by rw [k]; rfl)
        have k1 : v ≠ 1 := fun k => c2 (by rw [k]; rfl)
        have ka : a0 < P := by rcases hva with q | q; exact absurd q k0; exact q
        rw [(e3 ka).2.2]; exact hy2 (by omega) ka
      · have k0 : v ≠ 0 := fun k => c (by rw [k]; rfl)
        have k1 : v = 1 := (eq_n (b := 1) (by omega) (by omega)).mp c2
        have ka : a0 < P := by rcases hva with q | q; exact absurd q k0; exact q
        rw [(e3 ka).2.1]; exact hy1 k1 ka
      · rw [e1]; exact h0 ((eq_n (b := 0) (by omega) (by omega)).mp c)
    refine ⟨fun c => fin (Or.inl ?_), fun c => ⟨fun c2 => fin (Or.inr ?_), fun c2 => w7_e2 (hn ?_ ?_)⟩⟩
    · have := (le_n (b := 0) (by omega) (by omega)).mp c; omega
    · rcases Nat.lt_or_ge a0 P with q | q
      · exact q
      · exact absurd (by rw [e1, (e2 (by omega)).1]; rfl) c2
    · intro k; subst k; exact c (by decide)
    · rcases Nat.lt_or_ge a0 P with q | q
      · rw [e1] at c2
        have := (eq_n (b := 0) (by omega) (by omega)).mp c2
        have := (e3 q).1
        omega
      · omega
  · intro n a t ha ⟨e1, e2, e3⟩ ih
    have tb := tc_le (c := fun a b => dc (PB sp a b p)) a1 a
    unfold wp_X7_parents_b34
    rw [show ((4 : Int32).toNatClampNeg) = 4 from rfl, b1]
    refine ⟨vi (n := 4) (by omega) (by omega), fun c => absurd c (nle ha (by omega)), fun _ y ey => ?_⟩
    rw [ey, i1]
    refine pk_loop (fun m b (u : Int32 × Int32 × Int32) => wp_X7_parents_b51 Q (wp_X7_parents_b34 Q s n) s m (nI p) (nI v) u.1 u.2.1 u.2.2 (nI a) (nI b) e) (fun b u => a < b ∧ u.1 = nI (tc (fun a b => dc (PB sp a b p)) P a + rc (fun b => dc (PB sp a b p)) a b) ∧ (¬ (a0 < a ∨ (a0 = a ∧ b0 < b)) → tc (fun a b => dc (PB sp a b p)) P a + rc (fun b => dc (PB sp a b p)) a b = 0 ∧ u.2.1 = -1 ∧ u.2.2 = -1) ∧ ((a0 < a ∨ (a0 = a ∧ b0 < b)) → 0 < tc (fun a b => dc (PB sp a b p)) P a + rc (fun b => dc (PB sp a b p)) a b ∧ u.2.1 = nI a0 ∧ u.2.2 = nI b0)) P (a + 1) t (by omega) ⟨by omega, by rw [rc_0 _ (Nat.le_refl _), Nat.add_zero]; exact e1, fun c => by rw [rc_0 _ (Nat.le_refl _), Nat.add_zero]; exact e2 (by omega), fun c => by rw [rc_0 _ (Nat.le_refl _), Nat.add_zero]; exact e3 (by omega)⟩ ?_ ?_
    · intro m u ⟨_, g1, g2, g3⟩
      unfold wp_X7_parents_b51
      rw [show ((4 : Int32).toNatClampNeg) = 4 from rfl, b1]
      refine ⟨vi (n := 4) (by omega) (by omega), fun _ y ey => ?_, fun c => absurd ((le_n (by omega) (by omega)).mpr (Nat.le_refl P)) c⟩
      rw [ey, i1]
      refine ih u ⟨g1, fun c => g2 (by omega), fun c => g3 ?_⟩
      rcases Nat.lt_or_ge a0 a with q | q
      · exact Or.inl q
      · have : a0 = a := by omega
        exact Or.inr ⟨this, (f4 (by omega)).1⟩
    · intro m b u hb ⟨hab, g1, g2, g3⟩ ih2
      have rb := rc_le (c := fun b => dc (PB sp a b p)) (a := a) b
      unfold wp_X7_parents_b51
      rw [show ((4 : Int32).toNatClampNeg) = 4 from rfl, b1]
      have no : ¬ PB sp a b p → ∀ y : Int32, y = nI b + 1 → wp_X7_parents_b51 Q (wp_X7_parents_b34 Q s n) s m (nI p) (nI v) u.1 u.2.1 u.2.2 (nI a) y e := by
        intro q y ey
        rw [ey, i1]
        have er' := rc_f (c := fun b => dc (PB sp a b p)) (a := a) (n := b) (dc_f.mpr q)
        have back : (a0 < a ∨ (a0 = a ∧ b0 < b + 1)) → (a0 < a ∨ (a0 = a ∧ b0 < b)) := by
          intro c
          rcases c with c | ⟨c, c2⟩
          · exact Or.inl c
          · refine Or.inr ⟨c, ?_⟩
            rcases Nat.lt_or_ge b0 b with k | k
            · exact k
            · have eb : b0 = b := by omega
              have := (f4 (by omega)).2
              rw [c, eb] at this
              exact absurd this q
        exact ih2 u ⟨by omega, by rw [er']; exact g1, fun c => by rw [er']; exact g2 (by omega), fun c => by rw [er']; exact g3 (back c)⟩
      refine ⟨vi (n := 4) (by omega) (by omega), fun c => absurd c (nle hb (by omega)), fun _ => ⟨fun c => no (fun q => q.1 ((eq_n (by omega) (by omega)).mp c)), fun c => ⟨fun c2 => no (fun q => q.2.1 ((eq_n (by omega) (by omega)).mp c2)), fun c2 => ?_⟩⟩⟩
      have na : a ≠ p := fun q => c (by rw [q])
      have nb : b ≠ p := fun q => c2 (by rw [q])
      refine w7_arePoured (by omega) (by omega) (by omega) (fun q => tD ?_) (fun q => tB (no (fun r => q ((pbs a b ha hb na nb).mpr r))))
      have hq := (pbs a b ha hb na nb).mp q
      have er' := rc_t (c := fun b => dc (PB sp a b p)) (a := a) hab (dc_t.mpr hq)
      have nlt' : ¬ (a < a0 ∨ (a = a0 ∧ b < b0)) := fun k => f3 a b hab hb k hq
      by_cases past : a0 < a ∨ (a0 = a ∧ b0 < b)
      · have n0 : ¬ u.1 = 0 := by
          rw [g1]
          intro k
          have := (eq_n (b := 0) (by omega) (by omega)).mp k
          have := (g3 past).1
          omega
        refine ⟨fun _ => ⟨fun _ x ex y ey => ?_, fun k => absurd k n0⟩, fun k => absurd k n0⟩
        rw [ey, i1, ex, g1, i1]
        exact ih2 (nI (tc (fun a b => dc (PB sp a b p)) P a + rc (fun b => dc (PB sp a b p)) a b + 1), u.2.1, u.2.2) ⟨by omega, by rw [er']; rfl, fun k => absurd (by omega) k, fun _ => by rw [er']; exact ⟨by omega, (g3 past).2⟩⟩
      · have ea : a = a0 := by omega
        have eb : b = b0 := by omega
        have z0 : u.1 = 0 := by rw [g1, (g2 past).1]; rfl
        refine ⟨fun k => absurd z0 k, fun _ => ⟨fun k => absurd z0 k, fun _ x ex y ey => ?_⟩⟩
        rw [ey, i1, ex, g1, i1]
        exact ih2 (nI (tc (fun a b => dc (PB sp a b p)) P a + rc (fun b => dc (PB sp a b p)) a b + 1), nI a, nI b) ⟨by omega, by rw [er']; rfl, fun k => absurd (by omega) k, fun _ => by rw [er']; exact ⟨by omega, by rw [ea], by rw [eb]⟩⟩
theorem op_parents (h : WR P Y B w z km fa mo fr sp ow tp tn tq wt s) (x1 x2 : Int32) (C : Int32 → V → Int32 → V → Prop) (hC : ∀ r e', C r e' r e') : wp_X6_parents x1 x2 (nI P) sp e (fun r e' => wp_X7_parents x1 x2 s e (fun r' e'' => C r e' r' e'')) := by
  obtain ⟨⟨a1, a2, a3, a4⟩, ⟨b1, b2, b3, b4, b5⟩, -⟩ := id h
  unfold wp_X6_parents
  rcases io x1 P (by omega) with ⟨p, hp, rfl⟩ | hx
  · rcases io x2 3 (by omega) with ⟨v, hv, rfl⟩ | hy
    · obtain ⟨a0, b0, hf⟩ := fp_ex P sp p
      (repeat (with_reducible (first | refine tA ?_ | refine tB ?_ | refine tC ?_ | refine tD ?_ | refine w6_one_in (by assumption) (by assumption) ?_ | refine w6_one_out (by assumption) (by assumption) ?_ | refine w7_one_in (by assumption) (by assumption) (by assumption) ?_ | refine w7_one_out (by assumption) (by assumption) (by assumption) ?_ | refine w6_two_in (by assumption) (by assumption) (by assumption) (by assumption) ?_ | refine w6_two_out (by assumption) (by assumption) ?_ | refine w7_two_in (by assumption) (by assumption) (by assumption) (by assumption) (by assumption) ?_ | refine w7_two_out (by assumption) (by assumption) (by assumption) ?_ | refine w6_sort_in (by assumption) ?_ | refine w6_sort_out (by assumption) ?_ | refine w7_sort_in (by assumption) ?_ | refine w7_sort_out (by assumption) ?_ | refine w6_km_in (by assumption) ?_ | refine w6_km_out (by assumption) ?_ | refine w7_kind_in (by assumption) ?_ | refine w7_kind_out (by assumption) ?_ | refine w6_sheet_in (by assumption) ?_ | refine w6_sheet_out (by assumption) ?_ | refine w7_sheet_in (by assumption) ?_ | refine w7_sheet_out (by assumption) ?_ | refine w6_e1 ?_ | refine w6_e2 ?_ | refine w6_e3 ?_ | refine w6_e4 ?_ | refine w6_e5 ?_ | refine w6_e6 ?_ | refine w7_e1 ?_ | refine w7_e2 ?_ | refine w7_e3 ?_ | refine w7_e4 ?_ | refine w7_e5 ?_ | refine w7_e6 ?_)))
      refine w6_within_in (lo := 0) (hi := 2) (by omega) (by omega) (by omega) (tB ⟨fun c => ?_, fun c => ?_⟩)
      · have v0 : v ≠ 0 := fun k => c (by rw [k]; rfl)
        refine w4_firstPairFor a1 hp hf (fun g => ⟨fun k => absurd k (by decide), fun _ => w6_e2 ?_⟩) (fun g => ⟨fun _ => ⟨fun k => ?_, fun k => ?_⟩, fun k => absurd ((le_n (a := 0) (by have := hf.1; have := (hf.2.2.2 g).1; omega) (by have := hf.1; have := (hf.2.2.2 g).1; omega)).mpr (by omega)) k⟩)
        · exact w7_parents h hp hv hf (fun k => absurd k v0) (fun _ _ => hC _ _) (fun _ k => by omega) (fun _ k => by omega)
        · have bl := (hf.2.2.2 g).1
          have v1 : v ≠ 1 := fun q => k (by rw [q]; rfl)
          rw [show (8 : Int32) = nI 8 from rfl, rm_n (by omega) (by omega) (by omega), show (8 * a0 + b0) % 8 = b0 by omega]
          exact w7_parents h hp hv hf (fun k => absurd k v0) (fun _ k => by omega) (fun k _ => absurd k v1) (fun _ _ => hC _ _)
        · have bl := (hf.2.2.2 g).1
          have v1 : v = 1 := (eq_n (b := 1) (by omega) (by omega)).mp k
          rw [show (8 : Int32) = nI 8 from rfl, dv (by omega) (by omega) (by omega), show (8 * a0 + b0) / 8 = a0 by omega]
          exact w7_parents h hp hv hf (fun k => absurd k v0) (fun _ k => by omega) (fun _ _ => hC _ _) (fun k _ => by omega)
      · have v0 : v = 0 := (eq_n (b := 0) (by omega) (by omega)).mp c
        exact w4_pairsFor a1 hp (w7_parents h hp hv hf (fun _ => hC _ _) (fun k _ => absurd v0 k) (fun k _ => by omega) (fun k _ => by omega))
    · (repeat (with_reducible (first | refine tA ?_ | refine tB ?_ | refine tC ?_ | refine tD ?_ | refine w6_one_in (by assumption) (by assumption) ?_ | refine w6_one_out (by assumption) (by assumption) ?_ | refine w7_one_in (by assumption) (by assumption) (by assumption) ?_ | refine w7_one_out (by assumption) (by assumption) (by assumption) ?_ | refine w6_two_in (by assumption) (by assumption) (by assumption) (by assumption) ?_ | refine w6_two_out (by assumption) (by assumption) ?_ | refine w7_two_in (by assumption) (by assumption) (by assumption) (by assumption) (by assumption) ?_ | refine w7_two_out (by assumption) (by assumption) (by assumption) ?_ | refine w6_sort_in (by assumption) ?_ | refine w6_sort_out (by assumption) ?_ | refine w7_sort_in (by assumption) ?_ | refine w7_sort_out (by assumption) ?_ | refine w6_km_in (by assumption) ?_ | refine w6_km_out (by assumption) ?_ | refine w7_kind_in (by assumption) ?_ | refine w7_kind_out (by assumption) ?_ | refine w6_sheet_in (by assumption) ?_ | refine w6_sheet_out (by assumption) ?_ | refine w7_sheet_in (by assumption) ?_ | refine w7_sheet_out (by assumption) ?_ | refine w6_e1 ?_ | refine w6_e2 ?_ | refine w6_e3 ?_ | refine w6_e4 ?_ | refine w6_e5 ?_ | refine w6_e6 ?_ | refine w7_e1 ?_ | refine w7_e2 ?_ | refine w7_e3 ?_ | refine w7_e4 ?_ | refine w7_e5 ?_ | refine w7_e6 ?_)))
      refine w6_within_out (hi := 2) (by omega) hy (tD (w6_e1 ?_))
      unfold wp_X7_parents
      refine w7_one_in hp a1 b1 (tD (w7_in_out (hi := 2) (by omega) hy (tA (w7_e1 (hC _ _)))))
  · (repeat (with_reducible (first | refine tA ?_ | refine tB ?_ | refine tC ?_ | refine tD ?_ | refine w6_one_in (by assumption) (by assumption) ?_ | refine w6_one_out (by assumption) (by assumption) ?_ | refine w7_one_in (by assumption) (by assumption) (by assumption) ?_ | refine w7_one_out (by assumption) (by assumption) (by assumption) ?_ | refine w6_two_in (by assumption) (by assumption) (by assumption) (by assumption) ?_ | refine w6_two_out (by assumption) (by assumption) ?_ | refine w7_two_in (by assumption) (by assumption) (by assumption) (by assumption) (by assumption) ?_ | refine w7_two_out (by assumption) (by assumption) (by assumption) ?_ | refine w6_sort_in (by assumption) ?_ | refine w6_sort_out (by assumption) ?_ | refine w7_sort_in (by assumption) ?_ | refine w7_sort_out (by assumption) ?_ | refine w6_km_in (by assumption) ?_ | refine w6_km_out (by assumption) ?_ | refine w7_kind_in (by assumption) ?_ | refine w7_kind_out (by assumption) ?_ | refine w6_sheet_in (by assumption) ?_ | refine w6_sheet_out (by assumption) ?_ | refine w7_sheet_in (by assumption) ?_ | refine w7_sheet_out (by assumption) ?_ | refine w6_e1 ?_ | refine w6_e2 ?_ | refine w6_e3 ?_ | refine w6_e4 ?_ | refine w6_e5 ?_ | refine w6_e6 ?_ | refine w7_e1 ?_ | refine w7_e2 ?_ | refine w7_e3 ?_ | refine w7_e4 ?_ | refine w7_e5 ?_ | refine w7_e6 ?_)))
    unfold wp_X7_parents
    refine w7_one_out a1 b1 hx (tB (w7_e1 (hC _ _)))
end PAIRS
