/-! nets -/
def sbm (bl : V) (S n : Nat) : Int32 := sm (fun p => if S.testBit p = true then bl p else 0) n
theorem sbm_t {bl : V} {S p : Nat} (h : S.testBit p = true) : sbm bl S (p + 1) = sbm bl S p + bl p := by
  unfold sbm; rw [sm]; simp only [h, if_true]
theorem sbm_f {bl : V} {S p : Nat} (h : ¬ S.testBit p = true) : sbm bl S (p + 1) = sbm bl S p := by
  unfold sbm; rw [sm]; simp only [h]; exact Int32.add_zero _
theorem sbm_cg {bl : V} {S T n : Nat} (h : ∀ p, p < n → (S.testBit p = T.testBit p ∨ bl p = 0)) : sbm bl S n = sbm bl T n := sm_congr n (fun p hp => by
  rcases h p hp with q | q
  · rw [q]
  · rw [q]; simp)
theorem x_lt : ∀ S, S < 256 → ∀ p, p < 8 → S.testBit p = true → S ^^^ 2 ^ p < S := by decide +kernel
theorem x_nd : ∀ S, S < 256 → ∀ p, p < 8 → S.testBit p = true → nd S (2 ^ p) = S ^^^ 2 ^ p := by decide +kernel
theorem x_tb (S p i : Nat) : (S ^^^ 2 ^ p).testBit i = (S.testBit i ^^ decide (p = i)) := by rw [Nat.testBit_xor, Nat.testBit_two_pow]
theorem x_ne {S p i : Nat} (h : p ≠ i) : (S ^^^ 2 ^ p).testBit i = S.testBit i := by rw [x_tb, decide_eq_false h, Bool.xor_false]
theorem p_or : ∀ p, p < 8 → ∀ S, S < 2 ^ p → S ||| 2 ^ p = S + 2 ^ p := by
  intro p _ S hS
  have := Nat.two_pow_add_eq_or_of_lt hS 1
  rw [Nat.mul_one] at this
  rw [Nat.or_comm, ← this, Nat.add_comm]
def MX (g : Nat → Nat) (S : Nat) : Nat → Nat
  | 0 => 0
  | p + 1 => if S.testBit p = true then max (MX g S p) (g (S ^^^ 2 ^ p)) else MX g S p
theorem MX_cg {g g' : Nat → Nat} {S : Nat} : ∀ n, (∀ p, p < n → S.testBit p = true → g (S ^^^ 2 ^ p) = g' (S ^^^ 2 ^ p)) → MX g S n = MX g' S n
  | 0, _ => rfl
  | n + 1, h => by
    rw [MX, MX, MX_cg n (fun p hp => h p (by omega))]
    by_cases c : S.testBit n = true
    · rw [if_pos c, if_pos c, h n (by omega) c]
    · rw [if_neg c, if_neg c]
theorem MX_le {g : Nat → Nat} {S b : Nat} : ∀ n, (∀ p, p < n → S.testBit p = true → g (S ^^^ 2 ^ p) ≤ b) → MX g S n ≤ b
  | 0, _ => Nat.zero_le b
  | n + 1, h => by
    have ih := MX_le n (fun p hp => h p (by omega))
    rw [MX]
    by_cases c : S.testBit n = true
    · rw [if_pos c]
      have := h n (by omega) c
      omega
    · rw [if_neg c]; exact ih
theorem MX_ge {g : Nat → Nat} {S p : Nat} (hs : S.testBit p = true) : ∀ n, p < n → g (S ^^^ 2 ^ p) ≤ MX g S n
  | 0, h => absurd h (Nat.not_lt_zero p)
  | n + 1, h => by
    rw [MX]
    by_cases c : S.testBit n = true
    · rw [if_pos c]
      by_cases d : p = n
      · subst d; omega
      · have := MX_ge (g := g) hs n (by omega)
        omega
    · rw [if_neg c]
      by_cases d : p = n
      · subst d; exact absurd hs c
      · exact MX_ge hs n (by omega)
/-- a set whose balances are 0 together counts one -/
def zc (bl : V) (P S : Nat) : Nat := if sbm bl S P = 0 then 1 else 0
theorem zc_le (bl : V) (P S : Nat) : zc bl P S ≤ 1 := by unfold zc; by_cases c : sbm bl S P = 0 <;> simp [c]
def Gs (bl : V) (P : Nat) (g : Nat → Nat) (n : Nat) : Prop := g 0 = 0 ∧ (∀ S, 0 < S → S < n → g S = MX g S P + zc bl P S) ∧ ∀ S, S < n → g S ≤ S
theorem Gs.next {bl : V} {P : Nat} {g : Nat → Nat} {n : Nat} (hP : P ≤ 8) (h : Gs bl P g n) (h0 : 0 < n) (hn : n < 256) : Gs bl P (fun T => if T = n then MX g n P + zc bl P n else g T) (n + 1) := by
  obtain ⟨h1, h2, h3⟩ := h
  have cg : ∀ S, S < n + 1 → MX g S P = MX (fun T => if T = n then MX g n P + zc bl P n else g T) S P := fun S hS => MX_cg P (fun p hp hb => by
    have := x_lt S (by omega) p (by omega) hb
    show _ = if _ then _ else _
    rw [if_neg (by omega)])
  refine ⟨?_, fun S s1 s2 => ?_, fun S hS => ?_⟩
  · show (if 0 = n then _ else _) = 0
    rw [if_neg (by omega)]; exact h1
  · rw [← cg S s2]
    show (if S = n then _ else _) = _
    by_cases c : S = n
    · subst c; rw [if_pos rfl]
    · rw [if_neg c]; exact h2 S s1 (by omega)
  · show (if S = n then _ else _) ≤ S
    by_cases c : S = n
    · subst c
      rw [if_pos rfl]
      have zl := zc_le bl P S
      have : MX g S P ≤ S - 1 := MX_le P (fun p hp hb => by
        have q1 := x_lt S hn p (by omega) hb
        have q2 := h3 (S ^^^ 2 ^ p) q1
        omega)
      omega
    · rw [if_neg c]; exact h3 S (by omega)
theorem zc_1 {bl : V} {P S : Nat} (h : sbm bl S P = 0) : zc bl P S = 1 := if_pos h
theorem zc_0 {bl : V} {P S : Nat} (h : ¬ sbm bl S P = 0) : zc bl P S = 0 := if_neg h
theorem max_n {a b : Nat} (ha : a < 1000) (hb : b < 1000) : (if nI a < nI b then nI b else nI a) = nI (max a b) := by
  by_cases c : a < b
  · rw [if_pos ((lt_n (by omega) (by omega)).mpr c)]; congr 1; omega
  · rw [if_neg (nlt (by omega) (by omega))]; congr 1; omega
/-- the class's search -/
theorem w4_fewest {P : Nat} (hP : P ≤ 8) {ow su gr : V} (s0 : su 0 = 0) (g0 : gr 0 = 0) {Q : Int32 → V → V → Prop} (hQ : ∀ g su' gr', Gs (fun p => bal ow p P) P g (2 ^ P) → su' 0 = 0 → gr' 0 = 0 → Q (nI P - nI (g (2 ^ P - 1))) su' gr') : wp_X4_fewestPayments su gr (nI P) ow Q := by
  obtain ⟨p1, p2⟩ := p2_le hP
  unfold wp_X4_fewestPayments
  refine loop_0 (fun n p (t : V × V) => wp_X4_fewestPayments_b2 Q (nI P) ow n (nI p) t.1 t.2) (fun p t => t.2 = gr ∧ ∀ S, S < 2 ^ p → t.1 S = sbm (fun p => bal ow p P) S p) P (su, gr) ⟨rfl, fun S hS => ?_⟩ ?_ ?_
  · have : S = 0 := by rw [Nat.pow_zero] at hS; omega
    subst this
    exact s0
  · intro n t ⟨tg, ts⟩
    unfold wp_X4_fewestPayments_b2
    refine ⟨fun _ x2 e2 => ?_, fun c => absurd ((le_n (by omega) (by omega)).mpr (Nat.le_refl P)) c⟩
    rw [nb_1 (by omega)] at e2
    rw [e2]
    refine pk_loop (fun m S (u : V × V) => wp_X4_fewestPayments_b68 Q (nI P) ow m (nI (2 ^ P)) (nI S) u.1 u.2) (fun S u => 0 < S ∧ u.1 = t.1 ∧ ∃ g, Gs (fun p => bal ow p P) P g S ∧ ∀ T, T < S → u.2 T = nI (g T)) (2 ^ P) 1 t (by omega) ⟨by omega, rfl, fun _ => 0, ⟨rfl, fun S s1 s2 => by omega, fun S hS => Nat.zero_le S⟩, fun T hT => by rw [show T = 0 by omega, tg]; exact g0⟩ ?_ ?_
    · intro m u ⟨_, u1, g, hg, hu⟩
      unfold wp_X4_fewestPayments_b68
      rw [l1, sb (by omega), cl (by omega), hu _ (by omega)]
      refine ⟨fun _ => ⟨vi (by omega) (by omega), ?_⟩, fun c => absurd ((le_n (by omega) (by omega)).mpr (Nat.le_refl _)) c⟩
      exact hQ g _ _ hg (by rw [u1, ts 0 (by omega)]; exact sbm_cg (T := 0) (fun p hp => Or.inl rfl) |>.trans (by
        have : ∀ n, sbm (fun p => bal ow p P) 0 n = 0 := fun n => by
          induction n with
          | zero => rfl
          | succ n ih => rw [sbm_f (by rw [Nat.zero_testBit]; decide), ih]
        exact this P)) (by rw [hu 0 (by omega), hg.1]; rfl)
    · intro m S u hS ⟨hS0, u1, g, hg, hu⟩ ih
      unfold wp_X4_fewestPayments_b68
      refine ⟨fun c => absurd c (nle hS (by omega)), fun _ => ?_⟩
      refine loop_0 (fun m2 p (v : Int32) => wp_X4_fewestPayments_b79 Q (wp_X4_fewestPayments_b68 Q (nI P) ow m) (nI P) ow m2 (nI (2 ^ P)) (nI S) v (nI p) u.1 u.2) (fun p v => v = nI (MX g S p) ∧ MX g S p < S) P 0 ⟨rfl, hS0⟩ ?_ ?_
      · intro m2 v ⟨ev, lv⟩
        have fin : ∀ (r : Int32) (gr' : V), r = nI (zc (fun p => bal ow p P) P S) → gr' = upd u.2 S (v + r) → wp_X4_fewestPayments_b68 Q (nI P) ow m (nI (2 ^ P)) (nI (S + 1)) u.1 gr' := by
          intro r gr' er eg
          refine ih (u.1, gr') ⟨by omega, u1, _, hg.next hP hS0 (by omega), fun T hT => ?_⟩
          show gr' T = nI (if T = S then _ else _)
          rw [eg, er, ev, ad]
          by_cases c : T = S
          · subst c; rw [us, if_pos rfl]
          · rw [un c, if_neg c]; exact hu T (by omega)
        have es : u.1 S = sbm (fun p => bal ow p P) S P := by rw [u1]; exact ts S hS
        unfold wp_X4_fewestPayments_b79
        rw [cl (by omega), es]
        refine ⟨fun _ => ⟨vi (by omega) (by omega), fun c => ?_, fun c => ?_⟩, fun c => absurd ((le_n (by omega) (by omega)).mpr (Nat.le_refl P)) c⟩
        · refine w6_truth ⟨vi (by omega) (by omega), fun gr' eg y ey => ?_⟩
          rw [ey, i1]
          exact fin _ gr' (by rw [zc_0 c]; rfl) eg
        · refine w6_truth ⟨vi (by omega) (by omega), fun gr' eg y ey => ?_⟩
          rw [ey, i1]
          exact fin _ gr' (by rw [zc_1 c]; rfl) eg
      · intro m2 p v hp ⟨ev, lv⟩ ih2
        unfold wp_X4_fewestPayments_b79
        refine ⟨fun c => absurd c (nle hp (by omega)), fun _ => ⟨fun c y ey => ?_, fun c => ?_⟩⟩
        · rw [ey, i1]
          have nb : ¬ S.testBit p = true := fun q => c ((nb_t (by omega) (by omega)).mpr q)
          have em : MX g S (p + 1) = MX g S p := by rw [MX, if_neg nb]
          exact ih2 v ⟨by rw [em]; exact ev, by rw [em]; exact lv⟩
        · have tb := (nb_t (by omega) (by omega)).mp c
          have xl := x_lt S (by omega) p (by omega) tb
          have gl := hg.2.2 _ (Nat.lt_trans xl (Nat.lt_succ_self S) |> fun _ => xl)
          have em : MX g S (p + 1) = max (MX g S p) (g (S ^^^ 2 ^ p)) := by rw [MX, if_pos tb]
          rw [nb_1 (by omega), nb_xor, cl (by omega), hu _ xl, ev, max_n (by omega) (by omega)]
          refine ⟨vi (by omega) (by omega), fun x ex y ey => ?_⟩
          rw [ey, i1]
          exact ih2 x ⟨by rw [ex, em], by rw [em]; omega⟩
  · intro n p t hp ⟨tg, ts⟩ ih
    have q1 : 2 ^ p ≤ 2 ^ 7 := Nat.pow_le_pow_right (by omega) (by omega)
    have q3 : (2 : Nat) ^ 7 = 128 := rfl
    have q4 : 2 ^ (p + 1) = 2 ^ p + 2 ^ p := by rw [Nat.pow_succ]; omega
    unfold wp_X4_fewestPayments_b2
    refine ⟨fun c => absurd c (nle hp (by omega)), fun _ => w5_balanceOf hp hP ?_⟩
    refine loop_0 (fun m T (u : V) => wp_X4_fewestPayments_b19 Q (wp_X4_fewestPayments_b2 Q (nI P) ow n) (nI P) ow m (nI p) (bal ow p P) (nI T) u t.2) (fun T u => (∀ S, S < 2 ^ p → u S = sbm (fun p => bal ow p P) S p) ∧ ∀ S, S < T → u (S + 2 ^ p) = sbm (fun p => bal ow p P) (S + 2 ^ p) (p + 1)) (2 ^ p) t.1 ⟨ts, fun S hS => absurd hS (Nat.not_lt_zero S)⟩ ?_ ?_
    · intro m u ⟨u1, u2⟩
      unfold wp_X4_fewestPayments_b19
      rw [nb_1 (by omega)]
      refine ⟨fun _ y ey => ?_, fun c => absurd ((le_n (by omega) (by omega)).mpr (Nat.le_refl _)) c⟩
      rw [ey, i1]
      refine ih (u, t.2) ⟨tg, fun S hS => ?_⟩
      show u S = _
      rcases Nat.lt_or_ge S (2 ^ p) with c | c
      · rw [u1 S c, sbm_f (by rw [Nat.testBit_lt_two_pow c]; decide)]
      · have := u2 (S - 2 ^ p) (by omega)
        rw [show S - 2 ^ p + 2 ^ p = S by omega] at this
        exact this
    · intro m T u hT ⟨u1, u2⟩ ih2
      unfold wp_X4_fewestPayments_b19
      rw [nb_1 (by omega), nb_or, p_or p (by omega) T hT, cl (by omega), cl (by omega)]
      refine ⟨fun c => absurd c (nle hT (by omega)), fun _ => ⟨vi (by omega) (by omega), vi (by omega) (by omega), fun u' eu y ey => ?_⟩⟩
      rw [ey, i1]
      refine ih2 u' ⟨fun S hS => by rw [eu, un (by omega)]; exact u1 S hS, fun S hS => ?_⟩
      rw [eu]
      by_cases c : S = T
      · subst c
        have tp : (S + 2 ^ p).testBit p = true := by rw [← p_or p (by omega) S hT, Nat.testBit_or, Nat.testBit_two_pow, decide_eq_true rfl, Bool.or_true]
        rw [us, sbm_t tp, u1 S hT]
        congr 1
        refine sbm_cg (fun i hi => Or.inl ?_)
        rw [← p_or p (by omega) S hT, Nat.testBit_or, Nat.testBit_two_pow, decide_eq_false (by omega), Bool.or_false]
      · rw [un (by omega)]; exact u2 S (by omega)
/-- whose balance is not 0 -/
def ZM (bl : V) : Nat → Nat
  | 0 => 0
  | p + 1 => if bl p = 0 then ZM bl p else ZM bl p ||| 2 ^ p
def ZN (bl : V) : Nat → Nat
  | 0 => 0
  | p + 1 => if bl p = 0 then ZN bl p else ZN bl p + 1
theorem ZM_lt (bl : V) : ∀ n, ZM bl n < 2 ^ n
  | 0 => (by decide : 0 < 1)
  | n + 1 => by
    have ih := ZM_lt bl n
    have q4 : 2 ^ (n + 1) = 2 ^ n + 2 ^ n := by rw [Nat.pow_succ]; omega
    rw [ZM]
    by_cases c : bl n = 0
    · rw [if_pos c]; omega
    · rw [if_neg c]; exact Nat.or_lt_two_pow (by omega) (by have := Nat.pow_pos (n := n) (show 0 < 2 by omega); omega)
theorem ZM_t (bl : V) (i : Nat) : ∀ n, i < n → ((ZM bl n).testBit i = true ↔ ¬ bl i = 0)
  | 0, h => absurd h (Nat.not_lt_zero i)
  | n + 1, h => by
    rw [ZM]
    by_cases d : i = n
    · subst d
      by_cases c : bl i = 0
      · rw [if_pos c, Nat.testBit_lt_two_pow (ZM_lt bl i)]
        exact ⟨fun q => absurd q (by decide), fun q => absurd c q⟩
      · rw [if_neg c, Nat.testBit_or, Nat.testBit_two_pow, decide_eq_true rfl, Bool.or_true]
        exact ⟨fun _ => c, fun _ => rfl⟩
    · have ih := ZM_t bl i n (by omega)
      by_cases c : bl n = 0
      · rw [if_pos c]; exact ih
      · rw [if_neg c, Nat.testBit_or, Nat.testBit_two_pow, decide_eq_false (by omega), Bool.or_false]; exact ih
theorem ZN_le (bl : V) : ∀ n, ZN bl n ≤ n
  | 0 => Nat.le_refl 0
  | n + 1 => by
    have ih := ZN_le bl n
    rw [ZN]
    by_cases c : bl n = 0
    · rw [if_pos c]; omega
    · rw [if_neg c]; omega
def Hs (bl : V) (P Z : Nat) (g : Nat → Nat) (n : Nat) : Prop := g 0 = 0 ∧ (∀ S, 0 < S → S < n → nd S Z = 0 → g S = MX g S P + zc bl P S) ∧ ∀ S, S < n → nd S Z = 0 → g S ≤ S
theorem nd_x {S Z p : Nat} (h : nd S Z = 0) (hb : S.testBit p = true) : nd (S ^^^ 2 ^ p) Z = 0 := by
  have e : ∀ i, (S.testBit i && !(Z.testBit i)) = false := fun i => by rw [← nd_t, h, Nat.zero_testBit]
  refine Nat.eq_of_testBit_eq (fun i => ?_)
  rw [nd_t, x_tb, Nat.zero_testBit]
  have := e i
  by_cases c : p = i
  · subst c
    rw [hb] at this ⊢
    rw [decide_eq_true rfl]; rfl
  · rw [decide_eq_false c, Bool.xor_false]; exact this
theorem Hs.next {bl : V} {P Z : Nat} {g : Nat → Nat} {n : Nat} (hP : P ≤ 8) (h : Hs bl P Z g n) (h0 : 0 < n) (hn : n < 256) (hz : nd n Z = 0) : Hs bl P Z (fun T => if T = n then MX g n P + zc bl P n else g T) (n + 1) := by
  obtain ⟨h1, h2, h3⟩ := h
  have cg : ∀ S, S < n + 1 → MX g S P = MX (fun T => if T = n then MX g n P + zc bl P n else g T) S P := fun S hS => MX_cg P (fun p hp hb => by
    have := x_lt S (by omega) p (by omega) hb
    show _ = if _ then _ else _
    rw [if_neg (by omega)])
  refine ⟨?_, fun S s1 s2 s3 => ?_, fun S hS s3 => ?_⟩
  · show (if 0 = n then _ else _) = 0
    rw [if_neg (by omega)]; exact h1
  · rw [← cg S s2]
    show (if S = n then _ else _) = _
    by_cases c : S = n
    · subst c; rw [if_pos rfl]
    · rw [if_neg c]; exact h2 S s1 (by omega) s3
  · show (if S = n then _ else _) ≤ S
    by_cases c : S = n
    · subst c
      rw [if_pos rfl]
      have zl := zc_le bl P S
      have : MX g S P ≤ S - 1 := MX_le P (fun p hp hb => by
        have q1 := x_lt S hn p (by omega) hb
        have q2 := h3 (S ^^^ 2 ^ p) q1 (nd_x s3 hb)
        omega)
      omega
    · rw [if_neg c]; exact h3 S (by omega) s3
/-- the model's search -/
theorem w7_fewest {P : Nat} (hP : P ≤ 8) {s ow su pa : V} (h4 : s 4 = nI P) (ho : ∀ a b, a < P → b < P → s (78 + 8 * a + b) = ow (8 * a + b)) {Q : Int32 → V → V → Prop} (hQ : ∀ g su' pa', Hs (fun p => bal ow p P) P (ZM (fun p => bal ow p P) P) g (ZM (fun p => bal ow p P) P + 1) → Q (nI (ZN (fun p => bal ow p P) P) - nI (g (ZM (fun p => bal ow p P) P))) su' pa') : wp_X7_fewestPayments s su pa Q := by
  obtain ⟨p1, p2⟩ := p2_le hP
  have blc : ∀ p, p < P → bal (fun i => s (78 + i)) p P = bal ow p P := fun p hp => bal_congr hp (fun a b ha hb => by rw [← ho a b ha hb]; show s _ = s _; congr 1; omega) P (Nat.le_refl P)
  have zl := ZM_lt (fun p => bal ow p P) P
  unfold wp_X7_fewestPayments
  refine loop_0 (fun n p (t : Int32 × Int32) => wp_X7_fewestPayments_b6 Q s n t.1 t.2 (nI p) su pa) (fun p t => t.1 = nI (ZM (fun p => bal ow p P) p) ∧ t.2 = nI (ZN (fun p => bal ow p P) p)) P (0, 0) ⟨rfl, rfl⟩ ?_ ?_
  · intro n t ⟨t1, t2⟩
    generalize ZM (fun p => bal ow p P) P = Z at t1 hQ zl
    unfold wp_X7_fewestPayments_b6
    rw [show ((4 : Int32).toNatClampNeg) = 4 from rfl, h4, show ((0 : Int32).toNatClampNeg) = 0 from rfl]
    refine ⟨vi (n := 4) (by omega) (by omega), fun _ => ⟨vi (n := 0) (by omega) (by omega), fun su1 e1 => ⟨vi (n := 0) (by omega) (by omega), fun pa1 e2 => ?_⟩⟩, fun c => absurd ((le_n (by omega) (by omega)).mpr (Nat.le_refl P)) c⟩
    rw [t1]
    refine pk_loop (fun m S (u : V × V) => wp_X7_fewestPayments_b72 Q s m (nI Z) t.2 (nI S) u.1 u.2) (fun S u => 0 < S ∧ ∃ g, Hs (fun p => bal ow p P) P Z g S ∧ ∀ T, T < S → nd T Z = 0 → u.2 T = nI (g T)) (Z + 1) 1 (su1, pa1) (by omega) ⟨by omega, fun _ => 0, ⟨rfl, fun S s1 s2 => by omega, fun S hS _ => Nat.zero_le S⟩, fun T hT _ => by rw [show T = 0 by omega]; show pa1 0 = _; rw [e2, us]; rfl⟩ ?_ ?_
    · intro m u ⟨_, g, hg, hu⟩
      have nz : nd Z Z = 0 := Nat.eq_of_testBit_eq (fun i => by rw [nd_t, Nat.zero_testBit]; cases Z.testBit i <;> rfl)
      unfold wp_X7_fewestPayments_b72
      rw [cl (by omega), hu Z (by omega) nz, t2]
      exact ⟨fun _ => ⟨vi (by omega) (by omega), hQ g _ _ hg⟩, fun c => absurd ((lt_n (by omega) (by omega)).mpr (Nat.lt_succ_self Z)) c⟩
    · intro m S u hS ⟨hS0, g, hg, hu⟩ ih
      unfold wp_X7_fewestPayments_b72
      rw [nb_nd]
      have ndl : nd S Z < 2 ^ 8 := by
        unfold nd
        exact Nat.xor_lt_two_pow (by omega) (Nat.and_lt_two_pow S (by omega))
      refine ⟨fun c => absurd c (nlt (by omega) (by omega)), fun _ => ⟨fun c y ey => ?_, fun c => ?_⟩⟩
      · have nz : ¬ nd S Z = 0 := fun q => c (by rw [q]; rfl)
        rw [ey, i1]
        refine ih u ⟨by omega, g, ⟨hg.1, fun T q1 q2 q3 => ?_, fun T q2 q3 => ?_⟩, fun T q2 q3 => ?_⟩
        · have : T ≠ S := fun k => nz (by rw [← k]; exact q3)
          exact hg.2.1 T q1 (by omega) q3
        · have : T ≠ S := fun k => nz (by rw [← k]; exact q3)
          exact hg.2.2 T (by omega) q3
        · have : T ≠ S := fun k => nz (by rw [← k]; exact q3)
          exact hu T (by omega) q3
      · have nz : nd S Z = 0 := (eq_n (b := 0) (by omega) (by omega)).mp c
        refine loop_0 (fun m2 p (v : Int32 × Int32) => wp_X7_fewestPayments_b94 Q (wp_X7_fewestPayments_b72 Q s m) s m2 (nI Z) t.2 (nI S) v.1 v.2 (nI p) u.1 u.2) (fun p v => v.1 = sbm (fun p => bal ow p P) S p ∧ v.2 = nI (MX g S p) ∧ MX g S p < S) P (0, 0) ⟨rfl, rfl, hS0⟩ ?_ ?_
        · intro m2 v ⟨v1, v2, v3⟩
          have fin : ∀ (pa' su' : V), pa' = upd u.2 S (nI (MX g S P + zc (fun p => bal ow p P) P S)) → wp_X7_fewestPayments_b72 Q s m (nI Z) t.2 (nI (S + 1)) su' pa' := by
            intro pa' su' eg
            refine ih (su', pa') ⟨by omega, _, hg.next hP hS0 (by omega) nz, fun T hT q3 => ?_⟩
            show pa' T = nI (if T = S then _ else _)
            rw [eg]
            by_cases k : T = S
            · subst k; rw [us, if_pos rfl]
            · rw [un k, if_neg k]; exact hu T (by omega) q3
          unfold wp_X7_fewestPayments_b94
          rw [show ((4 : Int32).toNatClampNeg) = 4 from rfl, h4, cl (by omega)]
          refine ⟨vi (n := 4) (by omega) (by omega), fun _ => ⟨vi (by omega) (by omega), fun su' es => ⟨fun k => ⟨vi (by omega) (by omega), fun pa' ep y ey => ?_⟩, fun k => ⟨vi (by omega) (by omega), fun pa' ep y ey => ?_⟩⟩⟩, fun c => absurd ((le_n (by omega) (by omega)).mpr (Nat.le_refl P)) c⟩
          · rw [ey, i1]
            refine fin pa' su' ?_
            rw [ep, v2, zc_0 (by rw [← v1]; exact k)]; rfl
          · rw [ey, i1]
            refine fin pa' su' ?_
            rw [ep, v2, zc_1 (by rw [← v1]; exact k), i1]
        · intro m2 p v hp ⟨v1, v2, v3⟩ ih2
          unfold wp_X7_fewestPayments_b94
          rw [show ((4 : Int32).toNatClampNeg) = 4 from rfl, h4]
          refine ⟨vi (n := 4) (by omega) (by omega), fun c => absurd c (nle hp (by omega)), fun _ => ⟨fun k y ey => ?_, fun k => w7_balance hp hP h4 (fun x4 e4 => ?_)⟩⟩
          · rw [ey, i1]
            have nb : ¬ S.testBit p = true := fun q => k ((nb_t (by omega) (by omega)).mpr q)
            have em : MX g S (p + 1) = MX g S p := by rw [MX, if_neg nb]
            exact ih2 v ⟨by rw [sbm_f nb]; exact v1, by rw [em]; exact v2, by rw [em]; exact v3⟩
          · have tb := (nb_t (by omega) (by omega)).mp k
            have xl := x_lt S (by omega) p (by omega) tb
            have xz := nd_x nz tb
            have gl := hg.2.2 _ xl xz
            have em : MX g S (p + 1) = max (MX g S p) (g (S ^^^ 2 ^ p)) := by rw [MX, if_pos tb]
            have es : x4 = sbm (fun p => bal ow p P) S (p + 1) := by rw [e4, blc p hp, v1, sbm_t tb]
            rw [nb_1 (by omega), nb_nd, x_nd S (by omega) p (by omega) tb, cl (by omega), hu _ xl xz]
            refine ⟨vi (by omega) (by omega), fun x7 e7 => ⟨fun k2 y ey => ?_, fun k2 y ey => ?_⟩⟩
            · rw [e7, v2] at k2
              have := (le_n (by omega) (by omega)).mp k2
              rw [ey, i1]
              refine ih2 (x4, v.2) ⟨es, ?_, ?_⟩
              · show v.2 = _
                rw [v2, em]; congr 1; omega
              · rw [em]; omega
            · rw [e7, v2] at k2
              have k3 : ¬ g (S ^^^ 2 ^ p) ≤ MX g S p := fun q => k2 ((le_n (by omega) (by omega)).mpr q)
              rw [ey, i1]
              refine ih2 (x4, x7) ⟨es, ?_, ?_⟩
              · show x7 = _
                rw [e7, em]; congr 1; omega
              · rw [em]; omega
  · intro n p t hp ⟨t1, t2⟩ ih
    have zz : ZM (fun p => bal ow p P) (p + 1) = if bal ow p P = 0 then ZM (fun p => bal ow p P) p else ZM (fun p => bal ow p P) p ||| 2 ^ p := rfl
    have zn : ZN (fun p => bal ow p P) (p + 1) = if bal ow p P = 0 then ZN (fun p => bal ow p P) p else ZN (fun p => bal ow p P) p + 1 := rfl
    unfold wp_X7_fewestPayments_b6
    rw [show ((4 : Int32).toNatClampNeg) = 4 from rfl, h4]
    refine ⟨vi (n := 4) (by omega) (by omega), fun c => absurd c (nle hp (by omega)), fun _ => w7_balance hp hP h4 ?_⟩
    rw [blc p hp]
    refine ⟨fun c x ex => w7_balance hp hP h4 ?_, fun c x ex => w7_balance hp hP h4 ?_⟩
    · rw [blc p hp]
      refine ⟨fun _ x2 ex2 y ey => ?_, fun c2 => absurd c c2⟩
      rw [ey, i1, ex2, ex, or0]
      refine ih (t.1, t.2 + 0) ⟨by rw [zz, if_pos c]; exact t1, ?_⟩
      show t.2 + 0 = _
      rw [zn, if_pos c, Int32.add_zero]; exact t2
    · rw [blc p hp]
      refine ⟨fun c2 => absurd c2 c, fun _ x2 ex2 y ey => ?_⟩
      rw [ey, i1, ex2, ex]
      refine ih (_, _) ⟨?_, ?_⟩
      · show t.1 ||| _ = _
        rw [zz, if_neg c, t1, nb_1 (by omega), nb_or]
      · show t.2 + 1 = _
        rw [zn, if_neg c, t2, i1]
/-- how many of a set have balance 0 -/
def c0 (bl : V) (S : Nat) : Nat → Nat
  | 0 => 0
  | q + 1 => if S.testBit q = true ∧ bl q = 0 then c0 bl S q + 1 else c0 bl S q
theorem c0_n {bl : V} {S p : Nat} (hb : ¬ bl p = 0) : ∀ n, c0 bl (S ^^^ 2 ^ p) n = c0 bl S n
  | 0 => rfl
  | n + 1 => by
    rw [c0, c0, c0_n hb n]
    by_cases d : p = n
    · subst d; rw [if_neg (fun q => hb q.2), if_neg (fun q => hb q.2)]
    · rw [x_ne d]
theorem c0_z {bl : V} {S p : Nat} (hb : bl p = 0) (hs : S.testBit p = true) : ∀ n, (n ≤ p → c0 bl (S ^^^ 2 ^ p) n = c0 bl S n) ∧ (p < n → c0 bl (S ^^^ 2 ^ p) n + 1 = c0 bl S n)
  | 0 => ⟨fun _ => rfl, fun c => absurd c (Nat.not_lt_zero p)⟩
  | n + 1 => by
    obtain ⟨h1, h2⟩ := c0_z hb hs n
    refine ⟨fun c => ?_, fun c => ?_⟩
    · rw [c0, c0, x_ne (by omega), h1 (by omega)]
    · by_cases d : p = n
      · subst d
        rw [c0, c0, if_neg, if_pos ⟨hs, hb⟩, h1 (Nat.le_refl p)]
        rw [x_tb, hs, decide_eq_true rfl]
        exact fun q => absurd q.1 (by decide)
      · rw [c0, c0, x_ne d]
        by_cases e : S.testBit n = true ∧ bl n = 0
        · rw [if_pos e, if_pos e, ← h2 (by omega)]
        · rw [if_neg e, if_neg e]; exact h2 (by omega)
theorem c0_0 (bl : V) : ∀ n, c0 bl 0 n = 0
  | 0 => rfl
  | n + 1 => by rw [c0, if_neg (fun q => by rw [Nat.zero_testBit] at q; exact absurd q.1 (by decide))]; exact c0_0 bl n
theorem c0_pos {bl : V} {S p : Nat} (hb : bl p = 0) (hs : S.testBit p = true) : ∀ n, p < n → 0 < c0 bl S n := fun n hn => by
  have := (c0_z hb hs n).2 hn
  omega
theorem ex_bit {S : Nat} (h : S ≠ 0) : ∃ p, S.testBit p = true := Nat.exists_testBit_of_ne_zero h
theorem nets_eq {bl : V} {P : Nat} (hP : P ≤ 8) {g h : Nat → Nat} (hg : Gs bl P g (2 ^ P)) (hh : Hs bl P (ZM bl P) h (ZM bl P + 1)) : ∀ S, S < 2 ^ P → g S = h (S &&& ZM bl P) + c0 bl S P := by
  obtain ⟨p1, p2⟩ := p2_le hP
  have zl := ZM_lt bl P
  obtain ⟨g0, g1, g2⟩ := hg
  obtain ⟨h0, h1, h2⟩ := hh
  have inP : ∀ S, S < 2 ^ P → ∀ p, S.testBit p = true → p < P := fun S hS p hb => by
    rcases Nat.lt_or_ge p P with c | c
    · exact c
    · rw [Nat.testBit_lt_two_pow (Nat.lt_of_lt_of_le hS (Nat.pow_le_pow_right (by omega) c))] at hb
      exact absurd hb (by decide)
  intro S
  induction S using Nat.strongRecOn with
  | _ S ih =>
    intro hS
    rcases Nat.eq_zero_or_pos S with e | e
    · subst e
      rw [Nat.zero_and, g0, h0, c0_0]
    · have gs := g1 S e hS
      have Ale : S &&& ZM bl P ≤ ZM bl P := Nat.and_le_right
      have An : nd (S &&& ZM bl P) (ZM bl P) = 0 := Nat.eq_of_testBit_eq (fun i => by
        rw [nd_t, Nat.testBit_and, Nat.zero_testBit]
        cases S.testBit i <;> cases (ZM bl P).testBit i <;> rfl)
      have sz : sbm bl S P = sbm bl (S &&& ZM bl P) P := sbm_cg (fun p hp => by
        rw [Nat.testBit_and]
        by_cases c : bl p = 0
        · exact Or.inr c
        · left; rw [(ZM_t bl p P hp).mpr c, Bool.and_true])
      have stepZ : ∀ p, S.testBit p = true → bl p = 0 → g (S ^^^ 2 ^ p) + 1 = h (S &&& ZM bl P) + c0 bl S P := by
        intro p hb hz
        have pP := inP S hS p hb
        have xl := x_lt S (by omega) p (by omega) hb
        have e1 : (S ^^^ 2 ^ p) &&& ZM bl P = S &&& ZM bl P := Nat.eq_of_testBit_eq (fun i => by
          rw [Nat.testBit_and, Nat.testBit_and]
          by_cases c : p = i
          · subst c
            have : (ZM bl P).testBit p = false := by
              cases q : (ZM bl P).testBit p
              · rfl
              · exact absurd hz ((ZM_t bl p P pP).mp q)
            rw [this, Bool.and_false, Bool.and_false]
          · rw [x_ne c])
        have := ih _ xl (by omega)
        rw [e1] at this
        have q := (c0_z hz hb P).2 pP
        omega
      have stepN : ∀ p, S.testBit p = true → ¬ bl p = 0 → g (S ^^^ 2 ^ p) = h ((S &&& ZM bl P) ^^^ 2 ^ p) + c0 bl S P := by
        intro p hb hz
        have pP := inP S hS p hb
        have xl := x_lt S (by omega) p (by omega) hb
        have e1 : (S ^^^ 2 ^ p) &&& ZM bl P = (S &&& ZM bl P) ^^^ 2 ^ p := Nat.eq_of_testBit_eq (fun i => by
          rw [x_tb, Nat.testBit_and, Nat.testBit_and, x_tb]
          by_cases c : p = i
          · subst c
            rw [(ZM_t bl p P pP).mpr hz, Bool.and_true, Bool.and_true]
          · rw [decide_eq_false c, Bool.xor_false, Bool.xor_false])
        have := ih _ xl (by omega)
        rw [e1, c0_n hz] at this
        exact this
      rcases Nat.eq_zero_or_pos (S &&& ZM bl P) with a0 | a0
      · have allz : ∀ p, S.testBit p = true → bl p = 0 := fun p hb => by
          by_cases c : bl p = 0
          · exact c
          · have q : (S &&& ZM bl P).testBit p = true := by rw [Nat.testBit_and, hb, (ZM_t bl p P (inP S hS p hb)).mpr c]; rfl
            rw [a0, Nat.zero_testBit] at q
            exact absurd q (by decide)
        obtain ⟨p, hb⟩ := ex_bit (show S ≠ 0 by omega)
        have kp := stepZ p hb (allz p hb)
        rw [a0, h0] at kp ⊢
        have up : MX g S P ≤ c0 bl S P - 1 := MX_le P (fun q hq hb' => by
          have := stepZ q hb' (allz q hb')
          rw [a0, h0] at this
          omega)
        have lo := MX_ge (g := g) hb P (inP S hS p hb)
        have z1 : zc bl P S = 1 := zc_1 (by
          rw [sz, a0]
          have : ∀ n, sbm bl 0 n = 0 := fun n => by
            induction n with
            | zero => rfl
            | succ n ihn => rw [sbm_f (by rw [Nat.zero_testBit]; decide), ihn]
          exact this P)
        omega
      · have hA := h1 (S &&& ZM bl P) a0 (by omega) An
        have ez : zc bl P S = zc bl P (S &&& ZM bl P) := by unfold zc; rw [sz]
        have zle := zc_le bl P (S &&& ZM bl P)
        have inA : ∀ p, (S &&& ZM bl P).testBit p = true → S.testBit p = true ∧ p < P ∧ ¬ bl p = 0 := fun p hb => by
          rw [Nat.testBit_and, Bool.and_eq_true] at hb
          exact ⟨hb.1, inP S hS p hb.1, (ZM_t bl p P (inP S hS p hb.1)).mp hb.2⟩
        have up : MX g S P ≤ MX h (S &&& ZM bl P) P + c0 bl S P := MX_le P (fun q hq hb' => by
          by_cases c : bl q = 0
          · have := stepZ q hb' c
            omega
          · have := stepN q hb' c
            have tb : (S &&& ZM bl P).testBit q = true := by rw [Nat.testBit_and, hb', (ZM_t bl q P hq).mpr c]; rfl
            have := MX_ge (g := h) tb P hq
            omega)
        obtain ⟨p0, hb0⟩ := ex_bit (show S &&& ZM bl P ≠ 0 by omega)
        have k0 := inA p0 hb0
        have lo0 := MX_ge (g := g) k0.1 P k0.2.1
        have l00 := stepN p0 k0.1 k0.2.2
        have lo : MX h (S &&& ZM bl P) P ≤ MX g S P - c0 bl S P := MX_le P (fun q hq hb' => by
          have k := inA q hb'
          have e1 := stepN q k.1 k.2.2
          have e2 := MX_ge (g := g) k.1 P k.2.1
          omega)
        omega
theorem c0_all (bl : V) : ∀ n, ∀ S, (∀ p, p < n → S.testBit p = true) → c0 bl S n + ZN bl n = n
  | 0, _, _ => rfl
  | n + 1, S, h => by
    have ih := c0_all bl n S (fun p hp => h p (by omega))
    rw [c0, ZN]
    by_cases c : bl n = 0
    · rw [if_pos ⟨h n (by omega), c⟩, if_pos c]; omega
    · rw [if_neg (fun q => c q.2), if_neg c]; omega
theorem sub_n {a b c d : Nat} (ha : a < 1000) (hb : b < 1000) (hc : c < 1000) (hd : d < 1000) (e : a + d = c + b) : nI a - nI b = nI c - nI d := by
  rw [iq, pk_sub_toInt (by omega) (by omega), pk_sub_toInt (by omega) (by omega)]
  omega
theorem full_t : ∀ P, P ≤ 8 → ∀ p, p < P → (2 ^ P - 1).testBit p = true := by
  intro P hP p hp
  rw [Nat.testBit_two_pow_sub_one, decide_eq_true hp]
section NETS
variable {P Y B w : Nat} {z : Int32} {km fa mo fr sp ow tp tn : V} {tq tk : Nat → V} {wt s e nm pl : V}
theorem op_nets (h : WR P Y B w z km fa mo fr sp ow tp tn tq wt s) (x1 : Int32) {su gr su1 pa1 : V} (s0 : su 0 = 0) (g0 : gr 0 = 0) (C : Int32 → V → V → V → Int32 → V → V → V → Prop) (hC : ∀ r e' su' gr' su1' pa1', su' 0 = 0 → gr' 0 = 0 → C r e' su' gr' r e' su1' pa1') : wp_X6_nets x1 (nI P) ow e su gr (fun r e' su' gr' => wp_X7_nets x1 s e su1 pa1 (fun r' e'' su1' pa1' => C r e' su' gr' r' e'' su1' pa1')) := by
  obtain ⟨⟨a1, a2, a3, a4⟩, ⟨b1, b2, b3, b4, b5⟩, c1, c2, c3, c4, c5, c6, c7, c8, c9⟩ := id h
  obtain ⟨p1, p2⟩ := p2_le a1
  have ho : ∀ a b, a < P → b < P → s (78 + 8 * a + b) = ow (8 * a + b) := fun a b ha hb => (c5 a b ha hb).2
  unfold wp_X6_nets wp_X7_nets
  rcases io x1 2 (by omega) with ⟨v, hv, rfl⟩ | hx
  · refine w6_within_in (lo := 0) (hi := 1) (by omega) (by omega) (by omega) (tB ?_)
    rcases (by omega : v = 0 ∨ v = 1) with q | q <;> subst q
    · refine ⟨fun c => absurd rfl c, fun _ => w4_fewest a1 s0 g0 (fun g su' gr' hg z1 z2 => ?_)⟩
      refine w7_in_in (lo := 0) (hi := 1) (by omega) (by omega) (by omega) (tC ⟨fun c => absurd rfl c, fun _ => w7_fewest a1 b1 ho (fun g' su1' pa1' hg' => ?_)⟩)
      have zl := ZM_lt (fun p => bal ow p P) P
      have zn := ZN_le (fun p => bal ow p P) P
      have ft := full_t P a1
      have eq := nets_eq a1 hg hg' (2 ^ P - 1) (by omega)
      have ea : (2 ^ P - 1) &&& ZM (fun p => bal ow p P) P = ZM (fun p => bal ow p P) P := Nat.eq_of_testBit_eq (fun i => by
        rw [Nat.testBit_and]
        rcases Nat.lt_or_ge i P with k | k
        · rw [ft i k, Bool.true_and]
        · rw [Nat.testBit_lt_two_pow (Nat.lt_of_lt_of_le zl (Nat.pow_le_pow_right (by omega) k)), Bool.and_false])
      rw [ea] at eq
      have ca := c0_all (fun p => bal ow p P) P (2 ^ P - 1) ft
      have gl := hg.2.2 (2 ^ P - 1) (by omega)
      have nz : nd (ZM (fun p => bal ow p P) P) (ZM (fun p => bal ow p P) P) = 0 := Nat.eq_of_testBit_eq (fun i => by rw [nd_t, Nat.zero_testBit]; cases (ZM (fun p => bal ow p P) P).testBit i <;> rfl)
      have hl := hg'.2.2 (ZM (fun p => bal ow p P) P) (by omega) nz
      rw [sub_n (a := P) (b := g (2 ^ P - 1)) (c := ZN (fun p => bal ow p P) P) (d := g' (ZM (fun p => bal ow p P) P)) (by omega) (by omega) (by omega) (by omega) (by omega)]
      exact hC _ _ _ _ _ _ z1 z2
    · refine ⟨fun _ => ?_, fun c => absurd c (by decide)⟩
      have blc : ∀ p, p < P → bal (fun i => s (78 + i)) p P = bal ow p P := fun p hp => bal_congr hp (fun a b ha hb => by rw [← ho a b ha hb]; show s _ = s _; congr 1; omega) P (Nat.le_refl P)
      refine loop_0 (fun n p (t : Int32) => wp_X6_nets_b35 _ (nI P) ow n t (nI p) e su gr) (fun p t => t = sm (fun p => if (0 : Int32) < bal ow p P then bal ow p P else 0) p) P 0 rfl ?_ ?_
      · intro n t et
        unfold wp_X6_nets_b35
        refine ⟨fun _ => ?_, fun c => absurd ((le_n (by omega) (by omega)).mpr (Nat.le_refl P)) c⟩
        refine w7_in_in (lo := 0) (hi := 1) (by omega) (by omega) (by omega) (tC ⟨fun _ => ?_, fun c => absurd c (by decide)⟩)
        refine loop_0 (fun n p (u : Int32) => wp_X7_nets_b28 _ s n u (nI p) e su1 pa1) (fun p u => u = sm (fun p => if (0 : Int32) < bal ow p P then bal ow p P else 0) p) P 0 rfl ?_ ?_
        · intro n2 u eu
          unfold wp_X7_nets_b28
          rw [show ((4 : Int32).toNatClampNeg) = 4 from rfl, b1]
          refine ⟨vi (n := 4) (by omega) (by omega), fun _ => ?_, fun c => absurd ((le_n (by omega) (by omega)).mpr (Nat.le_refl P)) c⟩
          rw [eu, et]
          exact hC _ _ _ _ _ _ s0 g0
        · intro n2 p u hp eu ih2
          unfold wp_X7_nets_b28
          rw [show ((4 : Int32).toNatClampNeg) = 4 from rfl, b1]
          refine ⟨vi (n := 4) (by omega) (by omega), fun c => absurd c (nle hp (by omega)), fun _ => w7_balance hp a1 b1 ⟨fun c x ex y ey => ?_, fun c => w7_balance hp a1 b1 (fun x ex y ey => ?_)⟩⟩
          · rw [blc p hp] at c
            rw [ey, i1]
            refine ih2 x ?_
            rw [sm, if_neg (by rw [il]; rw [ie] at c; omega), ex, eu]
          · rw [blc p hp] at c ex
            rw [ey, i1]
            refine ih2 x ?_
            rw [sm, if_pos (by rw [il]; rw [ie] at c; omega), ex, eu]
      · intro n p t hp et ih
        unfold wp_X6_nets_b35
        refine ⟨fun c => absurd c (nle hp (by omega)), fun _ => w5_balanceOf hp a1 (fun x ex y ey => ?_)⟩
        rw [ey, i1]
        refine ih x ?_
        rw [ex, et]; rfl
  · refine w6_within_out (hi := 1) (by omega) hx (tD (w6_e1 ?_))
    exact w7_in_out (hi := 1) (by omega) hx (tA (w7_e1 (hC _ _ _ _ _ _ s0 g0)))
end NETS
