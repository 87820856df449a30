/-! whom one is from; kin -/
def Am (fr : V) (p b : Nat) : Prop := (fr p).toNatClampNeg.testBit b = true
def PR (fa mo : V) (o b : Nat) : Prop := fa o = nI b ∨ mo o = nI b
theorem tb_hi {S b : Nat} (hS : S < 256) (hb : 8 ≤ b) : S.testBit b = false := Nat.testBit_lt_two_pow (Nat.lt_of_lt_of_le hS (show 2 ^ 8 ≤ 2 ^ b from Nat.pow_le_pow_right (by omega) hb))
theorem tb_lt {S b : Nat} (hS : S < 256) (h : S.testBit b = true) : b < 8 := by
  rcases Nat.lt_or_ge b 8 with c | c
  · exact c
  · rw [tb_hi hS c] at h; exact absurd h (by decide)
theorem tb_p2 {f b : Nat} : (2 ^ f).testBit b = true ↔ f = b := by rw [Nat.testBit_two_pow, decide_eq_true_iff]
section KIN
variable {P Y B w : Nat} {z : Int32} {km fa mo fr sp ow tp tn : V} {tq tk : Nat → V} {wt s e nm pl : V}
theorem fr_n (hR : Rp P fa mo fr s) (hP : P ≤ 8) : ∀ p, p < P → ∃ a, a < 2 ^ p ∧ fr p = nI a := by
  intro p
  induction p using Nat.strongRecOn with
  | _ p ih =>
    intro hp
    rcases hR p hp with ⟨-, -, -, -, g⟩ | ⟨f, m, hf, hm, -, -, -, -, -, g⟩
    · exact ⟨0, Nat.pow_pos (by omega), g⟩
    · obtain ⟨a, ha, ea⟩ := ih f hf (by omega)
      obtain ⟨b, hb, eb⟩ := ih m hm (by omega)
      have k1 : 2 ^ f < 2 ^ p := Nat.pow_lt_pow_right (by omega) hf
      have k2 : 2 ^ m < 2 ^ p := Nat.pow_lt_pow_right (by omega) hm
      refine ⟨(a ||| 2 ^ f) ||| (b ||| 2 ^ m), Nat.or_lt_two_pow (Nat.or_lt_two_pow (by omega) k1) (Nat.or_lt_two_pow (by omega) k2), ?_⟩
      rw [g, ea, eb, nb_1 (by omega), nb_1 (by omega), nb_or, nb_or, nb_or]
theorem fr_v (hR : Rp P fa mo fr s) (hP : P ≤ 8) {p : Nat} (hp : p < P) : (fr p).toNatClampNeg < 2 ^ p ∧ fr p = nI (fr p).toNatClampNeg ∧ (fr p).toNatClampNeg < 256 := by
  obtain ⟨a, ha, ea⟩ := fr_n hR hP p hp
  have k : 2 ^ p ≤ 2 ^ 8 := Nat.pow_le_pow_right (by omega) (by omega)
  have k2 : (2 : Nat) ^ 8 = 256 := rfl
  rw [ea, cl (by omega)]
  exact ⟨ha, rfl, by omega⟩
theorem am_lt (hR : Rp P fa mo fr s) (hP : P ≤ 8) {p b : Nat} (hp : p < P) (h : Am fr p b) : b < p := by
  rcases Nat.lt_or_ge b p with c | c
  · exact c
  · unfold Am at h
    rw [Nat.testBit_lt_two_pow (Nat.lt_of_lt_of_le (fr_v hR hP hp).1 (Nat.pow_le_pow_right (by omega) c))] at h
    exact absurd h (by decide)
theorem am_iff (hR : Rp P fa mo fr s) (hP : P ≤ 8) {p : Nat} (hp : p < P) (b : Nat) : Am fr p b ↔ ∃ o, o < p ∧ PR fa mo p o ∧ (b = o ∨ Am fr o b) := by
  rcases hR p hp with ⟨g1, g2, g3, g4, g⟩ | ⟨f, m, hf, hm, hfm, g1, g2, g3, g4, g⟩
  · constructor
    · intro h
      unfold Am at h
      rw [g, show ((0 : Int32).toNatClampNeg) = 0 from rfl, Nat.zero_testBit] at h
      exact absurd h (by decide)
    · rintro ⟨o, ho, q, -⟩
      exfalso
      unfold PR at q
      rw [g1, g2] at q
      have k : (-1 : Int32).toInt = -1 := rfl
      rcases q with q | q
      · have := (iq _ _).mp q
        rw [ti (by omega)] at this; omega
      · have := (iq _ _).mp q
        rw [ti (by omega)] at this; omega
  · have k1 := (fr_v hR hP (show f < P by omega)).2.1
    have k2 := (fr_v hR hP (show m < P by omega)).2.1
    have v1 := (fr_v hR hP (show f < P by omega)).2.2
    have v2 := (fr_v hR hP (show m < P by omega)).2.2
    have q1 : 2 ^ f ≤ 2 ^ 7 := Nat.pow_le_pow_right (by omega) (by omega)
    have q2 : 2 ^ m ≤ 2 ^ 7 := Nat.pow_le_pow_right (by omega) (by omega)
    have q3 : (2 : Nat) ^ 7 = 128 := rfl
    have b1 : ((fr f).toNatClampNeg ||| 2 ^ f) ||| ((fr m).toNatClampNeg ||| 2 ^ m) < 2 ^ 8 := Nat.or_lt_two_pow (Nat.or_lt_two_pow v1 (by omega)) (Nat.or_lt_two_pow v2 (by omega))
    have e1 : Am fr p b ↔ ((Am fr f b ∨ f = b) ∨ (Am fr m b ∨ m = b)) := by
      unfold Am
      rw [g, k1, k2, nb_1 (by omega), nb_1 (by omega), nb_or, nb_or, nb_or, cl (by omega), cl (by omega), cl (by omega), Nat.testBit_or, Nat.testBit_or, Nat.testBit_or, Bool.or_eq_true, Bool.or_eq_true, Bool.or_eq_true, tb_p2, tb_p2]
    rw [e1]
    constructor
    · rintro ((q | q) | (q | q))
      · exact ⟨f, hf, Or.inl g1, Or.inr q⟩
      · exact ⟨f, hf, Or.inl g1, Or.inl q.symm⟩
      · exact ⟨m, hm, Or.inr g2, Or.inr q⟩
      · exact ⟨m, hm, Or.inr g2, Or.inl q.symm⟩
    · rintro ⟨o, ho, q, q2⟩
      unfold PR at q
      rw [g1, g2] at q
      rcases q with q | q
      · have eo := (eq_n (by omega) (by omega)).mp q
        subst eo
        rcases q2 with q2 | q2
        · exact Or.inl (Or.inr q2.symm)
        · exact Or.inl (Or.inl q2)
      · have eo := (eq_n (by omega) (by omega)).mp q
        subst eo
        rcases q2 with q2 | q2
        · exact Or.inr (Or.inr q2.symm)
        · exact Or.inr (Or.inl q2)
theorem pr_lt (hR : Rp P fa mo fr s) (hP : P ≤ 8) {o b : Nat} (ho : o < P) (hb : b < 8) (h : PR fa mo o b) : b < o := by
  have k : (-1 : Int32).toInt = -1 := rfl
  unfold PR at h
  rcases hR o ho with ⟨g1, g2, g3, g4, g⟩ | ⟨f, m, hf, hm, hfm, g1, g2, g3, g4, g⟩
  · rw [g1, g2] at h
    exfalso
    rcases h with q | q
    · have := (iq _ _).mp q
      rw [ti (by omega)] at this; omega
    · have := (iq _ _).mp q
      rw [ti (by omega)] at this; omega
  · rw [g1, g2] at h
    rcases h with q | q
    · have := (eq_n (by omega) (by omega)).mp q; omega
    · have := (eq_n (by omega) (by omega)).mp q; omega
theorem am_tr (hR : Rp P fa mo fr s) (hP : P ≤ 8) : ∀ p, p < P → ∀ o b, b < 8 → Am fr p o → PR fa mo o b → Am fr p b := by
  intro p
  induction p using Nat.strongRecOn with
  | _ p ih =>
    intro hp o b hb h1 h2
    obtain ⟨q, hq, r1, r2⟩ := (am_iff hR hP hp o).mp h1
    refine (am_iff hR hP hp b).mpr ⟨q, hq, r1, Or.inr ?_⟩
    rcases r2 with r2 | r2
    · subst r2
      have := pr_lt hR hP (show o < P by omega) hb h2
      exact (am_iff hR hP (by omega) b).mpr ⟨b, this, h2, Or.inl rfl⟩
    · exact ih q hq (by omega) o b hb r2 h2
/-- the parents of a set's people -/
def NX (P : Nat) (fa mo : V) (W n N : Nat) : Prop := N < 256 ∧ ∀ b, b < 8 → (N.testBit b = true ↔ ∃ o, o < n ∧ W.testBit o = true ∧ PR fa mo o b)
theorem w7_from16 (hR : Rp P fa mo fr s) (hP : P ≤ 8) (h4 : s 4 = nI P) {S W : Nat} (hS : S < 256) (hW : W < 256) {Q : Int32 → Prop} {KK : Int32 → Int32 → Prop} (hK : ∀ N, NX P fa mo W P N → KK (nI (S ||| N)) (nI (nd N S))) : ∃ j, wp_X7_fromOf_b16 Q KK s j (nI S) (nI W) (0 : Int32) (0 : Int32) := by
  refine loop_0 (fun n o (t : Int32) => wp_X7_fromOf_b16 Q KK s n (nI S) (nI W) t (nI o)) (fun o t => ∃ N, t = nI N ∧ NX P fa mo W o N) P 0 ⟨0, rfl, by omega, fun b hb => by
    rw [Nat.zero_testBit]
    exact ⟨fun c => absurd c (by decide), fun ⟨o, ho, _⟩ => absurd ho (Nat.not_lt_zero o)⟩⟩ ?_ ?_
  · intro n t ⟨N, et, hN⟩
    subst et
    unfold wp_X7_fromOf_b16
    rw [show ((4 : Int32).toNatClampNeg) = 4 from rfl, h4, nb_nd, nb_or]
    refine ⟨vi (n := 4) (by omega) (by omega), fun _ x ex y ey => ?_, fun c => absurd ((le_n (by omega) (by omega)).mpr (Nat.le_refl P)) c⟩
    rw [ex, ey]; exact hK N hN
  · intro n o t ho ⟨N, et, hN1, hN2⟩ ih
    subst et
    unfold wp_X7_fromOf_b16
    rw [show ((4 : Int32).toNatClampNeg) = 4 from rfl, h4]
    refine ⟨vi (n := 4) (by omega) (by omega), fun c => absurd c (nle ho (by omega)), fun _ => ⟨fun c y ey => ?_, fun c => ?_⟩⟩
    · rw [ey, i1]
      refine ih _ ⟨N, rfl, hN1, fun b hb => ?_⟩
      rw [hN2 b hb]
      constructor
      · rintro ⟨q, q1, q2⟩; exact ⟨q, by omega, q2⟩
      · rintro ⟨q, q1, q2, q3⟩
        refine ⟨q, ?_, q2, q3⟩
        rcases Nat.lt_or_ge q o with k | k
        · exact k
        · have : q = o := by omega
          subst this
          exact absurd ((nb_t hW (by omega)).mpr q2) c
    · have wo := (nb_t hW (by omega)).mp c
      have k : (-1 : Int32).toInt = -1 := rfl
      rcases hR o ho with ⟨g1, g2, g3, g4, g⟩ | ⟨f, m, hf, hm, hfm, g1, g2, g3, g4, g⟩
      · refine w7_its (k := 2) (by omega) (by omega) ?_
        rw [g3]
        refine ⟨fun c => absurd rfl c, fun _ => ?_⟩
        unfold wp_X7_fromOf_b63
        intro x ex
        refine w7_its (k := 3) (by omega) (by omega) ?_
        rw [g4]
        refine ⟨fun c => absurd rfl c, fun _ x2 ex2 y ey => ?_⟩
        rw [ey, i1, ex2, ex, or0, or0]
        refine ih _ ⟨N, rfl, hN1, fun b hb => ?_⟩
        rw [hN2 b hb]
        constructor
        · rintro ⟨q, q1, q2⟩; exact ⟨q, by omega, q2⟩
        · rintro ⟨q, q1, q2, q3⟩
          refine ⟨q, ?_, q2, q3⟩
          rcases Nat.lt_or_ge q o with k' | k'
          · exact k'
          · have : q = o := by omega
            subst this
            unfold PR at q3
            rw [g1, g2] at q3
            exfalso
            rcases q3 with q3 | q3
            · have := (iq _ _).mp q3
              rw [ti (by omega)] at this; omega
            · have := (iq _ _).mp q3
              rw [ti (by omega)] at this; omega
      · have nf : ∀ {a : Nat}, a < 8 → ¬ nI a = -1 := fun ha q => by
          have := (iq _ _).mp q
          rw [ti (by omega)] at this; omega
        refine w7_its (k := 2) (by omega) (by omega) ?_
        rw [g3]
        refine ⟨fun _ => w7_its (k := 2) (by omega) (by omega) ?_, fun c => absurd c (nf (by omega))⟩
        rw [g3, nb_1 (by omega)]
        unfold wp_X7_fromOf_b63
        intro x ex
        refine w7_its (k := 3) (by omega) (by omega) ?_
        rw [g4]
        refine ⟨fun _ => w7_its (k := 3) (by omega) (by omega) (fun x2 ex2 y ey => ?_), fun c => absurd c (nf (by omega))⟩
        rw [g4, nb_1 (by omega)] at ex2
        rw [ey, i1, ex2, ex, nb_or, nb_or]
        have q1 : 2 ^ f ≤ 2 ^ 7 := Nat.pow_le_pow_right (by omega) (by omega)
        have q2 : 2 ^ m ≤ 2 ^ 7 := Nat.pow_le_pow_right (by omega) (by omega)
        have q3 : (2 : Nat) ^ 7 = 128 := rfl
        have bd : (N ||| 2 ^ f) ||| 2 ^ m < 2 ^ 8 := Nat.or_lt_two_pow (Nat.or_lt_two_pow hN1 (by omega)) (by omega)
        refine ih _ ⟨(N ||| 2 ^ f) ||| 2 ^ m, rfl, bd, fun b hb => ?_⟩
        rw [Nat.testBit_or, Nat.testBit_or, Bool.or_eq_true, Bool.or_eq_true, tb_p2, tb_p2, hN2 b hb]
        constructor
        · rintro ((⟨q, r1, r2⟩ | r) | r)
          · exact ⟨q, by omega, r2⟩
          · subst r; exact ⟨o, by omega, wo, Or.inl g1⟩
          · subst r; exact ⟨o, by omega, wo, Or.inr g2⟩
        · rintro ⟨q, r1, r2, r3⟩
          rcases Nat.lt_or_ge q o with k' | k'
          · exact Or.inl (Or.inl ⟨q, k', r2, r3⟩)
          · have : q = o := by omega
            subst this
            unfold PR at r3
            rw [g1, g2] at r3
            rcases r3 with r3 | r3
            · exact Or.inl (Or.inr ((eq_n (by omega) (by omega)).mp r3))
            · exact Or.inr ((eq_n (by omega) (by omega)).mp r3)
theorem w7_fromOf (hR : Rp P fa mo fr s) (hP : P ≤ 8) (h4 : s 4 = nI P) {p : Nat} (hp : p < P) {Q : Int32 → Prop} (hQ : Q (fr p)) : wp_X7_fromOf (nI p) s Q := by
  have key : ∀ c S W, S < 256 → W < 256 → (∀ o, W.testBit o = true → o < c) → (∀ b, b < 8 → S.testBit b = true → Am fr p b) → (∀ b, b < 8 → W.testBit b = true → Am fr p b ∨ b = p) → (∀ o, o < P → (o = p ∨ S.testBit o = true) → W.testBit o = true ∨ ∀ b, b < 8 → PR fa mo o b → S.testBit b = true) → ∃ n, wp_X7_fromOf_b6 Q s n (nI S) (nI W) := by
    intro c
    induction c with
    | zero =>
      intro S W hS hW hc hA1 hA2 hB
      have w0 : W = 0 := Nat.eq_of_testBit_eq (fun i => by
        rw [Nat.zero_testBit]
        cases q : W.testBit i
        · rfl
        · exact absurd (hc i q) (Nat.not_lt_zero i))
      subst w0
      have nW : ∀ o, ¬ (0 : Nat).testBit o = true := fun o q => by rw [Nat.zero_testBit] at q; exact absurd q (by decide)
      have cl' : ∀ o, o < P → (o = p ∨ S.testBit o = true) → ∀ b, b < 8 → Am fr o b → S.testBit b = true := by
        intro o
        induction o using Nat.strongRecOn with
        | _ o ih =>
          intro ho h1 b hb h2
          obtain ⟨q, hq, r1, r2⟩ := (am_iff hR hP ho b).mp h2
          have sq : S.testBit q = true := by
            rcases hB o ho h1 with k | k
            · exact absurd k (nW o)
            · exact k q (by omega) r1
          rcases r2 with r2 | r2
          · subst r2; exact sq
          · exact ih q hq (by omega) (Or.inr sq) b hb r2
      have eS : S = (fr p).toNatClampNeg := Nat.eq_of_testBit_eq (fun i => by
        rcases Nat.lt_or_ge i 8 with k | k
        · cases q : S.testBit i
          · cases q2 : (fr p).toNatClampNeg.testBit i
            · rfl
            · have := cl' p hp (Or.inl rfl) i k q2
              rw [q] at this; exact this
          · have := hA1 i k q
            unfold Am at this
            exact this.symm
        · rw [tb_hi hS k, tb_hi (fr_v hR hP hp).2.2 k])
      refine ⟨1, ?_⟩
      unfold wp_X7_fromOf_b6
      refine ⟨fun _ => ?_, fun k => absurd rfl k⟩
      rw [eS, ← (fr_v hR hP hp).2.1]
      exact hQ
    | succ c ih =>
      intro S W hS hW hc hA1 hA2 hB
      by_cases w0 : W = 0
      · subst w0
        have nW : ∀ o, ¬ (0 : Nat).testBit o = true := fun o q => by rw [Nat.zero_testBit] at q; exact absurd q (by decide)
        obtain ⟨n, hn⟩ := ih S 0 hS (by omega) (fun o q => absurd q (nW o)) hA1 (fun b _ q => absurd q (nW b)) hB
        exact ⟨n, hn⟩
      · -- one more step; how far it goes is not known ahead
        have step : ∀ N, NX P fa mo W P N → ∃ n, wp_X7_fromOf_b6 Q s n (nI (S ||| N)) (nI (nd N S)) := by
          intro N ⟨hN1, hN2⟩
          have nx : nd N S < 2 ^ 8 := by
            unfold nd
            exact Nat.xor_lt_two_pow hN1 (Nat.and_lt_two_pow N hS)
          have hor : S ||| N < 2 ^ 8 := Nat.or_lt_two_pow hS hN1
          refine ih (S ||| N) (nd N S) hor nx (fun o q => ?_) (fun b hb q => ?_) (fun b hb q => ?_) (fun o ho q => ?_)
          · rw [nd_t, Bool.and_eq_true] at q
            have o8 := tb_lt hN1 q.1
            obtain ⟨o', h1, h2, h3⟩ := (hN2 o o8).mp q.1
            have := pr_lt hR hP h1 o8 h3
            have := hc o' h2
            omega
          · rw [Nat.testBit_or, Bool.or_eq_true] at q
            rcases q with q | q
            · exact hA1 b hb q
            · obtain ⟨o', h1, h2, h3⟩ := (hN2 b hb).mp q
              rcases hA2 o' (by omega) h2 with k | k
              · exact am_tr hR hP p hp o' b hb k h3
              · subst k
                exact (am_iff hR hP hp b).mpr ⟨b, pr_lt hR hP hp hb h3, h3, Or.inl rfl⟩
          · rw [nd_t, Bool.and_eq_true] at q
            obtain ⟨o', h1, h2, h3⟩ := (hN2 b hb).mp q.1
            left
            rcases hA2 o' (by omega) h2 with k | k
            · exact am_tr hR hP p hp o' b hb k h3
            · subst k
              exact (am_iff hR hP hp b).mpr ⟨b, pr_lt hR hP hp hb h3, h3, Or.inl rfl⟩
          · have old : (o = p ∨ S.testBit o = true) → (nd N S).testBit o = true ∨ ∀ b, b < 8 → PR fa mo o b → (S ||| N).testBit b = true := by
              intro q'
              right
              intro b hb hpr
              rw [Nat.testBit_or, Bool.or_eq_true]
              rcases hB o ho q' with k | k
              · exact Or.inr ((hN2 b hb).mpr ⟨o, ho, k, hpr⟩)
              · exact Or.inl (k b hb hpr)
            rcases q with q | q
            · exact old (Or.inl q)
            · rw [Nat.testBit_or, Bool.or_eq_true] at q
              by_cases so : S.testBit o = true
              · exact old (Or.inr so)
              · rcases q with q | q
                · exact absurd q so
                · left
                  rw [nd_t, q]
                  cases k : S.testBit o
                  · rfl
                  · exact absurd k so
        -- the inner run's fuel: the one of the step that is taken
        have nW : ¬ nI W = 0 := fun q => w0 ((eq_n (b := 0) (by omega) (by omega)).mp q)
        have det : ∃ N, NX P fa mo W P N := by
          have hx := w7_from16 (Q := fun _ => True) (KK := fun _ _ => ∃ N, NX P fa mo W P N) hR hP h4 hS hW (fun N hN => ⟨N, hN⟩)
          obtain ⟨j, hj⟩ := hx
          have gen : ∀ (a : Nat), a < 256 → ∃ N, NX P fa mo W P N → True := fun a _ => ⟨0, fun _ => trivial⟩
          have ex : ∀ n, n ≤ P → ∃ N, NX P fa mo W n N := by
            intro n
            induction n with
            | zero => intro _; exact ⟨0, by omega, fun b hb => by rw [Nat.zero_testBit]; exact ⟨fun c => absurd c (by decide), fun ⟨o, ho, _⟩ => absurd ho (Nat.not_lt_zero o)⟩⟩
            | succ n ihn =>
              intro hn
              obtain ⟨N, hN1, hN2⟩ := ihn (by omega)
              have k : (-1 : Int32).toInt = -1 := rfl
              by_cases wn : W.testBit n = true
              · rcases hR n (by omega) with ⟨g1, g2, g3, g4, g⟩ | ⟨f, m, hf, hm, hfm, g1, g2, g3, g4, g⟩
                · refine ⟨N, hN1, fun b hb => ?_⟩
                  rw [hN2 b hb]
                  constructor
                  · rintro ⟨q, q1, q2⟩; exact ⟨q, by omega, q2⟩
                  · rintro ⟨q, q1, q2, q3⟩
                    have := pr_lt hR hP (show q < P by omega) hb q3
                    refine ⟨q, ?_, q2, q3⟩
                    rcases Nat.lt_or_ge q n with k' | k'
                    · exact k'
                    · have : q = n := by omega
                      subst this
                      unfold PR at q3
                      rw [g1, g2] at q3
                      exfalso
                      rcases q3 with q3 | q3
                      · have := (iq _ _).mp q3
                        rw [ti (by omega)] at this; omega
                      · have := (iq _ _).mp q3
                        rw [ti (by omega)] at this; omega
                · have q1 : 2 ^ f ≤ 2 ^ 7 := Nat.pow_le_pow_right (by omega) (by omega)
                  have q2 : 2 ^ m ≤ 2 ^ 7 := Nat.pow_le_pow_right (by omega) (by omega)
                  have q3 : (2 : Nat) ^ 7 = 128 := rfl
                  have bd : (N ||| 2 ^ f) ||| 2 ^ m < 2 ^ 8 := Nat.or_lt_two_pow (Nat.or_lt_two_pow hN1 (by omega)) (by omega)
                  refine ⟨(N ||| 2 ^ f) ||| 2 ^ m, bd, fun b hb => ?_⟩
                  rw [Nat.testBit_or, Nat.testBit_or, Bool.or_eq_true, Bool.or_eq_true, tb_p2, tb_p2, hN2 b hb]
                  constructor
                  · rintro ((⟨q, r1, r2⟩ | r) | r)
                    · exact ⟨q, by omega, r2⟩
                    · subst r; exact ⟨n, by omega, wn, Or.inl g1⟩
                    · subst r; exact ⟨n, by omega, wn, Or.inr g2⟩
                  · rintro ⟨q, r1, r2, r3⟩
                    rcases Nat.lt_or_ge q n with k' | k'
                    · exact Or.inl (Or.inl ⟨q, k', r2, r3⟩)
                    · have : q = n := by omega
                      subst this
                      unfold PR at r3
                      rw [g1, g2] at r3
                      rcases r3 with r3 | r3
                      · exact Or.inl (Or.inr ((eq_n (by omega) (by omega)).mp r3))
                      · exact Or.inr ((eq_n (by omega) (by omega)).mp r3)
              · refine ⟨N, hN1, fun b hb => ?_⟩
                rw [hN2 b hb]
                constructor
                · rintro ⟨q, q1, q2⟩; exact ⟨q, by omega, q2⟩
                · rintro ⟨q, q1, q2, q3⟩
                  refine ⟨q, ?_, q2, q3⟩
                  rcases Nat.lt_or_ge q n with k' | k'
                  · exact k'
                  · have : q = n := by omega
                    subst this
                    exact absurd q2 wn
          exact ex P (Nat.le_refl P)
        obtain ⟨N, hN⟩ := det
        obtain ⟨n, hn⟩ := step N hN
        refine ⟨n + 1, ?_⟩
        unfold wp_X7_fromOf_b6
        refine ⟨fun q => absurd q nW, fun _ => w7_from16 hR hP h4 hS hW (fun N' hN' => ?_)⟩
        have eN : N' = N := Nat.eq_of_testBit_eq (fun i => by
          rcases Nat.lt_or_ge i 8 with k | k
          · cases q : N.testBit i
            · cases q2 : N'.testBit i
              · rfl
              · have := (hN.2 i k).mpr ((hN'.2 i k).mp q2)
                rw [q] at this; exact this.symm
            · exact (hN'.2 i k).mpr ((hN.2 i k).mp q)
          · rw [tb_hi hN.1 k, tb_hi hN'.1 k])
        rw [eN]; exact hn
  unfold wp_X7_fromOf
  rw [nb_1 (by omega)]
  intro x3 e3
  subst e3
  have q1 : 2 ^ p ≤ 2 ^ 7 := Nat.pow_le_pow_right (by omega) (by omega)
  have q3 : (2 : Nat) ^ 7 = 128 := rfl
  refine key (p + 1) 0 (2 ^ p) (by omega) (by omega) (fun o q => by have := tb_p2.mp q; omega) (fun b hb q => ?_) (fun b hb q => Or.inr (tb_p2.mp q).symm) (fun o ho q => ?_)
  · rw [Nat.zero_testBit] at q; exact absurd q (by decide)
  · rcases q with q | q
    · subst q; exact Or.inl (tb_p2.mpr rfl)
    · rw [Nat.zero_testBit] at q; exact absurd q (by decide)
theorem op_kin (h : WR P Y B w z km fa mo fr sp ow tp tn tq wt s) (x1 x2 : Int32) (C : Int32 → V → Int32 → V → Prop) (hC : ∀ r e', C r e' r e') : wp_X6_kin x1 x2 (nI P) fr e (fun r e' => wp_X7_kin x1 x2 s e (fun r' e'' => C r e' r' e'')) := by
  obtain ⟨⟨a1, a2, a3, a4⟩, ⟨b1, b2, b3, b4, b5⟩, c1, c2, c3, c4, c5, c6, c7, c8, c9⟩ := id h
  unfold wp_X6_kin wp_X7_kin
  rcases two_or x1 x2 a1 with ⟨a, b, ha, hb, hab, rfl, rfl⟩ | hx
  · (repeat (with_reducible (first | refine tA ?_ | refine tB ?_ | refine tC ?_ | refine tD ?_ | refine w6_one_in (by assumption) (by assumption) ?_ | refine w6_one_out (by assumption) (by assumption) ?_ | refine w7_one_in (by assumption) (by assumption) (by assumption) ?_ | refine w7_one_out (by assumption) (by assumption) (by assumption) ?_ | refine w6_two_in (by assumption) (by assumption) (by assumption) (by assumption) ?_ | refine w6_two_out (by assumption) (by assumption) ?_ | refine w7_two_in (by assumption) (by assumption) (by assumption) (by assumption) (by assumption) ?_ | refine w7_two_out (by assumption) (by assumption) (by assumption) ?_ | refine w6_sort_in (by assumption) ?_ | refine w6_sort_out (by assumption) ?_ | refine w7_sort_in (by assumption) ?_ | refine w7_sort_out (by assumption) ?_ | refine w6_km_in (by assumption) ?_ | refine w6_km_out (by assumption) ?_ | refine w7_kind_in (by assumption) ?_ | refine w7_kind_out (by assumption) ?_ | refine w6_sheet_in (by assumption) ?_ | refine w6_sheet_out (by assumption) ?_ | refine w7_sheet_in (by assumption) ?_ | refine w7_sheet_out (by assumption) ?_ | refine w6_e1 ?_ | refine w6_e2 ?_ | refine w6_e3 ?_ | refine w6_e4 ?_ | refine w6_e5 ?_ | refine w6_e6 ?_ | refine w7_e1 ?_ | refine w7_e2 ?_ | refine w7_e3 ?_ | refine w7_e4 ?_ | refine w7_e5 ?_ | refine w7_e6 ?_)))
    refine w5_withForebears (by omega) (w5_withForebears (by omega) ?_)
    (repeat (with_reducible (first | refine tA ?_ | refine tB ?_ | refine tC ?_ | refine tD ?_ | refine w6_one_in (by assumption) (by assumption) ?_ | refine w6_one_out (by assumption) (by assumption) ?_ | refine w7_one_in (by assumption) (by assumption) (by assumption) ?_ | refine w7_one_out (by assumption) (by assumption) (by assumption) ?_ | refine w6_two_in (by assumption) (by assumption) (by assumption) (by assumption) ?_ | refine w6_two_out (by assumption) (by assumption) ?_ | refine w7_two_in (by assumption) (by assumption) (by assumption) (by assumption) (by assumption) ?_ | refine w7_two_out (by assumption) (by assumption) (by assumption) ?_ | refine w6_sort_in (by assumption) ?_ | refine w6_sort_out (by assumption) ?_ | refine w7_sort_in (by assumption) ?_ | refine w7_sort_out (by assumption) ?_ | refine w6_km_in (by assumption) ?_ | refine w6_km_out (by assumption) ?_ | refine w7_kind_in (by assumption) ?_ | refine w7_kind_out (by assumption) ?_ | refine w6_sheet_in (by assumption) ?_ | refine w6_sheet_out (by assumption) ?_ | refine w7_sheet_in (by assumption) ?_ | refine w7_sheet_out (by assumption) ?_ | refine w6_e1 ?_ | refine w6_e2 ?_ | refine w6_e3 ?_ | refine w6_e4 ?_ | refine w6_e5 ?_ | refine w6_e6 ?_ | refine w7_e1 ?_ | refine w7_e2 ?_ | refine w7_e3 ?_ | refine w7_e4 ?_ | refine w7_e5 ?_ | refine w7_e6 ?_)))
    refine w7_fromOf c2 a1 b1 ha (w7_fromOf c2 a1 b1 hb ?_)
    exact hC _ _
  · (repeat (with_reducible (first | refine tA ?_ | refine tB ?_ | refine tC ?_ | refine tD ?_ | refine w6_one_in (by assumption) (by assumption) ?_ | refine w6_one_out (by assumption) (by assumption) ?_ | refine w7_one_in (by assumption) (by assumption) (by assumption) ?_ | refine w7_one_out (by assumption) (by assumption) (by assumption) ?_ | refine w6_two_in (by assumption) (by assumption) (by assumption) (by assumption) ?_ | refine w6_two_out (by assumption) (by assumption) ?_ | refine w7_two_in (by assumption) (by assumption) (by assumption) (by assumption) (by assumption) ?_ | refine w7_two_out (by assumption) (by assumption) (by assumption) ?_ | refine w6_sort_in (by assumption) ?_ | refine w6_sort_out (by assumption) ?_ | refine w7_sort_in (by assumption) ?_ | refine w7_sort_out (by assumption) ?_ | refine w6_km_in (by assumption) ?_ | refine w6_km_out (by assumption) ?_ | refine w7_kind_in (by assumption) ?_ | refine w7_kind_out (by assumption) ?_ | refine w6_sheet_in (by assumption) ?_ | refine w6_sheet_out (by assumption) ?_ | refine w7_sheet_in (by assumption) ?_ | refine w7_sheet_out (by assumption) ?_ | refine w6_e1 ?_ | refine w6_e2 ?_ | refine w6_e3 ?_ | refine w6_e4 ?_ | refine w6_e5 ?_ | refine w6_e6 ?_ | refine w7_e1 ?_ | refine w7_e2 ?_ | refine w7_e3 ?_ | refine w7_e4 ?_ | refine w7_e5 ?_ | refine w7_e6 ?_)))
    exact hC _ _
theorem op_personIs (h : WR P Y B w z km fa mo fr sp ow tp tn tq wt s) (x1 x2 : Int32) (C : Int32 → (Nat → V) → V → Int32 → V → V → V → Prop) (hC : ∀ r tk' e' nm' pl', C r tk' e' r e' nm' pl') : wp_X6_personIs x1 x2 (nI P) km fa mo fr sp tn tq tk e (fun r tk' e' => wp_X7_personIs x1 x2 s e nm pl (fun r' e'' nm' pl' => C r tk' e' r' e'' nm' pl')) := by
  obtain ⟨⟨a1, a2, a3, a4⟩, ⟨b1, b2, b3, b4, b5⟩, c1, c2, c3, c4, c5, c6, c7, c8, c9⟩ := id h
  unfold wp_X6_personIs
  rcases io x1 P (by omega) with ⟨p, hp, rfl⟩ | hx
  · rcases io x2 7 (by omega) with ⟨v, hv, rfl⟩ | hy
    · obtain ⟨K, m, hK, hm, ek, e1, e2⟩ := c1 p hp
      have fm : fa p = s (6 + 4 * p + 2) ∧ mo p = s (6 + 4 * p + 3) := by
        rcases c2 p hp with ⟨g1, g2, g3, g4, -⟩ | ⟨f, m, -, -, -, g1, g2, g3, g4, -⟩
        · exact ⟨g1.trans g3.symm, g2.trans g4.symm⟩
        · exact ⟨g1.trans g3.symm, g2.trans g4.symm⟩
      have lo : ∀ R : Int32 → V → V → V → Prop, v < 4 → R (s (6 + 4 * p + v)) e nm pl → wp_X7_personIs (nI p) (nI v) s e nm pl R := by
        intro R v4 q
        unfold wp_X7_personIs
        refine w7_one_in hp a1 b1 (tD (w7_in_in (lo := 0) (hi := 6) (by omega) (by omega) (by omega) (tC ⟨fun c => absurd c (nle (a := 4) (by omega) (by omega)), fun _ => w7_its (by omega) v4 q⟩)))
      (repeat (with_reducible (first | refine tA ?_ | refine tB ?_ | refine tC ?_ | refine tD ?_ | refine w6_one_in (by assumption) (by assumption) ?_ | refine w6_one_out (by assumption) (by assumption) ?_ | refine w7_one_in (by assumption) (by assumption) (by assumption) ?_ | refine w7_one_out (by assumption) (by assumption) (by assumption) ?_ | refine w6_two_in (by assumption) (by assumption) (by assumption) (by assumption) ?_ | refine w6_two_out (by assumption) (by assumption) ?_ | refine w7_two_in (by assumption) (by assumption) (by assumption) (by assumption) (by assumption) ?_ | refine w7_two_out (by assumption) (by assumption) (by assumption) ?_ | refine w6_sort_in (by assumption) ?_ | refine w6_sort_out (by assumption) ?_ | refine w7_sort_in (by assumption) ?_ | refine w7_sort_out (by assumption) ?_ | refine w6_km_in (by assumption) ?_ | refine w6_km_out (by assumption) ?_ | refine w7_kind_in (by assumption) ?_ | refine w7_kind_out (by assumption) ?_ | refine w6_sheet_in (by assumption) ?_ | refine w6_sheet_out (by assumption) ?_ | refine w7_sheet_in (by assumption) ?_ | refine w7_sheet_out (by assumption) ?_ | refine w6_e1 ?_ | refine w6_e2 ?_ | refine w6_e3 ?_ | refine w6_e4 ?_ | refine w6_e5 ?_ | refine w6_e6 ?_ | refine w7_e1 ?_ | refine w7_e2 ?_ | refine w7_e3 ?_ | refine w7_e4 ?_ | refine w7_e5 ?_ | refine w7_e6 ?_)))
      rw [cl (by omega)]
      rcases (by omega : v = 0 ∨ v = 1 ∨ v = 2 ∨ v = 3 ∨ v = 4 ∨ v = 5 ∨ v = 6) with q | q | q | q | q | q | q <;> subst q
      · refine ⟨fun _ => w5_kindOf (by omega) hm hK ek (lo _ (by omega) (by rw [e1]; exact hC _ _ _ _ _)), fun c => absurd c (by decide), fun c => absurd c (by decide), fun c => absurd c (by decide), fun c => absurd c (by decide), fun c => absurd c (by decide), fun c => absurd c (by decide), fun c => absurd rfl c⟩
      · refine ⟨fun c => absurd c (by decide), fun _ => w5_numberOf (by omega) hm hK ek (lo _ (by omega) (by rw [e2]; exact hC _ _ _ _ _)), fun c => absurd c (by decide), fun c => absurd c (by decide), fun c => absurd c (by decide), fun c => absurd c (by decide), fun c => absurd c (by decide), fun _ c => absurd rfl c⟩
      · refine ⟨fun c => absurd c (by decide), fun c => absurd c (by decide), fun _ => ⟨(vi (by omega) (by omega)), lo _ (by omega) (by rw [fm.1]; exact hC _ _ _ _ _)⟩, fun c => absurd c (by decide), fun c => absurd c (by decide), fun c => absurd c (by decide), fun c => absurd c (by decide), fun _ _ c => absurd rfl c⟩
      · refine ⟨fun c => absurd c (by decide), fun c => absurd c (by decide), fun c => absurd c (by decide), fun _ => ⟨(vi (by omega) (by omega)), lo _ (by omega) (by rw [fm.2]; exact hC _ _ _ _ _)⟩, fun c => absurd c (by decide), fun c => absurd c (by decide), fun c => absurd c (by decide), fun _ _ _ c => absurd rfl c⟩
      · refine ⟨fun c => absurd c (by decide), fun c => absurd c (by decide), fun c => absurd c (by decide), fun c => absurd c (by decide), fun _ => w6_together (by omega) ?_, fun c => absurd c (by decide), fun c => absurd c (by decide), fun _ _ _ _ c => absurd rfl c⟩
        unfold wp_X7_personIs
        refine w7_one_in hp a1 b1 (tD (w7_in_in (lo := 0) (hi := 6) (by omega) (by omega) (by omega) (tC ⟨fun _ => ⟨fun c => absurd rfl c, fun _ => w7_heap (by omega) ?_⟩, fun c => absurd (by decide) c⟩)))
        rw [show sm (fun k => s (38 + 5 * p + k)) 5 = sm (fun k => sp (5 * p + k)) 5 from sm_congr 5 (fun k hk => (c4 p k hp hk).2)]
        exact hC _ _ _ _ _
      · refine ⟨fun c => absurd c (by decide), fun c => absurd c (by decide), fun c => absurd c (by decide), fun c => absurd c (by decide), fun c => absurd c (by decide), fun _ => w5_worthOf (by omega) c9 (fun tk' => ?_), fun c => absurd c (by decide), fun _ _ _ _ _ c => absurd rfl c⟩
        unfold wp_X7_personIs
        refine w7_one_in hp a1 b1 (tD (w7_in_in (lo := 0) (hi := 6) (by omega) (by omega) (by omega) (tC ⟨fun _ => ⟨fun _ => ⟨fun c => absurd rfl c, fun _ => w7_worthOf (by omega) c9 (fun nm' pl' => ?_)⟩, fun c => absurd c (by decide)⟩, fun c => absurd (by decide) c⟩)))
        rw [h.wf hp]
        exact hC _ _ _ _ _
      · refine ⟨fun c => absurd c (by decide), fun c => absurd c (by decide), fun c => absurd c (by decide), fun c => absurd c (by decide), fun c => absurd c (by decide), fun c => absurd c (by decide), fun _ => ⟨(vi (by omega) (by omega)), ?_⟩, fun _ _ _ _ _ _ c => absurd rfl c⟩
        unfold wp_X7_personIs
        refine w7_one_in hp a1 b1 (tD (w7_in_in (lo := 0) (hi := 6) (by omega) (by omega) (by omega) (tC ⟨fun _ => ⟨fun _ => ⟨fun _ => w7_fromOf c2 a1 b1 hp ?_, fun c => absurd c (by decide)⟩, fun c => absurd c (by decide)⟩, fun c => absurd (by decide) c⟩)))
        exact hC _ _ _ _ _
    · have n : ∀ u : Nat, u < 7 → ¬ x2 = nI u := fun u hu c => by
        subst c
        rcases hy with q | q
        · exact absurd q (nlt (b := 0) (by omega) (by omega))
        · exact absurd q (nle (by omega) (by omega))
      (repeat (with_reducible (first | refine tA ?_ | refine tB ?_ | refine tC ?_ | refine tD ?_ | refine w6_one_in (by assumption) (by assumption) ?_ | refine w6_one_out (by assumption) (by assumption) ?_ | refine w7_one_in (by assumption) (by assumption) (by assumption) ?_ | refine w7_one_out (by assumption) (by assumption) (by assumption) ?_ | refine w6_two_in (by assumption) (by assumption) (by assumption) (by assumption) ?_ | refine w6_two_out (by assumption) (by assumption) ?_ | refine w7_two_in (by assumption) (by assumption) (by assumption) (by assumption) (by assumption) ?_ | refine w7_two_out (by assumption) (by assumption) (by assumption) ?_ | refine w6_sort_in (by assumption) ?_ | refine w6_sort_out (by assumption) ?_ | refine w7_sort_in (by assumption) ?_ | refine w7_sort_out (by assumption) ?_ | refine w6_km_in (by assumption) ?_ | refine w6_km_out (by assumption) ?_ | refine w7_kind_in (by assumption) ?_ | refine w7_kind_out (by assumption) ?_ | refine w6_sheet_in (by assumption) ?_ | refine w6_sheet_out (by assumption) ?_ | refine w7_sheet_in (by assumption) ?_ | refine w7_sheet_out (by assumption) ?_ | refine w6_e1 ?_ | refine w6_e2 ?_ | refine w6_e3 ?_ | refine w6_e4 ?_ | refine w6_e5 ?_ | refine w6_e6 ?_ | refine w7_e1 ?_ | refine w7_e2 ?_ | refine w7_e3 ?_ | refine w7_e4 ?_ | refine w7_e5 ?_ | refine w7_e6 ?_)))
      refine ⟨fun c => absurd c (n 0 (by omega)), fun c => absurd c (n 1 (by omega)), fun c => absurd c (n 2 (by omega)), fun c => absurd c (n 3 (by omega)), fun c => absurd c (n 4 (by omega)), fun c => absurd c (n 5 (by omega)), fun c => absurd c (n 6 (by omega)), fun _ _ _ _ _ _ _ => w6_e1 ?_⟩
      unfold wp_X7_personIs
      refine w7_one_in hp a1 b1 (tD (w7_in_out (hi := 6) (by omega) hy (tA (w7_e1 ?_))))
      exact hC _ _ _ _ _
  · (repeat (with_reducible (first | refine tA ?_ | refine tB ?_ | refine tC ?_ | refine tD ?_ | refine w6_one_in (by assumption) (by assumption) ?_ | refine w6_one_out (by assumption) (by assumption) ?_ | refine w7_one_in (by assumption) (by assumption) (by assumption) ?_ | refine w7_one_out (by assumption) (by assumption) (by assumption) ?_ | refine w6_two_in (by assumption) (by assumption) (by assumption) (by assumption) ?_ | refine w6_two_out (by assumption) (by assumption) ?_ | refine w7_two_in (by assumption) (by assumption) (by assumption) (by assumption) (by assumption) ?_ | refine w7_two_out (by assumption) (by assumption) (by assumption) ?_ | refine w6_sort_in (by assumption) ?_ | refine w6_sort_out (by assumption) ?_ | refine w7_sort_in (by assumption) ?_ | refine w7_sort_out (by assumption) ?_ | refine w6_km_in (by assumption) ?_ | refine w6_km_out (by assumption) ?_ | refine w7_kind_in (by assumption) ?_ | refine w7_kind_out (by assumption) ?_ | refine w6_sheet_in (by assumption) ?_ | refine w6_sheet_out (by assumption) ?_ | refine w7_sheet_in (by assumption) ?_ | refine w7_sheet_out (by assumption) ?_ | refine w6_e1 ?_ | refine w6_e2 ?_ | refine w6_e3 ?_ | refine w6_e4 ?_ | refine w6_e5 ?_ | refine w6_e6 ?_ | refine w7_e1 ?_ | refine w7_e2 ?_ | refine w7_e3 ?_ | refine w7_e4 ?_ | refine w7_e5 ?_ | refine w7_e6 ?_)))
    unfold wp_X7_personIs
    refine w7_one_out a1 b1 hx (tB (w7_e1 ?_))
    exact hC _ _ _ _ _
end KIN
