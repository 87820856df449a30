/-! sets by bits; sets that fit a heap -/
theorem nb_and (a b : Nat) : nI a &&& nI b = nI (a &&& b) := by
  apply Int32.toBitVec_inj.1
  show BitVec.ofNat 32 a &&& BitVec.ofNat 32 b = BitVec.ofNat 32 (a &&& b)
  apply BitVec.eq_of_getLsbD_eq
  intro i hi
  simp [hi]
theorem nb_or (a b : Nat) : nI a ||| nI b = nI (a ||| b) := by
  apply Int32.toBitVec_inj.1
  show BitVec.ofNat 32 a ||| BitVec.ofNat 32 b = BitVec.ofNat 32 (a ||| b)
  apply BitVec.eq_of_getLsbD_eq
  intro i hi
  simp [hi]
theorem nb_xor (a b : Nat) : nI a ^^^ nI b = nI (a ^^^ b) := by
  apply Int32.toBitVec_inj.1
  show BitVec.ofNat 32 a ^^^ BitVec.ofNat 32 b = BitVec.ofNat 32 (a ^^^ b)
  apply BitVec.eq_of_getLsbD_eq
  intro i hi
  simp [hi]
theorem nb_1 {p : Nat} (hp : p < 31) : (1 : Int32) <<< (nI p &&& 31) = nI (2 ^ p) := by
  have h2 : 2 ^ p < 2 ^ 32 := Nat.pow_lt_pow_right (by omega) (by omega)
  have := pk_shlN (n := 1) (nI p &&& 31) p (sq_l p (by omega)) (by omega)
  rw [Nat.one_mul] at this
  exact this
theorem nb_t {S p : Nat} (hS : S < 256) (hp : p < 8) : (((nI S >>> (nI p &&& 31)) &&& 1) = 1) ↔ S.testBit p = true := by
  rw [pk_shrN (by omega) (nI p &&& 31) p (sq_l p (by omega)), l1, nb_and, Nat.and_one_is_mod, Nat.testBit_eq_decide_div_mod_eq, decide_eq_true_iff]
  have h1 : S / 2 ^ p % 2 < 2 := Nat.mod_lt _ (by omega)
  rw [eq_n (by omega) (by omega)]
/-- without -/
def nd (S T : Nat) : Nat := S ^^^ (S &&& T)
theorem nb_nd (S T : Nat) : nI S &&& (nI T ^^^ (-1 : Int32)) = nI (nd S T) := by
  apply Int32.toBitVec_inj.1
  show BitVec.ofNat 32 S &&& (BitVec.ofNat 32 T ^^^ BitVec.allOnes 32) = BitVec.ofNat 32 (S ^^^ (S &&& T))
  apply BitVec.eq_of_getLsbD_eq
  intro i hi
  rw [BitVec.getLsbD_and, BitVec.getLsbD_xor, BitVec.getLsbD_allOnes, BitVec.getLsbD_ofNat, BitVec.getLsbD_ofNat, BitVec.getLsbD_ofNat, Nat.testBit_xor, Nat.testBit_and, decide_eq_true hi]
  cases S.testBit i <;> cases T.testBit i <;> rfl
theorem nd_t (S T p : Nat) : (nd S T).testBit p = (S.testBit p && !(T.testBit p)) := by
  unfold nd
  rw [Nat.testBit_xor, Nat.testBit_and]
  cases S.testBit p <;> cases T.testBit p <;> rfl
theorem p2_le {P : Nat} (hP : P ≤ 8) : 0 < 2 ^ P ∧ 2 ^ P ≤ 256 := by
  rcases (by omega : P = 0 ∨ P = 1 ∨ P = 2 ∨ P = 3 ∨ P = 4 ∨ P = 5 ∨ P = 6 ∨ P = 7 ∨ P = 8) with q | q | q | q | q | q | q | q | q <;> subst q <;> decide
/-- what a set has of a sort -/
def st (sp : V) (S k : Nat) (n : Nat) : Int32 := sm (fun p => if S.testBit p = true then sp (5 * p + k) else 0) n
theorem st_t {sp : V} {S k p : Nat} (h : S.testBit p = true) : st sp S k (p + 1) = st sp S k p + sp (5 * p + k) := by
  unfold st; rw [sm]; simp only [h, if_true]
theorem st_f {sp : V} {S k p : Nat} (h : ¬ S.testBit p = true) : st sp S k (p + 1) = st sp S k p := by
  unfold st; rw [sm]; simp only [h]; exact Int32.add_zero _
def FT (P L : Nat) (sp nu : V) (S : Nat) : Prop := ∀ k, k < L → st sp S k P = nu k
theorem w4_fitsSet {P L S : Nat} (hP : P ≤ 8) (hL : L ≤ 5) (hS : S < 256) {sp nu : V} {Q : Int32 → Prop} (h1 : FT P L sp nu S → Q 1) (h0 : ¬ FT P L sp nu S → Q 0) : wp_X4_fitsSet (nI S) (nI P) sp (nI L) nu Q := by
  unfold wp_X4_fitsSet
  obtain ⟨j, hj, hb, hn⟩ := lead_ex (fun k => st sp S k P = nu k) L
  have inner : ∀ (k : Nat) (KK : Int32 → Int32 → Prop), k < 5 → (st sp S k P = nu k → KK (nI S) (nI (k + 1))) → (¬ st sp S k P = nu k → Q 0) → ∃ f, wp_X4_fitsSet_b24 Q KK (nI P) sp (nI L) nu f (nI S) (nI k) (0 : Int32) (0 : Int32) := by
    intro k KK hk g1 g0
    refine loop_0 (fun n p (t : Int32) => wp_X4_fitsSet_b24 Q KK (nI P) sp (nI L) nu n (nI S) (nI k) t (nI p)) (fun p t => t = st sp S k p) P 0 rfl ?_ ?_
    · intro n t et
      unfold wp_X4_fitsSet_b24
      rw [cl (by omega), et]
      refine ⟨fun _ => ⟨(vi (by omega) (by omega)), fun c y ey => ?_, fun c => g0 c⟩, fun c => absurd ((le_n (by omega) (by omega)).mpr (Nat.le_refl P)) c⟩
      rw [ey, i1]; exact g1 c
    · intro n p t hp et ih
      unfold wp_X4_fitsSet_b24
      refine ⟨fun c => absurd c (nle hp (by omega)), fun _ => ⟨fun c y ey => ?_, fun c => w6_cell ⟨(vi (by omega) (by omega)), fun x ex y ey => ?_⟩⟩⟩
      · rw [ey, i1]
        refine ih _ ?_
        rw [st_f (fun q => c ((nb_t hS (by omega)).mpr q))]; exact et
      · rw [ey, i1]
        refine ih _ ?_
        rw [st_t ((nb_t hS (by omega)).mp c), ex, cl (by omega), et]
  refine loop_0 (fun n k (t : Unit) => wp_X4_fitsSet_b3 Q (nI P) sp (nI L) nu n (nI S) (nI k)) (fun _ _ => True) j () trivial ?_ ?_
  · intro n _ _
    unfold wp_X4_fitsSet_b3
    rcases Nat.lt_or_ge j L with g | g
    · have q : ¬ st sp S j P = nu j := by
        rcases hn with q | q
        · omega
        · exact q
      exact ⟨fun c => absurd c (nle g (by omega)), fun _ => ⟨fun c => absurd c (nle (a := 5) (by omega) (by omega)), fun _ => inner j _ (by omega) (fun c => absurd c q) (fun _ => h0 (fun r => q (r j g)))⟩⟩
    · have e : j = L := by omega
      subst e
      exact ⟨fun _ => h1 hb, fun c => absurd ((le_n (by omega) (by omega)).mpr (Nat.le_refl j)) c⟩
  · intro n k _ hk _ ih
    unfold wp_X4_fitsSet_b3
    exact ⟨fun c => absurd c (nle (by omega) (by omega)), fun _ => ⟨fun c => absurd c (nle (a := 5) (by omega) (by omega)), fun _ => inner k _ (by omega) (fun _ => ih () trivial) (fun c => absurd (hb k hk) c)⟩⟩
theorem w7_haveSo {P L S kk : Nat} (hP : P ≤ 8) (hL : L ≤ 5) (hS : S < 256) (hk : kk < 4) {sp nu s ms mn : V} (h4 : s 4 = nI P) (hs : Rs P sp s) (g4 : ms kk = nI L) (g5 : ∀ i, i < 24 → mn (24 * kk + i) = nu i) {Q : Int32 → Prop} (h1 : FT P L sp nu S → Q 1) (h0 : ¬ FT P L sp nu S → Q 0) : wp_X7_haveSo (nI S) (nI kk) s ms mn Q := by
  unfold wp_X7_haveSo
  refine loop_0 (fun n k (t : Int32) => wp_X7_haveSo_b5 Q s ms mn n (nI S) (nI kk) t (nI k)) (fun i t => (t = 1 ∧ ∀ k, k < i → st sp S k P = nu k) ∨ (t = 0 ∧ ¬ ∀ k, k < i → st sp S k P = nu k)) L 1 (Or.inl ⟨rfl, fun k hk => absurd hk (Nat.not_lt_zero k)⟩) ?_ ?_
  · intro n t ht
    unfold wp_X7_haveSo_b5
    rw [cl (by omega), g4]
    refine ⟨(vi (by omega) (by omega)), fun _ => ?_, fun c => absurd ((le_n (by omega) (by omega)).mpr (Nat.le_refl L)) c⟩
    rcases ht with ⟨e, g⟩ | ⟨e, g⟩ <;> subst e
    · exact ⟨bz_1, h1 g⟩
    · exact ⟨bz_0, h0 g⟩
  · intro n i t hi ht ih
    unfold wp_X7_haveSo_b5
    rw [cl (by omega), g4]
    refine ⟨(vi (by omega) (by omega)), fun c => absurd c (nle hi (by omega)), fun _ => ?_⟩
    refine loop_0 (fun m p (u : Int32) => wp_X7_haveSo_b22 Q (wp_X7_haveSo_b5 Q s ms mn n) s ms mn m (nI S) (nI kk) t (nI i) u (nI p)) (fun p u => u = st sp S i p) P 0 rfl ?_ ?_
    · intro m u eu
      unfold wp_X7_haveSo_b22
      rw [show ((4 : Int32).toNatClampNeg) = 4 from rfl, h4]
      refine ⟨vi (n := 4) (by omega) (by omega), fun _ => ?_, fun c => absurd ((le_n (by omega) (by omega)).mpr (Nat.le_refl P)) c⟩
      rw [show (24 : Int32) = nI 24 from rfl, ix8, cl (by omega), g5 i (by omega)]
      rcases ht with ⟨e, g⟩ | ⟨e, g⟩ <;> subst e
      · refine ⟨fun c => absurd c (by decide), fun _ => ⟨(vi (by omega) (by omega)), fun c y ey => ?_, fun c y ey => ?_⟩⟩
        · rw [ey, i1]; exact ih 0 (Or.inr ⟨rfl, fun q => c (by rw [eu]; exact q i (by omega))⟩)
        · rw [ey, i1]
          refine ih 1 (Or.inl ⟨rfl, fun k hk' => ?_⟩)
          by_cases d : k = i
          · subst d; rw [← eu]; exact c
          · exact g k (by omega)
      · refine ⟨fun _ y ey => ?_, fun c => absurd rfl c⟩
        rw [ey, i1]; exact ih 0 (Or.inr ⟨rfl, fun q => g (fun k hk' => q k (by omega))⟩)
    · intro m p u hp eu ih2
      unfold wp_X7_haveSo_b22
      rw [show ((4 : Int32).toNatClampNeg) = 4 from rfl, h4]
      refine ⟨vi (n := 4) (by omega) (by omega), fun c => absurd c (nle hp (by omega)), fun _ => ⟨fun c x ex y ey => ?_, fun c => w7_has (by omega) (by omega) (fun x ex y ey => ?_)⟩⟩
      · rw [ey, i1]
        refine ih2 _ ?_
        rw [st_f (fun q => c ((nb_t hS (by omega)).mpr q)), ex, eu]; exact Int32.add_zero _
      · rw [ey, i1]
        refine ih2 _ ?_
        rw [st_t ((nb_t hS (by omega)).mp c), ex, eu, (hs p i hp (by omega)).2]
section FITS
variable {P Y B w : Nat} {z : Int32} {km fa mo fr sp ow tp tn : V} {tq tk : Nat → V} {wt s e : V} {bt ln : V} {nm : Nat → V} {mb ms mn : V}
theorem w4_many {L : Nat} (hP : P ≤ 8) (hL : L ≤ 5) {nu : V} {Q : Int32 → Prop} (h : Q (nI (rc (fun S => dc (FT P L sp nu S)) 0 (2 ^ P)))) : wp_X4_setsThatFit (nI P) sp (nI L) nu Q := by
  obtain ⟨p1, p2⟩ := p2_le hP
  unfold wp_X4_setsThatFit
  refine pk_loop (fun n S (t : Int32) => wp_X4_setsThatFit_b5 Q (nI P) sp (nI L) nu n t (nI S)) (fun S t => 0 < S ∧ t = nI (rc (fun S => dc (FT P L sp nu S)) 0 S)) (2 ^ P) 1 0 (by omega) ⟨by omega, rfl⟩ ?_ ?_
  · intro n t ⟨_, et⟩
    unfold wp_X4_setsThatFit_b5
    rw [nb_1 (by omega)]
    exact ⟨fun _ => by rw [et]; exact h, fun c => absurd ((le_n (by omega) (by omega)).mpr (Nat.le_refl _)) c⟩
  · intro n S t hS ⟨h0, et⟩ ih
    unfold wp_X4_setsThatFit_b5
    rw [nb_1 (by omega)]
    refine ⟨fun c => absurd c (nle hS (by omega)), fun _ => w4_fitsSet hP hL (by omega) (fun g => w6_truth (fun x ex y ey => ?_)) (fun g => w6_truth (fun x ex y ey => ?_))⟩
    · rw [ey, i1, ex, if_neg (by decide), et, l1, ad]
      exact ih _ ⟨by omega, by rw [rc_t h0 (dc_t.mpr g)]⟩
    · rw [ey, i1, ex, if_pos rfl, et, l0, ad]
      exact ih _ ⟨by omega, by rw [rc_f (dc_f.mpr g)]; rfl⟩
/-- the least set that fits; 0: none -/
def LF (P L : Nat) (sp nu : V) (S0 : Nat) : Prop := S0 < 2 ^ P ∧ (∀ S, 0 < S → S < 2 ^ P → (S0 = 0 ∨ S < S0) → ¬ FT P L sp nu S) ∧ (0 < S0 → FT P L sp nu S0)
theorem lf_ex (P L : Nat) (hP : P ≤ 8) (sp nu : V) : ∃ S0, LF P L sp nu S0 := by
  obtain ⟨p1, p2⟩ := p2_le hP
  obtain ⟨j, h1, h2, h3⟩ := lead_ex (fun S => 0 < S → ¬ FT P L sp nu S) (2 ^ P)
  rcases Nat.lt_or_ge j (2 ^ P) with g | g
  · have h4 : ¬ (0 < j → ¬ FT P L sp nu j) := by
      rcases h3 with q | q
      · omega
      · exact q
    have h5 : 0 < j := by
      rcases Nat.eq_zero_or_pos j with q | q
      · exact absurd (fun c => by omega) h4
      · exact q
    refine ⟨j, g, fun S s1 s2 s3 => h2 S (by omega) s1, fun _ => ?_⟩
    by_cases q : FT P L sp nu j
    · exact q
    · exact absurd (fun _ => q) h4
  · exact ⟨0, p1, fun S s1 s2 _ => h2 S (by omega) s1, fun c => absurd c (Nat.lt_irrefl 0)⟩
theorem w4_least {L S0 : Nat} (hP : P ≤ 8) (hL : L ≤ 5) {nu : V} (hf : LF P L sp nu S0) {Q : Int32 → Prop} (h : Q (nI S0)) : wp_X4_leastThatFits (nI P) sp (nI L) nu Q := by
  obtain ⟨p1, p2⟩ := p2_le hP
  obtain ⟨f1, f2, f3⟩ := hf
  unfold wp_X4_leastThatFits
  have go : ∀ E, 0 < E → E ≤ 2 ^ P → (∀ S, 0 < S → S < E → ¬ FT P L sp nu S) → (∀ n, wp_X4_leastThatFits_b2 Q (nI P) sp (nI L) nu (n + 1) (nI E)) → ∃ f, wp_X4_leastThatFits_b2 Q (nI P) sp (nI L) nu f (1 : Int32) := by
    intro E e1 e2 e3 e4
    refine pk_loop (fun n S (t : Unit) => wp_X4_leastThatFits_b2 Q (nI P) sp (nI L) nu n (nI S)) (fun S t => 0 < S) E 1 () (by omega) (by omega) (fun n _ _ => e4 n) ?_
    intro n S _ hS h0 ih
    unfold wp_X4_leastThatFits_b2
    rw [nb_1 (by omega)]
    refine ⟨fun c => absurd c (nle (by omega) (by omega)), fun _ => w4_fitsSet hP hL (by omega) (fun g => absurd g (e3 S h0 hS)) (fun g => tB (fun y ey => ?_))⟩
    rw [ey, i1]; exact ih () (by omega)
  rcases Nat.eq_zero_or_pos S0 with q | q
  · subst q
    refine go (2 ^ P) p1 (Nat.le_refl _) (fun S s1 s2 => f2 S s1 s2 (Or.inl rfl)) (fun n => ?_)
    unfold wp_X4_leastThatFits_b2
    rw [nb_1 (by omega)]
    exact ⟨fun _ => h, fun c => absurd ((le_n (by omega) (by omega)).mpr (Nat.le_refl _)) c⟩
  · refine go S0 q (by omega) (fun S s1 s2 => f2 S s1 (by omega) (Or.inr s2)) (fun n => ?_)
    unfold wp_X4_leastThatFits_b2
    rw [nb_1 (by omega)]
    exact ⟨fun c => absurd c (nle (by omega) (by omega)), fun _ => w4_fitsSet hP hL (by omega) (fun g => tD h) (fun g => absurd (f3 q) g)⟩
theorem w7_fits (h : WR P Y B w z km fa mo fr sp ow tp tn tq wt s) {kk L S0 v : Nat} (hk : kk < 4) (hL : L ≤ 5) (hv : v < 2) (g4 : ms kk = nI L) {nu : V} (g5 : ∀ i, i < 24 → mn (24 * kk + i) = nu i) (hf : LF P L sp nu S0) {Q : Int32 → V → Prop} (h0 : v = 0 → Q (nI (rc (fun S => dc (FT P L sp nu S)) 0 (2 ^ P))) e) (h1 : v = 1 → S0 = 0 → Q (er 2) (eu e 2)) (h2 : v = 1 → 0 < S0 → Q (nI S0) e) : wp_X7_fits_b18 Q s mb ms mn (nI kk) (nI v) (0 : Int32) e := by
  obtain ⟨⟨a1, a2, a3, a4⟩, ⟨b1, b2, b3, b4, b5⟩, c1, c2, c3, c4, c5, c6, c7, c8, c9⟩ := id h
  obtain ⟨p1, p2⟩ := p2_le a1
  obtain ⟨f1, f2, f3⟩ := hf
  unfold wp_X7_fits_b18
  rw [show ((4 : Int32).toNatClampNeg) = 4 from rfl, b1, nb_1 (by omega), cl (by omega), g4, l1, sb (by omega)]
  refine tB ⟨(vi (by omega) (by omega)), fun _ => ⟨vi (n := 4) (by omega) (by omega), fun x6 e6 => ?_⟩, fun c => absurd ((le_n (b := 5) (by omega) (by omega)).mpr hL) c⟩
  subst e6
  refine ⟨2 ^ P - 1 + 1, pk_loopD (fun n i (t : Int32 × Int32) => wp_X7_fits_b63 Q s mb ms mn n (nI kk) (nI v) t.1 t.2 (nI i) e) (fun i t => i < 2 ^ P ∧ (∃ m, t.1 = nI m ∧ m + rc (fun S => dc (FT P L sp nu S)) 0 (i + 1) = rc (fun S => dc (FT P L sp nu S)) 0 (2 ^ P)) ∧ ((t.2 = -1 ∧ ∀ S, i < S → S < 2 ^ P → ¬ FT P L sp nu S) ∨ ∃ S1, i < S1 ∧ S1 < 2 ^ P ∧ t.2 = nI S1 ∧ FT P L sp nu S1 ∧ ∀ S, i < S → S < S1 → ¬ FT P L sp nu S)) ?_ ?_ (2 ^ P - 1) (0, -1) ⟨by omega, ⟨0, rfl, by rw [show 2 ^ P - 1 + 1 = 2 ^ P by omega, Nat.zero_add]⟩, Or.inl ⟨rfl, fun S s1 s2 => by omega⟩⟩⟩
  · intro n t ⟨_, ⟨m, e1, e2⟩, ht⟩
    show wp_X7_fits_b63 Q s mb ms mn (n + 1) (nI kk) (nI v) t.1 t.2 (nI 0) e
    unfold wp_X7_fits_b63
    have em : m = rc (fun S => dc (FT P L sp nu S)) 0 (2 ^ P) := by
      rw [rc_0 (0 + 1) (by omega)] at e2; omega
    refine ⟨fun _ => ⟨fun c => ?_, fun c => ?_⟩, fun c => absurd (show nI 0 ≤ 0 by decide) c⟩
    · have v1 : v = 1 := by
        rcases (by omega : v = 0 ∨ v = 1) with q | q
        · subst q; exact absurd rfl c
        · exact q
      rcases ht with ⟨et, g⟩ | ⟨S1, s1, s2, et, s3, s4⟩
      · refine ⟨fun k => absurd et k, fun _ => w7_e2 (h1 v1 ?_)⟩
        rcases Nat.eq_zero_or_pos S0 with q | q
        · exact q
        · exact absurd (f3 q) (g S0 q f1)
      · have s0 : S0 = S1 := by
          rcases Nat.eq_zero_or_pos S0 with q | q
          · exact absurd s3 (f2 S1 s1 s2 (Or.inl q))
          · rcases Nat.lt_trichotomy S0 S1 with k | k | k
            · exact absurd (f3 q) (s4 S0 q k)
            · exact k
            · exact absurd s3 (f2 S1 s1 s2 (Or.inr k))
        have n1 : ¬ t.2 = -1 := by
          rw [et]
          intro k
          have k := (iq _ _).mp k
          rw [ti (by omega)] at k
          have : (-1 : Int32).toInt = -1 := rfl
          omega
        refine ⟨fun _ => ?_, fun k => absurd k n1⟩
        rw [et, ← s0]; exact h2 v1 (by omega)
    · have v0 : v = 0 := (eq_n (b := 0) (by omega) (by omega)).mp c
      rw [e1, em]; exact h0 v0
  · intro n i t ⟨hi, ⟨m, e1, e2⟩, ht⟩ ih
    show wp_X7_fits_b63 Q s mb ms mn (n + 1) (nI kk) (nI v) t.1 t.2 (nI (i + 1)) e
    unfold wp_X7_fits_b63
    refine ⟨fun c => absurd c (nle (b := 0) (by omega) (by omega)), fun _ => w7_haveSo a1 hL (by omega) hk b1 c4 g4 g5 (fun g => ?_) (fun g => ?_)⟩
    · refine tD (fun x ex => tD (fun y ey => ?_))
      rw [ey, pk_m1, ex, e1, i1]
      refine ih (nI (m + 1), nI (i + 1)) ⟨by omega, ⟨m + 1, rfl, ?_⟩, Or.inr ⟨i + 1, by omega, hi, rfl, g, fun S s1 s2 => by omega⟩⟩
      rw [rc_t (by omega) (dc_t.mpr g)] at e2
      omega
    · refine tB (fun x ex => tB (fun y ey => ?_))
      rw [ey, pk_m1, ex, e1, l0, ad]
      rw [rc_f (dc_f.mpr g)] at e2
      refine ih (nI (m + 0), t.2) ⟨by omega, ⟨m, rfl, e2⟩, ?_⟩
      rcases ht with ⟨et, q⟩ | ⟨S1, s1, s2, et, s3, s4⟩
      · exact Or.inl ⟨et, fun S k1 k2 => by
          by_cases d : S = i + 1
          · subst d; exact g
          · exact q S (by omega) k2⟩
      · exact Or.inr ⟨S1, by omega, s2, et, s3, fun S k1 k2 => by
          by_cases d : S = i + 1
          · subst d; exact g
          · exact s4 S (by omega) k2⟩
theorem op_fits (h : WR P Y B w z km fa mo fr sp ow tp tn tq wt s) (hs : SH bt ln nm mb ms mn) (x1 x2 : Int32) (C : Int32 → V → Int32 → V → Prop) (hC : ∀ r e', C r e' r e') : wp_X6_fits x1 x2 (nI P) sp e bt ln nm (fun r e' => wp_X7_fits x1 x2 s e mb ms mn (fun r' e'' => C r e' r' e'')) := by
  obtain ⟨⟨a1, a2, a3, a4⟩, ⟨b1, b2, b3, b4, b5⟩, c1, c2, c3, c4, c5, c6, c7, c8, c9⟩ := id h
  have two : ∀ {s0 : Int32} {k : Nat}, 0 < k → k ≤ 6 → s0 = nI k → ∀ Q : Int32 → V → Prop, Q (er k) (eu e k) → wp_X7_fits_b18 Q s mb ms mn x1 x2 s0 e := by
    intro s0 k k0 k6 es Q q
    unfold wp_X7_fits_b18
    subst es
    exact ⟨fun c => by have := (eq_n (b := 0) (by omega) (by omega)).mp c; omega, fun _ => w7_error (by omega) q⟩
  unfold wp_X6_fits
  rcases io x1 4 (by omega) with ⟨k, hk, rfl⟩ | ho
  · rcases io x2 2 (by omega) with ⟨v, hv, rfl⟩ | hy
    · obtain ⟨⟨g1, g2⟩, ⟨L, hL, g3, g4⟩, g5⟩ := hs k hk
      (repeat (with_reducible (first | refine tA ?_ | refine tB ?_ | refine tC ?_ | refine tD ?_ | refine w6_one_in (by assumption) (by assumption) ?_ | refine w6_one_out (by assumption) (by assumption) ?_ | refine w7_one_in (by assumption) (by assumption) (by assumption) ?_ | refine w7_one_out (by assumption) (by assumption) (by assumption) ?_ | refine w6_two_in (by assumption) (by assumption) (by assumption) (by assumption) ?_ | refine w6_two_out (by assumption) (by assumption) ?_ | refine w7_two_in (by assumption) (by assumption) (by assumption) (by assumption) (by assumption) ?_ | refine w7_two_out (by assumption) (by assumption) (by assumption) ?_ | refine w6_sort_in (by assumption) ?_ | refine w6_sort_out (by assumption) ?_ | refine w7_sort_in (by assumption) ?_ | refine w7_sort_out (by assumption) ?_ | refine w6_km_in (by assumption) ?_ | refine w6_km_out (by assumption) ?_ | refine w7_kind_in (by assumption) ?_ | refine w7_kind_out (by assumption) ?_ | refine w6_sheet_in (by assumption) ?_ | refine w6_sheet_out (by assumption) ?_ | refine w7_sheet_in (by assumption) ?_ | refine w7_sheet_out (by assumption) ?_ | refine w6_e1 ?_ | refine w6_e2 ?_ | refine w6_e3 ?_ | refine w6_e4 ?_ | refine w6_e5 ?_ | refine w6_e6 ?_ | refine w7_e1 ?_ | refine w7_e2 ?_ | refine w7_e3 ?_ | refine w7_e4 ?_ | refine w7_e5 ?_ | refine w7_e6 ?_)))
      refine w6_within_in (lo := 0) (hi := 1) (by omega) (by omega) (by omega) (tB ⟨(vi (by omega) (by omega)), fun K hK eK => ?_⟩)
      have : k = K := (eq_n (by omega) (by omega)).mp eK
      subst this
      by_cases z0 : bt k = 0
      · refine w1_missing_1 z0 ?_
        (repeat (with_reducible (first | refine tA ?_ | refine tB ?_ | refine tC ?_ | refine tD ?_ | refine w6_one_in (by assumption) (by assumption) ?_ | refine w6_one_out (by assumption) (by assumption) ?_ | refine w7_one_in (by assumption) (by assumption) (by assumption) ?_ | refine w7_one_out (by assumption) (by assumption) (by assumption) ?_ | refine w6_two_in (by assumption) (by assumption) (by assumption) (by assumption) ?_ | refine w6_two_out (by assumption) (by assumption) ?_ | refine w7_two_in (by assumption) (by assumption) (by assumption) (by assumption) (by assumption) ?_ | refine w7_two_out (by assumption) (by assumption) (by assumption) ?_ | refine w6_sort_in (by assumption) ?_ | refine w6_sort_out (by assumption) ?_ | refine w7_sort_in (by assumption) ?_ | refine w7_sort_out (by assumption) ?_ | refine w6_km_in (by assumption) ?_ | refine w6_km_out (by assumption) ?_ | refine w7_kind_in (by assumption) ?_ | refine w7_kind_out (by assumption) ?_ | refine w6_sheet_in (by assumption) ?_ | refine w6_sheet_out (by assumption) ?_ | refine w7_sheet_in (by assumption) ?_ | refine w7_sheet_out (by assumption) ?_ | refine w6_e1 ?_ | refine w6_e2 ?_ | refine w6_e3 ?_ | refine w6_e4 ?_ | refine w6_e5 ?_ | refine w6_e6 ?_ | refine w7_e1 ?_ | refine w7_e2 ?_ | refine w7_e3 ?_ | refine w7_e4 ?_ | refine w7_e5 ?_ | refine w7_e6 ?_)))
        unfold wp_X7_fits
        refine w7_in_in (lo := 0) (hi := 1) (by omega) (by omega) (by omega) (tD (w7_lacks_2 hk (by rw [← g1]; exact z0) (two (k := 2) (by omega) (by omega) rfl _ (hC _ _))))
      · refine w1_missing_0 z0 (tA ?_)
        rw [g3]
        have md : ∀ R : Int32 → V → Prop, wp_X7_fits_b18 R s mb ms mn (nI k) (nI v) (0 : Int32) e → wp_X7_fits (nI k) (nI v) s e mb ms mn R := by
          intro R q
          unfold wp_X7_fits
          exact w7_in_in (lo := 0) (hi := 1) (by omega) (by omega) (by omega) (tD (w7_lacks_0 hk (by rw [← g1]; exact z0) q))
        refine ⟨fun c => ?_, fun c => w6_e2 (md _ ?_)⟩
        · have hL5 : L ≤ 5 := (le_n (b := 5) (by omega) (by omega)).mp c
          obtain ⟨S0, hf⟩ := lf_ex P L a1 sp (nm k)
          obtain ⟨p1, p2⟩ := p2_le a1
          have f1 := hf.1
          refine ⟨fun c2 => w4_least a1 hL5 hf ⟨fun c3 => w6_e2 (md _ (w7_fits h hk hL5 hv g4 g5 hf (fun q => absurd (by rw [q]; rfl) c2) (fun _ _ => hC _ _) (fun _ q => ?_))), fun c3 => md _ (w7_fits h hk hL5 hv g4 g5 hf (fun q => absurd (by rw [q]; rfl) c2) (fun _ q => absurd (by rw [q]; decide) c3) (fun _ _ => hC _ _))⟩, fun c2 => w4_many a1 hL5 (md _ (w7_fits h hk hL5 hv g4 g5 hf (fun _ => hC _ _) (fun q => ?_) (fun q => ?_)))⟩
          · have := (le_n (b := 0) (by omega) (by omega)).mp c3; omega
          · have := (eq_n (b := 0) (by omega) (by omega)).mp c2; omega
          · have := (eq_n (b := 0) (by omega) (by omega)).mp c2; omega
        · unfold wp_X7_fits_b18
          rw [cl (by omega), g4]
          exact tB ⟨(vi (by omega) (by omega)), fun q => absurd q c, fun _ => w7_e2 (hC _ _)⟩
    · (repeat (with_reducible (first | refine tA ?_ | refine tB ?_ | refine tC ?_ | refine tD ?_ | refine w6_one_in (by assumption) (by assumption) ?_ | refine w6_one_out (by assumption) (by assumption) ?_ | refine w7_one_in (by assumption) (by assumption) (by assumption) ?_ | refine w7_one_out (by assumption) (by assumption) (by assumption) ?_ | refine w6_two_in (by assumption) (by assumption) (by assumption) (by assumption) ?_ | refine w6_two_out (by assumption) (by assumption) ?_ | refine w7_two_in (by assumption) (by assumption) (by assumption) (by assumption) (by assumption) ?_ | refine w7_two_out (by assumption) (by assumption) (by assumption) ?_ | refine w6_sort_in (by assumption) ?_ | refine w6_sort_out (by assumption) ?_ | refine w7_sort_in (by assumption) ?_ | refine w7_sort_out (by assumption) ?_ | refine w6_km_in (by assumption) ?_ | refine w6_km_out (by assumption) ?_ | refine w7_kind_in (by assumption) ?_ | refine w7_kind_out (by assumption) ?_ | refine w6_sheet_in (by assumption) ?_ | refine w6_sheet_out (by assumption) ?_ | refine w7_sheet_in (by assumption) ?_ | refine w7_sheet_out (by assumption) ?_ | refine w6_e1 ?_ | refine w6_e2 ?_ | refine w6_e3 ?_ | refine w6_e4 ?_ | refine w6_e5 ?_ | refine w6_e6 ?_ | refine w7_e1 ?_ | refine w7_e2 ?_ | refine w7_e3 ?_ | refine w7_e4 ?_ | refine w7_e5 ?_ | refine w7_e6 ?_)))
      refine w6_within_out (hi := 1) (by omega) hy (tD (w6_e1 ?_))
      unfold wp_X7_fits
      exact w7_in_out (hi := 1) (by omega) hy (tB (two (k := 1) (by omega) (by omega) rfl _ (hC _ _)))
  · (repeat (with_reducible (first | refine tA ?_ | refine tB ?_ | refine tC ?_ | refine tD ?_ | refine w6_one_in (by assumption) (by assumption) ?_ | refine w6_one_out (by assumption) (by assumption) ?_ | refine w7_one_in (by assumption) (by assumption) (by assumption) ?_ | refine w7_one_out (by assumption) (by assumption) (by assumption) ?_ | refine w6_two_in (by assumption) (by assumption) (by assumption) (by assumption) ?_ | refine w6_two_out (by assumption) (by assumption) ?_ | refine w7_two_in (by assumption) (by assumption) (by assumption) (by assumption) (by assumption) ?_ | refine w7_two_out (by assumption) (by assumption) (by assumption) ?_ | refine w6_sort_in (by assumption) ?_ | refine w6_sort_out (by assumption) ?_ | refine w7_sort_in (by assumption) ?_ | refine w7_sort_out (by assumption) ?_ | refine w6_km_in (by assumption) ?_ | refine w6_km_out (by assumption) ?_ | refine w7_kind_in (by assumption) ?_ | refine w7_kind_out (by assumption) ?_ | refine w6_sheet_in (by assumption) ?_ | refine w6_sheet_out (by assumption) ?_ | refine w7_sheet_in (by assumption) ?_ | refine w7_sheet_out (by assumption) ?_ | refine w6_e1 ?_ | refine w6_e2 ?_ | refine w6_e3 ?_ | refine w6_e4 ?_ | refine w6_e5 ?_ | refine w6_e6 ?_ | refine w7_e1 ?_ | refine w7_e2 ?_ | refine w7_e3 ?_ | refine w7_e4 ?_ | refine w7_e5 ?_ | refine w7_e6 ?_)))
    unfold wp_X7_fits
    rcases io x2 2 (by omega) with ⟨v, hv, rfl⟩ | hy
    · exact w7_in_in (lo := 0) (hi := 1) (by omega) (by omega) (by omega) (tD (w7_lacks_out ho (two (k := 1) (by omega) (by omega) rfl _ (hC _ _))))
    · exact w7_in_out (hi := 1) (by omega) hy (tB (two (k := 1) (by omega) (by omega) rfl _ (hC _ _)))
end FITS
