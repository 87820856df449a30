/-! texts: the smallest sentences -/
section UNITS
variable {Q : Int32 → Prop} {u : Nat}
theorem nm_step {n i : Nat} {c : Int32} (hu : u < 2) (hi : i < 3) (h1 : ¬ cNa (nI (3 * u + i)) = c → wp_X0_nameOf_b2 Q (nI u) n c (nI (i + 1))) (h2 : cNa (nI (3 * u + i)) = c → Q (nI (i + 1))) : wp_X0_nameOf_b2 Q (nI u) (n + 1) c (nI i) := by
  unfold wp_X0_nameOf_b2
  rw [show nI u * (3 : Int32) + nI i = nI (3 * u + i) by rw [show (3 : Int32) = nI 3 from rfl, ml, ad, Nat.mul_comm u 3], i1]
  refine ⟨fun k => absurd k (nle (a := 3) hi (by omega)), fun _ => ⟨vi (by omega) (by omega), fun k y ey => ?_, h2⟩⟩
  rw [ey]; exact h1 k
theorem w0_name {c : Int32} (hu : u < 2) (hy : ∀ j, j < 3 → cNa (nI (3 * u + j)) = c → Q (nI (j + 1))) (hn : (∀ j, j < 3 → ¬ cNa (nI (3 * u + j)) = c) → Q 0) : wp_X0_nameOf c (nI u) Q := by
  unfold wp_X0_nameOf
  refine ⟨4, nm_step (i := 0) hu (by omega) (fun k0 => nm_step (i := 1) hu (by omega) (fun k1 => nm_step (i := 2) hu (by omega) (fun k2 => ?_) (hy 2 (by omega))) (hy 1 (by omega))) (hy 0 (by omega))⟩
  unfold wp_X0_nameOf_b2
  refine ⟨fun _ => hn (fun j hj => ?_), fun k => absurd (by decide) k⟩
  rcases (by omega : j = 0 ∨ j = 1 ∨ j = 2) with g | g | g <;> subst g
  · exact k0
  · exact k1
  · exact k2
theorem w7_name {c : Int32} (hu : u < 2) (hy : ∀ j, j < 3 → cNa (nI (3 * u + j)) = c → Q 1) (hn : (∀ j, j < 3 → ¬ cNa (nI (3 * u + j)) = c) → Q 0) : wp_X7_isName c (nI u) Q := by
  unfold wp_X7_isName
  rcases (by omega : u = 0 ∨ u = 1) with q | q <;> subst q
  · refine ⟨fun n5 => ⟨fun k => absurd rfl k, fun _ => ⟨fun k => hy 0 (by omega) k.symm, fun n9 => ⟨fun n1 => hn (fun j hj => ?_), fun k => hy 2 (by omega) k.symm⟩⟩⟩, fun k => hy 1 (by omega) k.symm⟩
    rcases (by omega : j = 0 ∨ j = 1 ∨ j = 2) with g | g | g <;> subst g
    · exact fun k => n9 k.symm
    · exact fun k => n5 k.symm
    · exact fun k => n1 k.symm
  · refine ⟨fun n5 => ⟨fun _ => ⟨fun k => hy 0 (by omega) k.symm, fun n9 => ⟨fun n1 => hn (fun j hj => ?_), fun k => hy 2 (by omega) k.symm⟩⟩, fun k => absurd k (by decide)⟩, fun k => hy 1 (by omega) k.symm⟩
    rcases (by omega : j = 0 ∨ j = 1 ∨ j = 2) with g | g | g <;> subst g
    · exact fun k => n9 k.symm
    · exact fun k => n5 k.symm
    · exact fun k => n1 k.symm
theorem w0_digit {c : Int32} (h1 : ¬ (c < 48 ∨ 57 < c) → Q 1) (h0 : (c < 48 ∨ 57 < c) → Q 0) : wp_X0_isDigit c Q := by
  unfold wp_X0_isDigit
  exact ⟨fun k => h0 (Or.inl k), fun k => ⟨fun k2 => h0 (Or.inr k2), fun k2 => h1 (fun q => q.elim k k2)⟩⟩
theorem cn_big : ∀ u, u < 2 → ∀ j, j < 3 → (57 : Int32) < cNa (nI (3 * u + j)) ∧ ¬ cNa (nI (3 * u + j)) = -1 ∧ ¬ cNa (nI (3 * u + j)) = 33 ∧ ¬ cNa (nI (3 * u + j)) = 40 := by decide +kernel
theorem cn_inj : ∀ u, u < 2 → ∀ i, i < 3 → ∀ j, j < 3 → cNa (nI (3 * u + i)) = cNa (nI (3 * u + j)) → i = j := by decide +kernel
end UNITS
def nv (tape : V) (a : Nat) : Nat → Nat
  | 0 => 0
  | i + 1 => nv tape a i * 10 + ((tape (a + i)).toNatClampNeg - 48)
section UNIT
variable {tape s : V} {B u o a lo dc d : Nat} {CL1 : CLt} {ML1 : MLt}
theorem dg_n (hT : ∀ i, i < 60 → Bd 255 (tape i)) {i : Nat} (hi : i < 60) (h : ¬ (tape i < 48 ∨ 57 < tape i)) : ∃ g, g ≤ 9 ∧ tape i = nI (48 + g) ∧ (tape i).toNatClampNeg - 48 = g := by
  obtain ⟨v, hv, ev⟩ := hT i hi
  rw [ev] at h ⊢
  have h1 : ¬ nI v < nI 48 := fun k => h (Or.inl k)
  have h2 : ¬ nI 57 < nI v := fun k => h (Or.inr k)
  rw [lt_n (by omega) (by omega)] at h1 h2
  exact ⟨v - 48, by omega, by congr 1; omega, by rw [cl (by omega)]⟩
theorem nv_lt (hT : ∀ i, i < 60 → Bd 255 (tape i)) : ∀ i, a + i ≤ 60 → (∀ j, j < i → ¬ (tape (a + j) < 48 ∨ 57 < tape (a + j))) → nv tape a i + 1 ≤ 10 ^ i
  | 0, _, _ => Nat.le_refl 1
  | i + 1, hi, h => by
    have ih := nv_lt hT i (by omega) (fun j hj => h j (by omega))
    obtain ⟨g, hg, -, e⟩ := dg_n hT (show a + i < 60 by omega) (h i (by omega))
    rw [nv, e, Nat.pow_succ]
    omega
abbrev CUt (tape : V) (B u d o : Nat) : CLt := fun p n q Q => wp_X0_readUnit d (nI o) (nI B) p (nI u) 0 n q tape Q
theorem cu_in (hB : B ≤ 60) (ha : a ≤ B) {n : Nat} {q : V} {Q : Int32 → Int32 → Int32 → V → Prop} (h : wp_X0_readUnit_b24 (wp_X0_readChain d) (wp_X0_readUnit d) Q (nI B) (nI u) tape (nI o) (lk tape B a) (nI a) 0 (nI n) q) : CUt tape B u (d + 1) o (nI a) (nI n) q Q := by
  show wp_X0_readUnit (d + 1) (nI o) (nI B) (nI a) (nI u) 0 (nI n) q tape Q
  rw [wp_X0_readUnit_s]
  unfold ws_X0_readUnit
  refine ⟨fun c => ?_, fun c => ?_⟩
  · have := (le_n (by omega) (by omega)).mp c
    rw [lk_e this] at h; exact h
  · have hlt : a < B := by
      rcases Nat.lt_or_ge a B with q | q
      · exact q
      · exact absurd ((le_n (by omega) (by omega)).mpr q) c
    rw [lk_i hlt] at h
    rw [cl (by omega)]
    exact ⟨(vi (by omega) (by omega)), h⟩
/-- no digit, no name -/
def NDN (u : Nat) (c : Int32) : Prop := (c < 48 ∨ 57 < c) ∧ ∀ j, j < 3 → ¬ cNa (nI (3 * u + j)) = c
theorem cu_rest (hu : u < 2) {c f n : Int32} {p : Int32} {q : V} {Q : Int32 → Int32 → Int32 → V → Prop} (hc : NDN u c) (h : ((¬ c = (33 : Int32)) → wp_X0_readUnit_b111 (wp_X0_readChain d) (wp_X0_readUnit d) Q (nI B) (nI u) tape (nI o) c p f n q) ∧ ((c = (33 : Int32)) → (((5 : Int32) ≤ nI o) → wp_X0_readUnit_b111 (wp_X0_readChain d) (wp_X0_readUnit d) Q (nI B) (nI u) tape (nI o) c p f n q) ∧ ((¬ (5 : Int32) ≤ nI o) → ∀ c_place_89 : Int32, c_place_89 = (p + (1 : Int32)) → wp_X0_readUnit d (nI o + (1 : Int32)) (nI B) c_place_89 (nI u) f n q tape (fun c_place_96 c_failed_96 md_size_96 md_parts_96 => wp_X3_add (-c) md_size_96 md_parts_96 (fun md_size_105 md_parts_105 => Q c_place_96 c_failed_96 md_size_105 md_parts_105))))) : wp_X0_readUnit_b24 (wp_X0_readChain d) (wp_X0_readUnit d) Q (nI B) (nI u) tape (nI o) c p f n q := by
  unfold wp_X0_readUnit_b24
  refine w0_name hu (fun j hj k => absurd k (hc.2 j hj)) (fun _ => w0_digit (fun k => absurd hc.1 k) (fun _ => ⟨fun _ => ⟨fun _ => h, fun k => absurd (by decide) k⟩, fun k => absurd rfl k⟩))
abbrev MUt (s : V) (u d o : Nat) : MLt := fun p n st Q => wp_X7_one d p (nI o) n (nI u) s st Q
theorem rd_number (hB : B ≤ 60) (hu : u < 2) (hT : ∀ i, i < 60 → Bd 255 (tape i)) (h2 : s 2 = nI B) (ht : ∀ i, i < 60 → s (392 + i) = tape i) (ha : a < B) (hd : ¬ (tape a < 48 ∨ 57 < tape a)) : RD 0 o B u (CUt tape B u (dc + 1) o) (MUt s u (d + 1) o) a a := by
  obtain ⟨k, hk, hb, hn⟩ := lead_ex (fun i => a + i < B ∧ ¬ (tape (a + i) < 48 ∨ 57 < tape (a + i))) 4
  have k1 : 0 < k := by
    rcases Nat.eq_zero_or_pos k with e | e
    · subst e
      rcases hn with q | q
      · omega
      · exact absurd ⟨ha, hd⟩ q
    · exact e
  have kB : a + k ≤ B := by
    have := (hb (k - 1) (by omega)).1
    omega
  have vb : ∀ i, i ≤ k → nv tape a i ≤ 9999 := fun i hi => by
    have := nv_lt (a := a) hT i (by omega) (fun j hj => (hb j (by omega)).2)
    have q : 10 ^ i ≤ 10 ^ 4 := Nat.pow_le_pow_right (by omega) (by omega)
    have q4 : (10 : Nat) ^ 4 = 10000 := rfl
    omega
  have stopk : k = 4 ∨ ¬ (a + k < B ∧ ¬ (tape (a + k) < 48 ∨ 57 < tape (a + k))) := hn
  have nonm : ∀ j, j < 3 → ¬ cNa (nI (3 * u + j)) = tape a := fun j hj q => hd (Or.inr (by rw [← q]; exact (cn_big u hu j hj).1))
  refine RD.tok (a1 := a + k) (t := nI (nv tape a k)) (x := nI 0) (y := nI (nv tape a k)) (by omega) kB (tk_ge (vb k (Nat.le_refl k))).1 (Or.inl ⟨_, vb k (Nat.le_refl k), rfl, rfl, rfl⟩) (fun n q Q hn' hq => ?_) (fun n st Q hn' hq => ?_)
  · refine cu_in hB (by omega) ?_
    rw [lk_i ha]
    unfold wp_X0_readUnit_b24
    refine w0_name hu (fun j hj k => absurd k (nonm j hj)) (fun _ => w0_digit (fun _ => ⟨fun c => absurd c (by decide), fun _ => ?_⟩) (fun c => absurd c hd))
    unfold wp_X0_readNumber
    refine loop_0 (fun f i (t : Unit) => wp_X0_readNumber_b4 _ (nI B) tape f (nI (nv tape a i)) (nI i) (nI (a + i)) (nI n) q) (fun _ _ => True) k () trivial ?_ ?_
    · intro f _ _
      have fin : wp_X3_add (nI (nv tape a k)) (nI n) q (fun md_size_74 md_parts_74 => Q (nI (a + k)) 0 md_size_74 md_parts_74) := w3_add (by omega) hq
      unfold wp_X0_readNumber_b4
      refine ⟨fun _ => fin, fun c => ⟨fun _ => fin, fun c2 => ?_⟩⟩
      have k4 : k < 4 := by
        rcases Nat.lt_or_ge k 4 with q | q
        · exact q
        · exact absurd ((le_n (a := 4) (by omega) (by omega)).mpr q) c
      have kl : a + k < B := by
        rcases Nat.lt_or_ge (a + k) B with q | q
        · exact q
        · exact absurd ((le_n (by omega) (by omega)).mpr q) c2
      rw [cl (by omega)]
      refine ⟨(vi (by omega) (by omega)), w0_digit (fun q => ?_) (fun _ => tB fin)⟩
      rcases stopk with r | r
      · omega
      · exact absurd ⟨kl, q⟩ r
    · intro f i _ hi _ ih
      obtain ⟨b1, b2⟩ := hb i hi
      obtain ⟨g, hg, eg, eg2⟩ := dg_n hT (show a + i < 60 by omega) b2
      have vi' := vb i (by omega)
      unfold wp_X0_readNumber_b4
      rw [cl (by omega)]
      refine ⟨fun c => absurd c (nle (a := 4) (by omega) (by omega)), fun _ => ⟨fun c => absurd c (nle b1 (by omega)), fun _ => ⟨(vi (by omega) (by omega)), w0_digit (fun _ => ⟨fun c => absurd c (by decide), fun _ => ⟨(vi (by omega) (by omega)), fun x1 e1 p ep x2 e2 => ?_⟩⟩) (fun c => absurd c b2)⟩⟩⟩
      have e1' : x1 = nI (nv tape a (i + 1)) := by
        rw [e1, eg, nv, eg2, show (10 : Int32) = nI 10 from rfl, show (48 : Int32) = nI 48 from rfl, ml, ad, sb (by omega)]
        congr 1; omega
      rw [e1', ep, e2, i1, i1]
      exact ih () trivial
  · show wp_X7_one (d + 1) (nI a) (nI o) (nI n) (nI u) s st Q
    rw [wp_X7_one_s]
    unfold ws_X7_one
    refine w7_look hB (by omega) h2 ht ?_
    rw [lk_i ha]
    refine w7_name hu (fun j hj k => absurd k (nonm j hj)) (fun _ => tB (w7_in (fun _ => ⟨fun c => absurd c (by decide), fun _ => ?_⟩) (fun c => absurd c hd)))
    refine loop_0 (fun f i (t : Unit) => wp_X7_one_b46 (wp_X7_whole d) (wp_X7_both d) (wp_X7_compared d) (wp_X7_sum d) (wp_X7_product d) (wp_X7_one d) Q (nI u) s f (nI (nv tape a i)) (nI i) (nI (a + i)) (nI o) (nI n) st) (fun _ _ => True) k () trivial ?_ ?_
    · intro f _ _
      have fin : wp_X7_step1 (0 : Int32) (nI (nv tape a k)) (nI n) st (fun c_steps_97 c_step_97 => Q (1 : Int32) (nI (a + k)) (nI o) c_steps_97 c_step_97) := w7_step1 (by omega) hq
      unfold wp_X7_one_b46
      refine ⟨fun _ => fin, fun c => ?_⟩
      have k4 : k < 4 := by
        rcases Nat.lt_or_ge k 4 with q | q
        · exact q
        · exact absurd ((le_n (a := 4) (by omega) (by omega)).mpr q) c
      refine w7_look hB (by omega) h2 ht (w7_in (fun q => ?_) (fun _ => tB fin))
      rcases Nat.lt_or_ge (a + k) B with q2 | q2
      · rw [lk_i q2] at q
        rcases stopk with r | r
        · omega
        · exact absurd ⟨q2, q⟩ r
      · rw [lk_e q2] at q
        exact absurd (Or.inl (by decide)) q
    · intro f i _ hi _ ih
      obtain ⟨b1, b2⟩ := hb i hi
      obtain ⟨g, hg, eg, eg2⟩ := dg_n hT (show a + i < 60 by omega) b2
      have vi' := vb i (by omega)
      unfold wp_X7_one_b46
      refine ⟨fun c => absurd c (nle (a := 4) (by omega) (by omega)), fun _ => w7_look hB (by omega) h2 ht (w7_in (fun _ => tD (w7_look hB (by omega) h2 ht (fun x2 e2 p ep x3 e3 => ?_))) (fun c => ?_))⟩
      · rw [lk_i b1, eg] at e2
        have e1' : x2 = nI (nv tape a (i + 1)) := by
          rw [e2, nv, eg2, show (10 : Int32) = nI 10 from rfl, show (48 : Int32) = nI 48 from rfl, ml, ad, sb (by omega)]
          congr 1; omega
        rw [e1', ep, e3, i1, i1]
        exact ih () trivial
      · rw [lk_i b1] at c
        exact absurd c b2
theorem rd_name (hB : B ≤ 60) (hu : u < 2) (h2 : s 2 = nI B) (ht : ∀ i, i < 60 → s (392 + i) = tape i) (ha : a < B) {j : Nat} (hj : j < 3) (hc : cNa (nI (3 * u + j)) = tape a) : RD 0 o B u (CUt tape B u (dc + 1) o) (MUt s u (d + 1) o) a a := by
  have nd : tape a < 48 ∨ 57 < tape a := Or.inr (by rw [← hc]; exact (cn_big u hu j hj).1)
  refine RD.tok (a1 := a + 1) (t := -nI (j + 1)) (x := nI 1) (y := tape a) (by omega) (by omega) (tk_nm hj).1 (Or.inr (Or.inl ⟨j, hj, rfl, rfl, hc.symm⟩)) (fun n q Q hn' hq => ?_) (fun n st Q hn' hq => ?_)
  · refine cu_in hB (by omega) ?_
    rw [lk_i ha]
    unfold wp_X0_readUnit_b24
    refine w0_name hu (fun i hi k => ?_) (fun k => absurd hc (k j hj))
    have eij : i = j := cn_inj u hu i hi j hj (k.trans hc.symm)
    subst eij
    refine w0_digit (fun k2 => absurd nd k2) (fun _ => ⟨fun _ => ⟨fun c => absurd c (nle (b := 0) (by omega) (by omega)), fun _ p ep => ?_⟩, fun c => absurd rfl c⟩)
    rw [ep, i1]
    exact w3_add (by omega) hq
  · show wp_X7_one (d + 1) (nI a) (nI o) (nI n) (nI u) s st Q
    rw [wp_X7_one_s]
    unfold ws_X7_one
    refine w7_look hB (by omega) h2 ht ?_
    rw [lk_i ha]
    refine w7_name hu (fun i hi k => tD (fun p ep => ?_)) (fun k => absurd hc (k j hj))
    rw [ep, i1]
    exact w7_step1 (by omega) hq
/-- not: the part behind what it works on -/
theorem RD.not (hB : B ≤ 60) (h : RD 0 (o + 1) B u CL1 ML1 (a + 1) (a + 1)) : RD 0 o B u (fun p n q Q => CL1 (p + 1) n q (fun p f n' q' => wp_X3_add (-(33 : Int32)) n' q' (fun n'' q'' => Q p f n'' q''))) (fun p n st Q => ML1 (p + 1) n st (fun r p o' n' st' => (¬ r = 0 → ∀ o'' : Int32, o'' = o' - 1 → wp_X7_step1 2 0 n' st' (fun n'' st'' => Q 1 p o'' n'' st'')) ∧ (r = 0 → Q 0 p o' n' st'))) a (a + 1) := by
  obtain ⟨ok, a1, m1, T1, A1, D1, l1, l2, g1, c1, d1⟩ := h
  refine ⟨ok, a1, m1 + 1, cat m1 T1 (fun _ => -nI 33), cat m1 A1 (fun _ => nI 2), cat m1 D1 (fun _ => 0), l1, l2, fun k => ?_, fun n q Q hn y0 y1 => ?_, fun n st Q hn y0 y1 => ?_⟩
  · obtain ⟨s1, ⟨s2, s2'⟩, s3⟩ := g1 k
    have t1 : ¬ (-3 : Int32) ≤ -nI 33 := by decide
    have t3 : -nI 33 = (-33 : Int32) := rfl
    have et : ∀ i, cat m1 T1 (fun _ => -nI 33) (m1 + i) = -nI 33 := fun i => cat_r i
    have dm : dp (cat m1 T1 (fun _ => -nI 33)) m1 = dp T1 m1 := dp_cg m1 (fun j hj => cat_l hj)
    refine ⟨by omega, ⟨fun i hi kk => ?_, ?_⟩, fun i hi => ?_⟩
    · rcases Nat.lt_or_ge i m1 with cc | cc
      · rw [cat_l cc] at kk ⊢
        rw [dp_cg (g := T1) i (fun j hj => cat_l (show j < m1 by omega))]
        exact s2 i cc kk
      · have ei : i = m1 + 0 := by omega
        rw [ei, et 0]
        rw [Nat.add_zero, dm]
        exact ⟨fun _ => by omega, fun r => absurd t3 r⟩
    · have e0 := et 0
      rw [Nat.add_zero] at e0
      rw [dp, dm, e0, if_neg t1, if_pos t3]
      omega
    · rcases Nat.lt_or_ge i m1 with cc | cc
      · rw [cat_l cc, cat_l cc, cat_l cc]; exact s3 i cc
      · have ei : i = m1 + 0 := by omega
        rw [ei, et 0, cat_r, cat_r]
        exact Or.inr (Or.inr (Or.inl ⟨rfl, rfl⟩))
  · show CL1 (nI a + 1) (nI n) q _
    rw [i1]
    refine c1 n q _ (by omega) (fun k q' e1 e2 => ?_) (fun k n' q' hn' => w3_add_any hn' (fun n'' q'' h'' => y1 k n'' q'' h''))
    obtain ⟨s1, s2, s3⟩ := g1 k
    refine w3_add (by omega) (y0 k _ (fun i hi => by rw [un (by omega)]; exact e1 i hi) (fun i hi => ?_))
    rcases Nat.lt_or_ge i m1 with cc | cc
    · rw [cat_l cc, un (by omega)]; exact e2 i cc
    · have ei : i = m1 + 0 := by omega
      rw [ei, cat_r, Nat.add_zero, us]; rfl
  · show ML1 (nI a + 1) (nI n) st _
    rw [i1]
    refine d1 n st _ (by omega) (fun k st' e1 e2 => tC (fun o'' eo => ?_)) (fun k o' n' st' => tA (y1 k o' n' st'))
    obtain ⟨s1, s2, s3⟩ := g1 k
    rw [eo, nI_pred]
    refine w7_step1 (by omega) (y0 k _ (fun i hi => by rw [un (by omega), un (by omega)]; exact e1 i hi) (fun i hi => ?_))
    rcases Nat.lt_or_ge i m1 with cc | cc
    · rw [cat_l cc, cat_l cc, un (by omega), un (by omega), un (by omega), un (by omega)]; exact e2 i cc
    · have ei : i = m1 + 0 := by omega
      rw [ei, cat_r, cat_r]
      show upd (upd st' (2 * (n + m1)) 2) (2 * (n + m1) + 1) 0 (2 * (n + m1)) = nI 2 ∧ upd (upd st' (2 * (n + m1)) 2) (2 * (n + m1) + 1) 0 (2 * (n + m1) + 1) = 0
      exact ⟨by rw [un (by omega), us]; rfl, us⟩
/-- what stands in brackets -/
theorem RD.par (hB : B ≤ 60) (h2 : s 2 = nI B) (ht : ∀ i, i < 60 → s (392 + i) = tape i) (h : RD 0 (o + 1) B u CL1 ML1 (a + 1) (a + 1)) : RD 0 o B u (fun p n q Q => CL1 (p + 1) n q (fun p f n' q' => wp_X0_readClosing (nI B) p f tape (fun p' f' => Q p' f' n' q'))) (fun p n st Q => ML1 (p + 1) n st (fun r p o' n' st' => (r = 0 → Q 0 p o' n' st') ∧ (¬ r = 0 → wp_X7_look p s (fun r2 => (r2 = (41 : Int32) → ∀ p' : Int32, p' = p + 1 → ∀ o'' : Int32, o'' = o' - 1 → Q 1 p' o'' n' st') ∧ (¬ r2 = (41 : Int32) → Q 0 p o' n' st'))))) a (a + 1) := by
  obtain ⟨ok, a1, m1, T1, A1, D1, l1, l2, g1, c1, d1⟩ := h
  by_cases k : ok ∧ a1 < B ∧ tape a1 = 41
  · obtain ⟨k1, k2, k3⟩ := k
    refine ⟨ok, a1 + 1, m1, T1, A1, D1, by omega, by omega, fun k => ?_, fun n q Q hn y0 y1 => ?_, fun n st Q hn y0 y1 => ?_⟩
    · obtain ⟨s1, s2, s3⟩ := g1 k
      exact ⟨by omega, s2, s3⟩
    · show CL1 (nI a + 1) (nI n) q _
      rw [i1]
      refine c1 n q _ (by omega) (fun k q' e1 e2 => ?_) (fun k => absurd k1 k)
      unfold wp_X0_readClosing
      rw [cl (by omega)]
      refine ⟨fun c => absurd rfl c, fun _ => ⟨fun c => absurd c (nle k2 (by omega)), fun _ => ⟨(vi (by omega) (by omega)), fun _ p ep => ?_, fun c => absurd k3 c⟩⟩⟩
      rw [ep, i1]; exact y0 k q' e1 e2
    · show ML1 (nI a + 1) (nI n) st _
      rw [i1]
      refine d1 n st _ (by omega) (fun k st' e1 e2 => tD (w7_look hB (by omega) h2 ht ?_)) (fun k => absurd k1 k)
      rw [lk_i k2]
      refine ⟨fun _ p ep o'' eo => ?_, fun c => absurd k3 c⟩
      rw [ep, i1, eo, nI_pred]; exact y0 k st' e1 e2
  · refine ⟨False, a1, 0, T1, A1, D1, l1, l2, fun c => c.elim, fun n q Q hn _ y1 => ?_, fun n st Q hn _ y1 => ?_⟩
    · show CL1 (nI a + 1) (nI n) q _
      rw [i1]
      refine c1 n q _ (by omega) (fun k1 q' e1 e2 => ?_) (fun _ n' q' hn' => ?_)
      · obtain ⟨s1, s2, s3⟩ := g1 k1
        have fin := y1 (fun c => c) (n + m1) q' (by omega)
        unfold wp_X0_readClosing
        refine ⟨fun c => absurd rfl c, fun _ => ⟨fun _ => fin, fun c => ?_⟩⟩
        have hlt : a1 < B := by
          rcases Nat.lt_or_ge a1 B with q | q
          · exact q
          · exact absurd ((le_n (by omega) (by omega)).mpr q) c
        rw [cl (by omega)]
        exact ⟨(vi (by omega) (by omega)), fun c2 => absurd ⟨k1, hlt, c2⟩ k, fun _ => fin⟩
      · unfold wp_X0_readClosing
        exact ⟨fun _ => y1 (fun c => c) n' q' hn', fun c => absurd c (by decide)⟩
    · show ML1 (nI a + 1) (nI n) st _
      rw [i1]
      refine d1 n st _ (by omega) (fun k1 st' e1 e2 => tD (w7_look hB (by omega) h2 ht ⟨fun c => ?_, fun _ => y1 (fun c => c) _ _ _⟩)) (fun _ o' n' st' => tB (y1 (fun c => c) _ _ _))
      exfalso
      rcases Nat.lt_or_ge a1 B with q | q
      · rw [lk_i q] at c
        exact k ⟨k1, q, c⟩
      · rw [lk_e q] at c
        exact absurd c (by decide)
theorem rd_unit (hB : B ≤ 60) (hu : u < 2) (ho : o ≤ 5) (hT : ∀ i, i < 60 → Bd 255 (tape i)) (h2 : s 2 = nI B) (ht : ∀ i, i < 60 → s (392 + i) = tape i) (hU : o < 5 → ∀ a, a ≤ B → RD 0 (o + 1) B u (CUt tape B u dc (o + 1)) (MUt s u d (o + 1)) a a) (hC : o < 5 → ∀ a, a ≤ B → RD 0 (o + 1) B u (CCt tape B u dc 0 (o + 1)) (M0t s u d (o + 1)) a a) : ∀ a, a ≤ B → RD 0 o B u (CUt tape B u (dc + 1) o) (MUt s u (d + 1) o) a a := by
  intro a ha
  by_cases hd : a < B ∧ ¬ (tape a < 48 ∨ 57 < tape a)
  · exact rd_number hB hu hT h2 ht hd.1 hd.2
  by_cases hn : ∃ j, j < 3 ∧ cNa (nI (3 * u + j)) = lk tape B a
  · obtain ⟨j, hj, hc⟩ := hn
    rcases Nat.lt_or_ge a B with q | q
    · rw [lk_i q] at hc
      exact rd_name hB hu h2 ht q hj hc
    · rw [lk_e q] at hc
      exact absurd hc (cn_big u hu j hj).2.1
  have nd : NDN u (lk tape B a) := by
    refine ⟨?_, fun j hj k => hn ⟨j, hj, k⟩⟩
    rcases Nat.lt_or_ge a B with q | q
    · rw [lk_i q]
      by_cases k : tape a < 48 ∨ 57 < tape a
      · exact k
      · exact absurd ⟨q, k⟩ hd
    · rw [lk_e q]; exact Or.inl (by decide)
  -- the model's way to what is no name and no digit
  have mr : ∀ (n : Nat) (st : V) (Q : Int32 → Int32 → Int32 → Int32 → V → Prop), (((¬ lk tape B a = (33 : Int32)) → ((¬ lk tape B a = (40 : Int32)) → Q (0 : Int32) (nI a) (nI o) (nI n) st) ∧ ((lk tape B a = (40 : Int32)) → wp_X7_opens (nI a) (nI o) (fun r_149 c_at_149 c_open_149 => ((r_149 = 0) → Q (0 : Int32) c_at_149 c_open_149 (nI n) st) ∧ ((¬ r_149 = 0) → wp_X7_whole d c_at_149 c_open_149 (nI n) (nI u) s st (fun r_156 c_at_156 c_open_156 c_steps_156 c_step_156 => ((r_156 = 0) → Q (0 : Int32) c_at_156 c_open_156 c_steps_156 c_step_156) ∧ ((¬ r_156 = 0) → wp_X7_look c_at_156 s (fun r_163 => ((r_163 = (41 : Int32)) → ∀ c_at_180 : Int32, c_at_180 = (c_at_156 + (1 : Int32)) → ∀ c_open_190 : Int32, c_open_190 = (c_open_156 - (1 : Int32)) → Q (1 : Int32) c_at_180 c_open_190 c_steps_156 c_step_156) ∧ ((¬ r_163 = (41 : Int32)) → Q (0 : Int32) c_at_156 c_open_156 c_steps_156 c_step_156)))))))) ∧ ((lk tape B a = (33 : Int32)) → wp_X7_opens (nI a) (nI o) (fun r_109 c_at_109 c_open_109 => ((r_109 = 0) → Q (0 : Int32) c_at_109 c_open_109 (nI n) st) ∧ ((¬ r_109 = 0) → wp_X7_one d c_at_109 c_open_109 (nI n) (nI u) s st (fun r_116 c_at_116 c_open_116 c_steps_116 c_step_116 => ((¬ r_116 = 0) → ∀ c_open_131 : Int32, c_open_131 = (c_open_116 - (1 : Int32)) → wp_X7_step1 (2 : Int32) (0 : Int32) c_steps_116 c_step_116 (fun c_steps_137 c_step_137 => Q (1 : Int32) c_at_116 c_open_131 c_steps_137 c_step_137)) ∧ ((r_116 = 0) → Q (0 : Int32) c_at_116 c_open_116 c_steps_116 c_step_116)))))) → MUt s u (d + 1) o (nI a) (nI n) st Q := by
    intro n st Q q
    show wp_X7_one (d + 1) (nI a) (nI o) (nI n) (nI u) s st Q
    rw [wp_X7_one_s]
    unfold ws_X7_one
    exact w7_look hB (by omega) h2 ht (w7_name hu (fun j hj k => absurd k (nd.2 j hj)) (fun _ => tB (w7_in (fun k => absurd nd.1 k) (fun _ => tB q))))
  have op5 : ∀ R : Int32 → Int32 → Int32 → Prop, o = 5 → R 0 (nI a) (nI o) → wp_X7_opens (nI a) (nI o) R := by
    intro R e r
    unfold wp_X7_opens
    exact ⟨fun c => absurd (by rw [e]; rfl) c, fun _ => r⟩
  have opn : ∀ R : Int32 → Int32 → Int32 → Prop, o < 5 → R 1 (nI a + 1) (nI (o + 1)) → wp_X7_opens (nI a) (nI o) R := by
    intro R e r
    unfold wp_X7_opens
    refine ⟨fun _ y ey z ez => ?_, fun c => ?_⟩
    · rw [ey, ez, i1 o]; exact r
    · have := (eq_n (b := 5) (by omega) (by omega)).mp c; omega
  have b111 : ∀ (n : Nat) (q : V) (Q : Int32 → Int32 → Int32 → V → Prop), (¬ lk tape B a = (40 : Int32) ∨ o = 5) → Q (nI a) 1 (nI n) q → wp_X0_readUnit_b111 (wp_X0_readChain dc) (wp_X0_readUnit dc) Q (nI B) (nI u) tape (nI o) (lk tape B a) (nI a) 0 (nI n) q := by
    intro n q Q h r
    unfold wp_X0_readUnit_b111
    refine ⟨fun _ => r, fun c => ⟨fun _ => r, fun c2 => ?_⟩⟩
    rcases h with h | h
    · exact absurd c h
    · exact absurd (by rw [h]; decide) c2
  by_cases h33 : lk tape B a = 33
  · have hlt : a < B := by
      rcases Nat.lt_or_ge a B with q | q
      · exact q
      · rw [lk_e q] at h33; exact absurd h33 (by decide)
    have n40 : ¬ lk tape B a = (40 : Int32) := by rw [h33]; decide
    rcases Nat.lt_or_ge o 5 with o5 | o5
    · refine RD.mono (lo := a + 1) (RD.map (RD.not hB (hU o5 (a + 1) (by omega))) (fun n q Q hc => cu_in hB ha (cu_rest hu nd ⟨fun c => absurd h33 c, fun _ => ⟨fun c => absurd c (nle (a := 5) (by omega) (by omega)), fun _ p ep => ?_⟩⟩)) (fun n st Q hc => mr n st Q ⟨fun c => absurd h33 c, fun _ => opn _ o5 (tD hc)⟩)) (by omega)
      rw [ep, h33, i1 o]; exact hc
    · have e5 : o = 5 := by omega
      refine RD.fail (a1 := a) (Nat.le_refl a) ha hB ha (fun n q Q hn hq => cu_in hB ha (cu_rest hu nd ⟨fun c => absurd h33 c, fun _ => ⟨fun _ => b111 n q Q (Or.inl n40) (hq n q (by omega)), fun c => absurd (by rw [e5]; decide) c⟩⟩)) (fun n st Q hn hq => mr n st Q ⟨fun c => absurd h33 c, fun _ => op5 _ e5 (tB (hq _ _ _))⟩)
  by_cases h40 : lk tape B a = 40
  · have hlt : a < B := by
      rcases Nat.lt_or_ge a B with q | q
      · exact q
      · rw [lk_e q] at h40; exact absurd h40 (by decide)
    rcases Nat.lt_or_ge o 5 with o5 | o5
    · refine RD.mono (lo := a + 1) (RD.map (RD.par hB h2 ht (hC o5 (a + 1) (by omega))) (fun n q Q hc => cu_in hB ha (cu_rest hu nd ⟨fun _ => ?_, fun c => absurd c h33⟩)) (fun n st Q hc => mr n st Q ⟨fun _ => ⟨fun c => absurd h40 c, fun _ => opn _ o5 (tD hc)⟩, fun c => absurd c h33⟩)) (by omega)
      unfold wp_X0_readUnit_b111
      refine ⟨fun c => absurd h40 c, fun _ => ⟨fun c => absurd c (nle (a := 5) (by omega) (by omega)), fun _ p ep => ?_⟩⟩
      rw [ep, i1 o]; exact hc
    · have e5 : o = 5 := by omega
      exact RD.fail (a1 := a) (Nat.le_refl a) ha hB ha (fun n q Q hn hq => cu_in hB ha (cu_rest hu nd ⟨fun _ => b111 n q Q (Or.inr e5) (hq n q (by omega)), fun c => absurd c h33⟩)) (fun n st Q hn hq => mr n st Q ⟨fun _ => ⟨fun c => absurd h40 c, fun _ => op5 _ e5 (tB (hq _ _ _))⟩, fun c => absurd c h33⟩)
  exact RD.fail (a1 := a) (Nat.le_refl a) ha hB ha (fun n q Q hn hq => cu_in hB ha (cu_rest hu nd ⟨fun _ => b111 n q Q (Or.inl h40) (hq n q (by omega)), fun c => absurd c h33⟩)) (fun n st Q hn hq => mr n st Q ⟨fun _ => ⟨fun _ => hq _ _ _, fun c => absurd c h40⟩, fun c => absurd c h33⟩)
theorem rd_chain0 (hB : B ≤ 60) (hT : ∀ i, i < 60 → Bd 255 (tape i)) (h2 : s 2 = nI B) (ht : ∀ i, i < 60 → s (392 + i) = tape i) (h : ∀ a, a ≤ B → RD 0 o B u (CUt tape B u dc o) (MUt s u d o) a a) : ∀ a, a ≤ B → RD 0 o B u (CCt tape B u (dc + 1 + 1 + 1 + 1 + 1 + 1) 0 o) (M0t s u (d + 1 + 1 + 1 + 1 + 1) o) a a :=
  lv_whole hB hT h2 ht (lv_both hB hT h2 ht (lv_compared hB hT h2 ht (lv_sum hB hT h2 ht (lv_product hB hT h2 ht (fun a ha => chain5 (h a ha))))))
theorem rd_all (hB : B ≤ 60) (hu : u < 2) (hT : ∀ i, i < 60 → Bd 255 (tape i)) (h2 : s 2 = nI B) (ht : ∀ i, i < 60 → s (392 + i) = tape i) : ∀ r o, o + r = 5 → ∀ dc d a, a ≤ B → RD 0 o B u (CUt tape B u (dc + 7 * r + 1) o) (MUt s u (d + 6 * r + 1) o) a a := by
  intro r
  induction r with
  | zero => intro o ho dc d; exact rd_unit hB hu (by omega) hT h2 ht (fun c => by omega) (fun c => by omega)
  | succ r ih =>
    intro o ho dc d
    refine rd_unit hB hu (by omega) hT h2 ht (fun _ a ha => ?_) (fun _ a ha => ?_)
    · have g := ih (o + 1) (by omega) (dc + 6) (d + 5) a ha
      rw [show dc + 6 + 7 * r + 1 = dc + 7 * (r + 1) by omega, show d + 5 + 6 * r + 1 = d + 6 * (r + 1) by omega] at g
      exact g
    · have g := rd_chain0 hB hT h2 ht (ih (o + 1) (by omega) dc d) a ha
      rw [show dc + 7 * r + 1 + 1 + 1 + 1 + 1 + 1 + 1 = dc + 7 * (r + 1) by omega, show d + 6 * r + 1 + 1 + 1 + 1 + 1 + 1 = d + 6 * (r + 1) by omega] at g
      exact g
theorem rd_top (hB : B ≤ 60) (hu : u < 2) (hT : ∀ i, i < 60 → Bd 255 (tape i)) (h2 : s 2 = nI B) (ht : ∀ i, i < 60 → s (392 + i) = tape i) : RD 0 0 B u (CCt tape B u 64 0 0) (M0t s u 64 0) 0 0 := by
  have g := rd_chain0 hB hT h2 ht (rd_all hB hu hT h2 ht 5 0 rfl 22 28) 0 (Nat.zero_le B)
  exact g
end UNIT
