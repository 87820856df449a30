/-! texts: the class's reader and the model's, one sentence by one -/
def lvf (c : Int32) : Int32 := if c = 37 then 4 else if c = 38 then 1 else if c = 42 then 4 else if c = 43 then 3 else if c = 45 then 3 else if c = 47 then 4 else if c = 60 then 2 else if c = 61 then 2 else if c = 62 then 2 else if c = 124 then 0 else -1
theorem w0_levelOf {c : Int32} {Q : Int32 → Prop} (h : Q (lvf c)) : wp_X0_levelOf c Q := by
  unfold wp_X0_levelOf
  refine ⟨fun k => by subst k; exact h, fun k => by subst k; exact h, fun k => by subst k; exact h, fun k => by subst k; exact h, fun k => by subst k; exact h, fun k => by subst k; exact h, fun k => by subst k; exact h, fun k => by subst k; exact h, fun k => by subst k; exact h, fun k => by subst k; exact h, fun k1 k2 k3 k4 k5 k6 k7 k8 k9 k10 => ?_⟩
  unfold lvf at h
  rw [if_neg k1, if_neg k2, if_neg k3, if_neg k4, if_neg k5, if_neg k6, if_neg k7, if_neg k8, if_neg k9, if_neg k10] at h
  exact h
theorem lv_cases (c : Int32) : (c = 37 ∧ lvf c = 4) ∨ (c = 38 ∧ lvf c = 1) ∨ (c = 42 ∧ lvf c = 4) ∨ (c = 43 ∧ lvf c = 3) ∨ (c = 45 ∧ lvf c = 3) ∨ (c = 47 ∧ lvf c = 4) ∨ (c = 60 ∧ lvf c = 2) ∨ (c = 61 ∧ lvf c = 2) ∨ (c = 62 ∧ lvf c = 2) ∨ (c = 124 ∧ lvf c = 0) ∨ lvf c = -1 := by
  by_cases k1 : c = 37
  · subst k1; exact Or.inl ⟨rfl, rfl⟩
  refine Or.inr ?_
  by_cases k2 : c = 38
  · subst k2; exact Or.inl ⟨rfl, rfl⟩
  refine Or.inr ?_
  by_cases k3 : c = 42
  · subst k3; exact Or.inl ⟨rfl, rfl⟩
  refine Or.inr ?_
  by_cases k4 : c = 43
  · subst k4; exact Or.inl ⟨rfl, rfl⟩
  refine Or.inr ?_
  by_cases k5 : c = 45
  · subst k5; exact Or.inl ⟨rfl, rfl⟩
  refine Or.inr ?_
  by_cases k6 : c = 47
  · subst k6; exact Or.inl ⟨rfl, rfl⟩
  refine Or.inr ?_
  by_cases k7 : c = 60
  · subst k7; exact Or.inl ⟨rfl, rfl⟩
  refine Or.inr ?_
  by_cases k8 : c = 61
  · subst k8; exact Or.inl ⟨rfl, rfl⟩
  refine Or.inr ?_
  by_cases k9 : c = 62
  · subst k9; exact Or.inl ⟨rfl, rfl⟩
  refine Or.inr ?_
  by_cases k10 : c = 124
  · subst k10; exact Or.inl ⟨rfl, rfl⟩
  refine Or.inr ?_
  unfold lvf
  rw [if_neg k1, if_neg k2, if_neg k3, if_neg k4, if_neg k5, if_neg k6, if_neg k7, if_neg k8, if_neg k9, if_neg k10]
theorem nm1 {l : Nat} (h : l < 2147483648) : ¬ (-1 : Int32) = nI l := by
  intro k
  have k := (iq _ _).mp k
  rw [ti h] at k
  have : (-1 : Int32).toInt = -1 := rfl
  omega
theorem lv_op {c : Int32} {g l : Nat} (hg : g ≤ 255) (hc : c = nI g) (hl : l < 5) (h : lvf c = nI l) : isOp g := by
  have eg : ∀ n : Nat, n < 1000 → c = nI n → g = n := fun n hn k => by rw [hc] at k; exact (eq_n (by omega) (by omega)).mp k
  unfold isOp
  rcases lv_cases c with ⟨k, -⟩ | ⟨k, -⟩ | ⟨k, -⟩ | ⟨k, -⟩ | ⟨k, -⟩ | ⟨k, -⟩ | ⟨k, -⟩ | ⟨k, -⟩ | ⟨k, -⟩ | ⟨k, -⟩ | k
  · have := eg 37 (by omega) k; omega
  · have := eg 38 (by omega) k; omega
  · have := eg 42 (by omega) k; omega
  · have := eg 43 (by omega) k; omega
  · have := eg 45 (by omega) k; omega
  · have := eg 47 (by omega) k; omega
  · have := eg 60 (by omega) k; omega
  · have := eg 61 (by omega) k; omega
  · have := eg 62 (by omega) k; omega
  · have := eg 124 (by omega) k; omega
  · rw [k] at h; exact absurd h (nm1 (by omega))
theorem lv_0 {c : Int32} (h : lvf c = nI 0) : c = 124 := by
  rcases lv_cases c with ⟨k, e⟩ | ⟨k, e⟩ | ⟨k, e⟩ | ⟨k, e⟩ | ⟨k, e⟩ | ⟨k, e⟩ | ⟨k, e⟩ | ⟨k, e⟩ | ⟨k, e⟩ | ⟨k, e⟩ | e
  all_goals first | exact k | (rw [e] at h; exact absurd h (by decide))
theorem lv_1 {c : Int32} (h : lvf c = nI 1) : c = 38 := by
  rcases lv_cases c with ⟨k, e⟩ | ⟨k, e⟩ | ⟨k, e⟩ | ⟨k, e⟩ | ⟨k, e⟩ | ⟨k, e⟩ | ⟨k, e⟩ | ⟨k, e⟩ | ⟨k, e⟩ | ⟨k, e⟩ | e
  all_goals first | exact k | (rw [e] at h; exact absurd h (by decide))
theorem lv_2 {c : Int32} (h : lvf c = nI 2) : c = 60 ∨ c = 61 ∨ c = 62 := by
  rcases lv_cases c with ⟨k, e⟩ | ⟨k, e⟩ | ⟨k, e⟩ | ⟨k, e⟩ | ⟨k, e⟩ | ⟨k, e⟩ | ⟨k, e⟩ | ⟨k, e⟩ | ⟨k, e⟩ | ⟨k, e⟩ | e
  all_goals first | exact Or.inl k | exact Or.inr (Or.inl k) | exact Or.inr (Or.inr k) | (rw [e] at h; exact absurd h (by decide))
theorem lv_3 {c : Int32} (h : lvf c = nI 3) : c = 43 ∨ c = 45 := by
  rcases lv_cases c with ⟨k, e⟩ | ⟨k, e⟩ | ⟨k, e⟩ | ⟨k, e⟩ | ⟨k, e⟩ | ⟨k, e⟩ | ⟨k, e⟩ | ⟨k, e⟩ | ⟨k, e⟩ | ⟨k, e⟩ | e
  all_goals first | exact Or.inl k | exact Or.inr k | (rw [e] at h; exact absurd h (by decide))
theorem lv_4 {c : Int32} (h : lvf c = nI 4) : c = 42 ∨ c = 47 ∨ c = 37 := by
  rcases lv_cases c with ⟨k, e⟩ | ⟨k, e⟩ | ⟨k, e⟩ | ⟨k, e⟩ | ⟨k, e⟩ | ⟨k, e⟩ | ⟨k, e⟩ | ⟨k, e⟩ | ⟨k, e⟩ | ⟨k, e⟩ | e
  all_goals first | exact Or.inl k | exact Or.inr (Or.inl k) | exact Or.inr (Or.inr k) | (rw [e] at h; exact absurd h (by decide))
abbrev CLt : Type := Int32 → Int32 → V → (Int32 → Int32 → Int32 → V → Prop) → Prop
abbrev MLt : Type := Int32 → Int32 → V → (Int32 → Int32 → Int32 → Int32 → V → Prop) → Prop
def WX (b : Int) (T : V) (m : Nat) : Prop := (∀ i, i < m → ¬ (-3 : Int32) ≤ T i → (T i = -33 → 1 ≤ b + dp T i) ∧ (¬ T i = -33 → 2 ≤ b + dp T i)) ∧ b + dp T m = 1
/-- both readers from place a on: they fail at one place, or read one and the same, to one place -/
def RD (b : Int) (o B u : Nat) (CL : CLt) (ML : MLt) (a lo : Nat) : Prop := ∃ (ok : Prop) (a' m : Nat) (T A D : V), lo ≤ a' ∧ a' ≤ B ∧ (ok → a + m ≤ a' ∧ WX b T m ∧ ∀ i, i < m → TK u (T i) (A i) (D i)) ∧ (∀ (n : Nat) (q : V) (Q : Int32 → Int32 → Int32 → V → Prop), n ≤ a → (ok → ∀ q' : V, (∀ i, i < n → q' i = q i) → (∀ i, i < m → q' (n + i) = T i) → Q (nI a') 0 (nI (n + m)) q') → (¬ ok → ∀ (n' : Nat) (q' : V), n' ≤ 60 → Q (nI a') 1 (nI n') q') → CL (nI a) (nI n) q Q) ∧ (∀ (n : Nat) (st : V) (Q : Int32 → Int32 → Int32 → Int32 → V → Prop), n ≤ a → (ok → ∀ st' : V, (∀ i, i < 2 * n → st' i = st i) → (∀ i, i < m → st' (2 * (n + i)) = A i ∧ st' (2 * (n + i) + 1) = D i) → Q 1 (nI a') (nI o) (nI (n + m)) st') → (¬ ok → ∀ (o' n' : Int32) (st' : V), Q 0 (nI a') o' n' st') → ML (nI a) (nI n) st Q)
def cat (m : Nat) (f g : V) : V := fun i => if i < m then f i else g (i - m)
theorem cat_l {m : Nat} {f g : V} {i : Nat} (h : i < m) : cat m f g i = f i := if_pos h
theorem cat_r {m : Nat} {f g : V} (i : Nat) : cat m f g (m + i) = g i := by
  unfold cat
  rw [if_neg (by omega), show m + i - m = i by omega]
theorem dp_cg {f g : V} : ∀ i, (∀ j, j < i → f j = g j) → dp f i = dp g i
  | 0, _ => rfl
  | i + 1, h => by rw [dp, dp, dp_cg i (fun j hj => h j (by omega)), h i (by omega)]
theorem dp_cat {m : Nat} {f g : V} : ∀ i, dp (cat m f g) (m + i) = dp f m + dp g i
  | 0 => by
    rw [Nat.add_zero, dp_cg m (fun j hj => cat_l hj)]
    show dp f m = dp f m + 0
    omega
  | i + 1 => by
    have ih := dp_cat (m := m) (f := f) (g := g) i
    rw [← Nat.add_assoc, dp, dp, ih, cat_r]
    omega
theorem WX_cat {b : Int} {m1 m2 : Nat} {T1 T2 : V} (h1 : WX b T1 m1) (h2 : WX 1 T2 m2) : WX b (cat m1 T1 T2) (m1 + m2) := by
  obtain ⟨a1, e1⟩ := h1
  obtain ⟨a2, e2⟩ := h2
  refine ⟨fun i hi k => ?_, by rw [dp_cat]; omega⟩
  rcases Nat.lt_or_ge i m1 with c | c
  · rw [cat_l c] at k ⊢
    rw [dp_cg i (fun j hj => cat_l (show j < m1 by omega))]
    exact a1 i c k
  · obtain ⟨j, rfl⟩ : ∃ j, i = m1 + j := ⟨i - m1, by omega⟩
    rw [cat_r] at k ⊢
    rw [dp_cat]
    obtain ⟨g1, g2⟩ := a2 j (by omega) k
    refine ⟨fun q => ?_, fun q => ?_⟩
    · have := g1 q; omega
    · have := g2 q; omega
section RD
variable {b : Int} {o B u a lo : Nat} {CL CL1 CL2 : CLt} {ML ML1 ML2 : MLt}
theorem RD.mono {lo' : Nat} (h : RD b o B u CL ML a lo) (hl : lo' ≤ lo) : RD b o B u CL ML a lo' := by
  obtain ⟨ok, a', m, T, A, D, h1, h2, h3, h4, h5⟩ := h
  exact ⟨ok, a', m, T, A, D, by omega, h2, h3, h4, h5⟩
theorem RD.map (h : RD b o B u CL1 ML1 a lo) (hC : ∀ (n : Nat) (q : V) (Q : Int32 → Int32 → Int32 → V → Prop), CL1 (nI a) (nI n) q Q → CL (nI a) (nI n) q Q) (hM : ∀ (n : Nat) (st : V) (Q : Int32 → Int32 → Int32 → Int32 → V → Prop), ML1 (nI a) (nI n) st Q → ML (nI a) (nI n) st Q) : RD b o B u CL ML a lo := by
  obtain ⟨ok, a', m, T, A, D, h1, h2, h3, h4, h5⟩ := h
  exact ⟨ok, a', m, T, A, D, h1, h2, h3, fun n q Q k1 k2 k3 => hC n q Q (h4 n q Q k1 k2 k3), fun n st Q k1 k2 k3 => hM n st Q (h5 n st Q k1 k2 k3)⟩
theorem RD.seq (h1 : RD b o B u CL1 ML1 a lo) (h2 : ∀ a1, lo ≤ a1 → a1 ≤ B → RD 1 o B u CL2 ML2 a1 a1) (KC : (Int32 → Int32 → Int32 → V → Prop) → Int32 → Int32 → Int32 → V → Prop) (KM : (Int32 → Int32 → Int32 → Int32 → V → Prop) → Int32 → Int32 → Int32 → Int32 → V → Prop) (hC : ∀ (n : Nat) (q : V) (Q : Int32 → Int32 → Int32 → V → Prop), CL1 (nI a) (nI n) q (KC Q) → CL (nI a) (nI n) q Q) (kc0 : ∀ Q p n q, CL2 p n q Q → KC Q p 0 n q) (kc1 : ∀ (Q : Int32 → Int32 → Int32 → V → Prop) p n q, Q p 1 n q → KC Q p 1 n q) (hM : ∀ (n : Nat) (st : V) (Q : Int32 → Int32 → Int32 → Int32 → V → Prop), ML1 (nI a) (nI n) st (KM Q) → ML (nI a) (nI n) st Q) (km1 : ∀ Q p n st, ML2 p n st Q → KM Q 1 p (nI o) n st) (km0 : ∀ (Q : Int32 → Int32 → Int32 → Int32 → V → Prop) p o' n st, Q 0 p o' n st → KM Q 0 p o' n st) : RD b o B u CL ML a lo := by
  obtain ⟨ok1, a1, m1, T1, A1, D1, l1, l2, g1, c1, d1⟩ := h1
  by_cases k : ok1
  · obtain ⟨ok2, a2, m2, T2, A2, D2, l3, l4, g2, c2, d2⟩ := h2 a1 l1 l2
    obtain ⟨s1, s2, s3⟩ := g1 k
    refine ⟨ok2, a2, m1 + m2, cat m1 T1 T2, cat m1 A1 A2, cat m1 D1 D2, by omega, l4, fun k2 => ?_, fun n q Q hn y0 y1 => ?_, fun n st Q hn y0 y1 => ?_⟩
    · obtain ⟨t1, t2, t3⟩ := g2 k2
      refine ⟨by omega, WX_cat s2 t2, fun i hi => ?_⟩
      rcases Nat.lt_or_ge i m1 with c | c
      · rw [cat_l c, cat_l c, cat_l c]; exact s3 i c
      · obtain ⟨j, rfl⟩ : ∃ j, i = m1 + j := ⟨i - m1, by omega⟩
        rw [cat_r, cat_r, cat_r]; exact t3 j (by omega)
    · refine hC n q Q (c1 n q _ hn (fun _ q' e1 e2 => kc0 _ _ _ _ (c2 (n + m1) q' Q (by omega) (fun k2 q'' e3 e4 => ?_) (fun k2 n' q'' hn' => y1 k2 n' q'' hn'))) (fun k' => absurd k k'))
      have := y0 k2 q'' (fun i hi => by rw [e3 i (by omega), e1 i hi]) (fun i hi => ?_)
      · rw [← Nat.add_assoc] at this; exact this
      · rcases Nat.lt_or_ge i m1 with c | c
        · rw [cat_l c, e3 _ (by omega), e2 i c]
        · obtain ⟨j, rfl⟩ : ∃ j, i = m1 + j := ⟨i - m1, by omega⟩
          rw [cat_r, ← Nat.add_assoc]; exact e4 j (by omega)
    · refine hM n st Q (d1 n st _ hn (fun _ q' e1 e2 => km1 _ _ _ _ (d2 (n + m1) q' Q (by omega) (fun k2 q'' e3 e4 => ?_) (fun k2 o' n' q'' => y1 k2 o' n' q''))) (fun k' => absurd k k'))
      have := y0 k2 q'' (fun i hi => by rw [e3 i (by omega), e1 i hi]) (fun i hi => ?_)
      · rw [← Nat.add_assoc] at this; exact this
      · rcases Nat.lt_or_ge i m1 with c | c
        · rw [cat_l c, cat_l c, e3 _ (by omega), e3 _ (by omega)]; exact e2 i c
        · obtain ⟨j, rfl⟩ : ∃ j, i = m1 + j := ⟨i - m1, by omega⟩
          rw [cat_r, cat_r, ← Nat.add_assoc]; exact e4 j (by omega)
  · exact ⟨False, a1, 0, T1, A1, D1, l1, l2, fun c => c.elim, fun n q Q hn _ y1 => hC n q Q (c1 n q _ hn (fun k' => absurd k' k) (fun _ n' q' hn' => kc1 _ _ _ _ (y1 (fun c => c) n' q' hn'))), fun n st Q hn _ y1 => hM n st Q (d1 n st _ hn (fun k' => absurd k' k) (fun _ o' n' st' => km0 _ _ _ _ _ (y1 (fun c => c) o' n' st')))⟩
theorem w3_add {x : Int32} {n : Nat} (hn : n < 60) {q : V} {Q : Int32 → V → Prop} (h : Q (nI (n + 1)) (upd q n x)) : wp_X3_add x (nI n) q Q := by
  unfold wp_X3_add
  refine ⟨fun c => absurd c (nle (a := 60) hn (by omega)), fun _ => ⟨(vi (by omega) (by omega)), fun q' eq y ey => ?_⟩⟩
  rw [ey, i1, eq, cl (by omega)]; exact h
theorem w3_add_any {x : Int32} {n : Nat} (hn : n ≤ 60) {q : V} {Q : Int32 → V → Prop} (h : ∀ (n' : Nat) (q' : V), n' ≤ 60 → Q (nI n') q') : wp_X3_add x (nI n) q Q := by
  rcases Nat.lt_or_ge n 60 with c | c
  · exact w3_add c (h _ _ (by omega))
  · unfold wp_X3_add
    exact ⟨fun _ => h _ _ hn, fun k => absurd ((le_n (a := 60) (by omega) (by omega)).mpr c) k⟩
theorem w7_step1 {x y : Int32} {n : Nat} (hn : n < 62) {st : V} {Q : Int32 → V → Prop} (h : Q (nI (n + 1)) (upd (upd st (2 * n) x) (2 * n + 1) y)) : wp_X7_step1 x y (nI n) st Q := by
  unfold wp_X7_step1
  rw [show (2 : Int32) = nI 2 from rfl, ml, i1, i1, cl (by omega), cl (by omega)]
  refine ⟨(vi (by omega) (by omega)), fun s1 e1 => ⟨(vi (by omega) (by omega)), fun s2 e2 z ez => ?_⟩⟩
  subst e1; subst e2; rw [ez]; exact h
theorem RD.ops {c : Int32} {g : Nat} (hB : B ≤ 60) (hg : isOp g) (hc : c = nI g) (h : RD 0 o B u CL1 ML1 (a + 1) (a + 1)) : RD 1 o B u (fun p n q Q => CL1 (p + 1) n q (fun p f n' q' => wp_X3_add (-c) n' q' (fun n'' q'' => Q p f n'' q''))) (fun p n st Q => ML1 (p + 1) n st (fun r p o' n' st' => (¬ r = 0 → wp_X7_step1 3 c n' st' (fun n'' st'' => Q 1 p o' n'' st'')) ∧ (r = 0 → Q 0 p o' n' st'))) a (a + 1) := by
  obtain ⟨ok, a1, m1, T1, A1, D1, l1, l2, g1, c1, d1⟩ := h
  obtain ⟨t1, -, t3, -⟩ := tk_op hg
  refine ⟨ok, a1, m1 + 1, cat m1 T1 (fun _ => -c), cat m1 A1 (fun _ => nI 3), cat m1 D1 (fun _ => c), l1, l2, fun k => ?_, fun n q Q hn y0 y1 => ?_, fun n st Q hn y0 y1 => ?_⟩
  · obtain ⟨s1, ⟨s2, s2'⟩, s3⟩ := g1 k
    have et : ∀ i, cat m1 T1 (fun _ => -c) (m1 + i) = -nI g := fun i => by rw [cat_r, hc]
    have dm : dp (cat m1 T1 (fun _ => -c)) m1 = dp T1 m1 := dp_cg m1 (fun j hj => cat_l hj)
    refine ⟨by omega, ⟨fun i hi kk => ?_, ?_⟩, fun i hi => ?_⟩
    · rcases Nat.lt_or_ge i m1 with cc | cc
      · rw [cat_l cc] at kk ⊢
        rw [dp_cg (g := T1) i (fun j hj => cat_l (show j < m1 by omega))]
        obtain ⟨q1, q2⟩ := s2 i cc kk
        exact ⟨fun r => by have := q1 r; omega, fun r => by have := q2 r; omega⟩
      · have ei : i = m1 + 0 := by omega
        rw [ei, et 0]
        rw [Nat.add_zero, dm]
        exact ⟨fun r => absurd r t3, fun _ => by omega⟩
    · have e0 := et 0
      rw [Nat.add_zero] at e0
      rw [dp, dm, e0, if_neg t1, if_neg t3]
      omega
    · rcases Nat.lt_or_ge i m1 with cc | cc
      · rw [cat_l cc, cat_l cc, cat_l cc]; exact s3 i cc
      · have ei : i = m1 + 0 := by omega
        rw [ei, et 0, cat_r, cat_r]
        exact Or.inr (Or.inr (Or.inr ⟨g, hg, rfl, rfl, hc⟩))
  · show CL1 (nI a + 1) (nI n) q _
    rw [i1]
    refine c1 n q _ (by omega) (fun k q' e1 e2 => ?_) (fun k n' q' hn' => w3_add_any hn' (fun n'' q'' h'' => y1 k n'' q'' h''))
    obtain ⟨s1, s2, s3⟩ := g1 k
    refine w3_add (by omega) (y0 k _ (fun i hi => by rw [un (by omega)]; exact e1 i hi) (fun i hi => ?_))
    rcases Nat.lt_or_ge i m1 with cc | cc
    · rw [cat_l cc, un (by omega)]; exact e2 i cc
    · have ei : i = m1 + 0 := by omega
      rw [ei, cat_r, Nat.add_zero, us]
  · show ML1 (nI a + 1) (nI n) st _
    rw [i1]
    refine d1 n st _ (by omega) (fun k st' e1 e2 => tC ?_) (fun k o' n' st' => tA (y1 k o' n' st'))
    obtain ⟨s1, s2, s3⟩ := g1 k
    refine w7_step1 (by omega) (y0 k _ (fun i hi => by rw [un (by omega), un (by omega)]; exact e1 i hi) (fun i hi => ?_))
    rcases Nat.lt_or_ge i m1 with cc | cc
    · rw [cat_l cc, cat_l cc, un (by omega), un (by omega), un (by omega), un (by omega)]; exact e2 i cc
    · have ei : i = m1 + 0 := by omega
      rw [ei, cat_r, cat_r]
      show upd (upd st' (2 * (n + m1)) 3) (2 * (n + m1) + 1) c (2 * (n + m1)) = nI 3 ∧ upd (upd st' (2 * (n + m1)) 3) (2 * (n + m1) + 1) c (2 * (n + m1) + 1) = c
      exact ⟨by rw [un (by omega), us]; rfl, us⟩
theorem RD.stop (hB : a ≤ B) (hC : ∀ (n : Nat) (q : V) (Q : Int32 → Int32 → Int32 → V → Prop), Q (nI a) 0 (nI n) q → CL (nI a) (nI n) q Q) (hM : ∀ (n : Nat) (st : V) (Q : Int32 → Int32 → Int32 → Int32 → V → Prop), Q 1 (nI a) (nI o) (nI n) st → ML (nI a) (nI n) st Q) : RD 1 o B u CL ML a a :=
  ⟨True, a, 0, fun _ => 0, fun _ => 0, fun _ => 0, Nat.le_refl a, hB, fun _ => ⟨Nat.le_refl a, ⟨fun i hi => absurd hi (Nat.not_lt_zero i), rfl⟩, fun i hi => absurd hi (Nat.not_lt_zero i)⟩, fun n q Q _ y0 _ => hC n q Q (y0 trivial q (fun _ _ => rfl) (fun i hi => absurd hi (Nat.not_lt_zero i))), fun n st Q _ y0 _ => hM n st Q (y0 trivial st (fun _ _ => rfl) (fun i hi => absurd hi (Nat.not_lt_zero i)))⟩
theorem RD.fail {a1 : Nat} (h1 : lo ≤ a1) (h2 : a1 ≤ B) (hB : B ≤ 60) (hA : a ≤ B) (hC : ∀ (n : Nat) (q : V) (Q : Int32 → Int32 → Int32 → V → Prop), n ≤ a → (∀ (n' : Nat) (q' : V), n' ≤ 60 → Q (nI a1) 1 (nI n') q') → CL (nI a) (nI n) q Q) (hM : ∀ (n : Nat) (st : V) (Q : Int32 → Int32 → Int32 → Int32 → V → Prop), n ≤ a → (∀ (o' n' : Int32) (st' : V), Q 0 (nI a1) o' n' st') → ML (nI a) (nI n) st Q) : RD b o B u CL ML a lo :=
  ⟨False, a1, 0, fun _ => 0, fun _ => 0, fun _ => 0, h1, h2, fun c => c.elim, fun n q Q hn _ y1 => hC n q Q hn (y1 (fun c => c)), fun n st Q hn _ y1 => hM n st Q hn (y1 (fun c => c))⟩
theorem RD.tok {a1 : Nat} {t x y : Int32} (h1 : a < a1) (h2 : a1 ≤ B) (ht : (-3 : Int32) ≤ t) (hk : TK u t x y) (hC : ∀ (n : Nat) (q : V) (Q : Int32 → Int32 → Int32 → V → Prop), n ≤ a → Q (nI a1) 0 (nI (n + 1)) (upd q n t) → CL (nI a) (nI n) q Q) (hM : ∀ (n : Nat) (st : V) (Q : Int32 → Int32 → Int32 → Int32 → V → Prop), n ≤ a → Q 1 (nI a1) (nI o) (nI (n + 1)) (upd (upd st (2 * n) x) (2 * n + 1) y) → ML (nI a) (nI n) st Q) : RD 0 o B u CL ML a a := by
  refine ⟨True, a1, 1, fun _ => t, fun _ => x, fun _ => y, by omega, h2, fun _ => ⟨by omega, ⟨fun i hi k => absurd ht k, ?_⟩, fun i hi => hk⟩, fun n q Q hn y0 _ => hC n q Q hn (y0 trivial _ (fun i hi => un (by omega)) (fun i hi => ?_)), fun n st Q hn y0 _ => hM n st Q hn (y0 trivial _ (fun i hi => by rw [un (by omega), un (by omega)]) (fun i hi => ?_))⟩
  · show 0 + dp (fun _ => t) (0 + 1) = 1
    rw [dp, if_pos ht]; rfl
  · have : i = 0 := by omega
    subst this; exact us
  · have : i = 0 := by omega
    subst this
    show upd (upd st (2 * n) x) (2 * n + 1) y (2 * n) = x ∧ upd (upd st (2 * n) x) (2 * n + 1) y (2 * n + 1) = y
    exact ⟨by rw [un (by omega), us], us⟩
end RD
