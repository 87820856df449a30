/-! who is clean first; laws, gains, worth, numbers that waited -/
theorem w7_who {P : Nat} (hP : P ≤ 8) {s : V} (h4 : s 4 = nI P) {X : Int32} {Q : Int32 → Prop} (hn : (∀ p, p < P → ¬ sm (fun k => s (38 + 5 * p + k)) 5 < X) → Q (-1)) (hy : ∀ p0, p0 < P → (∀ p, p < p0 → ¬ sm (fun k => s (38 + 5 * p + k)) 5 < X) → sm (fun k => s (38 + 5 * p0 + k)) 5 < X → Q (nI p0)) : wp_X7_whoIsClean X s Q := by
  unfold wp_X7_whoIsClean
  rw [show ((4 : Int32).toNatClampNeg) = 4 from rfl, h4]
  refine ⟨vi (n := 4) (by omega) (by omega), fun x3 e3 => ?_⟩
  subst e3
  refine ⟨P + 1, pk_loopD (fun n i (t : Int32) => wp_X7_whoIsClean_b11 Q s n X t (nI i - 1)) (fun i t => i ≤ P ∧ ((t = -1 ∧ ∀ p, i ≤ p → p < P → ¬ sm (fun k => s (38 + 5 * p + k)) 5 < X) ∨ ∃ p0, i ≤ p0 ∧ p0 < P ∧ t = nI p0 ∧ sm (fun k => s (38 + 5 * p0 + k)) 5 < X ∧ ∀ p, i ≤ p → p < p0 → ¬ sm (fun k => s (38 + 5 * p + k)) 5 < X)) ?_ ?_ P (-1) ⟨Nat.le_refl P, Or.inl ⟨rfl, fun p h1 h2 => by omega⟩⟩⟩
  · intro n t ⟨_, ht⟩
    show wp_X7_whoIsClean_b11 Q s (n + 1) X t (nI 0 - 1)
    unfold wp_X7_whoIsClean_b11
    refine ⟨fun _ => ?_, fun c => absurd (by decide) c⟩
    rcases ht with ⟨rfl, ht⟩ | ⟨p0, -, h1, rfl, h2, h3⟩
    · exact hn (fun p hp => ht p (by omega) hp)
    · exact hy p0 h1 (fun p hp => h3 p (by omega) hp) h2
  · intro n i t ⟨hi, ht⟩ ih
    show wp_X7_whoIsClean_b11 Q s (n + 1) X t (nI (i + 1) - 1)
    rw [nI_pred]
    unfold wp_X7_whoIsClean_b11
    refine ⟨fun c => absurd c (nlt (b := 0) (by omega) (by omega)), fun _ => w7_heap (by omega) ⟨fun c y ey => ?_, fun c y ey => ?_⟩⟩
    · rw [ey, ← Int32.sub_eq_add_neg]
      have c' : ¬ sm (fun k => s (38 + 5 * i + k)) 5 < X := by rw [il]; rw [ie] at c; omega
      refine ih t ⟨by omega, ?_⟩
      rcases ht with ⟨e, ht⟩ | ⟨p0, h0, h1, e, h2, h3⟩
      · exact Or.inl ⟨e, fun p g1 g2 => by
          by_cases d : p = i
          · subst d; exact c'
          · exact ht p (by omega) g2⟩
      · exact Or.inr ⟨p0, by omega, h1, e, h2, fun p g1 g2 => by
          by_cases d : p = i
          · subst d; exact c'
          · exact h3 p (by omega) g2⟩
    · rw [ey, ← Int32.sub_eq_add_neg]
      have c' : sm (fun k => s (38 + 5 * i + k)) 5 < X := by rw [il]; rw [ie] at c; omega
      exact ih (nI i) ⟨by omega, Or.inr ⟨i, Nat.le_refl i, by omega, rfl, c', fun p g1 g2 => by omega⟩⟩
section FIRST
variable {P Y B w : Nat} {z : Int32} {km fa mo fr sp ow tp tn : V} {tq tk : Nat → V} {wt s e nm pl : V}
theorem w4_none {Q : Int32 → V → (Nat → V) → Prop} {KK : Int32 → Int32 → V → (Nat → V) → Prop} (hP : P ≤ 8) {X : Int32} {i : Nat} {cs : V} (h : ∀ p, p < P → ¬ sm (fun k => cs (5 * p + k)) 5 < X) (hK : KK X (nI (i + 1)) cs tk) : ∃ j, wp_X4_firstBelow_b46 Q KK (nI P) (nI Y) km sp tn tq j X (nI i) (0 : Int32) cs tk := by
  refine loop_0 (fun n p (t : Unit) => wp_X4_firstBelow_b46 Q KK (nI P) (nI Y) km sp tn tq n X (nI i) (nI p) cs tk) (fun _ _ => True) P () trivial ?_ ?_
  · intro n _ _
    unfold wp_X4_firstBelow_b46
    refine ⟨fun _ y ey => ?_, fun c => absurd ((le_n (by omega) (by omega)).mpr (Nat.le_refl P)) c⟩
    rw [ey, i1]; exact hK
  · intro n p _ hp _ ih
    unfold wp_X4_firstBelow_b46
    refine ⟨fun c => absurd c (nle hp (by omega)), fun _ => w6_together (by omega) ⟨fun _ y ey => ?_, fun c => absurd ?_ (h p hp)⟩⟩
    · rw [ey, i1]; exact ih () trivial
    · rw [ie] at c; rw [il]; omega
theorem w4_some {Q : Int32 → V → (Nat → V) → Prop} {KK : Int32 → Int32 → V → (Nat → V) → Prop} (hP : P ≤ 8) {X : Int32} {i p0 : Nat} {cs : V} (h0 : p0 < P) (h : ∀ p, p < p0 → ¬ sm (fun k => cs (5 * p + k)) 5 < X) (h1 : sm (fun k => cs (5 * p0 + k)) 5 < X) (hQ : Q (nI (8 * i + p0)) cs tk) : ∃ j, wp_X4_firstBelow_b46 Q KK (nI P) (nI Y) km sp tn tq j X (nI i) (0 : Int32) cs tk := by
  refine loop_0 (fun n p (t : Unit) => wp_X4_firstBelow_b46 Q KK (nI P) (nI Y) km sp tn tq n X (nI i) (nI p) cs tk) (fun _ _ => True) p0 () trivial ?_ ?_
  · intro n _ _
    unfold wp_X4_firstBelow_b46
    refine ⟨fun c => absurd c (nle h0 (by omega)), fun _ => w6_together (by omega) ⟨fun c => absurd h1 ?_, fun _ => ?_⟩⟩
    · rw [ie] at c; rw [il]; omega
    · rw [show (8 : Int32) = nI 8 from rfl, ml, ad, Nat.mul_comm i 8]; exact hQ
  · intro n p _ hp _ ih
    unfold wp_X4_firstBelow_b46
    refine ⟨fun c => absurd c (nle (by omega) (by omega)), fun _ => w6_together (by omega) ⟨fun _ y ey => ?_, fun c => absurd ?_ (h p hp)⟩⟩
    · rw [ey, i1]; exact ih () trivial
    · rw [ie] at c; rw [il]; omega
theorem yc_cg {n : Int32} {q : V} {r1 r2 : V} {c j : Nat} (h : r1 j = r2 j) : yc km n q Y r1 c j = yc km n q Y r2 c j := by
  unfold yc; rw [h]
/-- a year of the class's search begins -/
theorem w4_year (hg : GY P Y km (tn 0) (tq 0) sp s) (hY : Y ≤ 999) {Q : Int32 → V → (Nat → V) → Prop} {X : Int32} {i n : Nat} (hi : i ≤ 60) {cs : V} (hc : ∀ c, c < 40 → cs c = ysp P km (tn 0) (tq 0) Y sp (i - 1) c) (h : ∀ cs' tk', (∀ c, c < 40 → cs' c = ysp P km (tn 0) (tq 0) Y sp i c) → ∃ j, wp_X4_firstBelow_b46 Q (wp_X4_firstBelow_b17 Q (nI P) (nI Y) km sp tn tq n) (nI P) (nI Y) km sp tn tq j X (nI i) (0 : Int32) cs' tk') : wp_X4_firstBelow_b17 Q (nI P) (nI Y) km sp tn tq (n + 1) X (nI i) cs tk := by
  unfold wp_X4_firstBelow_b17
  refine ⟨fun c => absurd c (nlt (a := 60) (by omega) (by omega)), fun _ => ⟨fun c => ?_, fun c => ?_⟩⟩
  · have := (le_n (b := 0) (by omega) (by omega)).mp c
    have e0 : i = 0 := by omega
    subst e0
    exact h cs tk hc
  · rcases Nat.eq_zero_or_pos i with e0 | e0
    · subst e0; exact absurd (by decide) c
    · rw [ad, l1, sb (by omega)]
      refine w5_grow (hg.1.at (Y' := Y + i - 1) (by omega)) (fun tk' => h _ tk' (fun c1 hc' => ?_))
      obtain ⟨m, rfl⟩ : ∃ m, i = m + 1 := ⟨i - 1, by omega⟩
      rw [show Y + (m + 1) - 1 = Y + m by omega, ysp]
      exact yc_cg (hc c1 hc')
theorem op_clean (h : WR P Y B w z km fa mo fr sp ow tp tn tq wt s) (x1 x2 : Int32) (lD th : V) (C : Int32 → (Nat → V) → V → V → Int32 → V → V → V → V → V → Prop) (hC : ∀ r tk' e' th' lD' nm' pl', C r tk' e' th' r s lD' e' nm' pl') : wp_X6_clean x1 x2 (nI P) (nI Y) km sp tn tq tk e th (fun r tk' e' th' => wp_X7_clean x1 x2 s lD e nm pl (fun r' s' l' e'' nm' pl' => C r tk' e' th' r' s' l' e'' nm' pl')) := by
  have hg := h.gy
  obtain ⟨⟨a1, a2, a3, a4⟩, ⟨b1, b2, b3, b4, b5⟩, -⟩ := id h
  unfold wp_X6_clean wp_X7_clean
  rcases io x1 501 (by omega) with ⟨x, hx', rfl⟩ | hx
  · rcases io x2 2 (by omega) with ⟨v, hv, rfl⟩ | hy
    · refine w6_within_in (lo := 0) (hi := 500) (by omega) (by omega) (by omega) (tA ?_)
      refine w6_within_in (lo := 0) (hi := 1) (by omega) (by omega) (by omega) (tB ?_)
      obtain ⟨j, hj, hb, hn⟩ := lead_ex (fun i => ∀ p, p < P → ¬ sm (fun k => ysp P km (tn 0) (tq 0) Y sp i (5 * p + k)) 5 < nI x) 61
      -- the model's run
      have hm : ∀ (R : Int32 → V → V → V → V → V → Prop), ((∀ r, (60 < j → r = er 2) → (j ≤ 60 → ∃ p0, p0 < P ∧ (∀ p, p < p0 → ¬ sm (fun k => ysp P km (tn 0) (tq 0) Y sp j (5 * p + k)) 5 < nI x) ∧ sm (fun k => ysp P km (tn 0) (tq 0) Y sp j (5 * p0 + k)) 5 < nI x ∧ r = if v = 0 then nI p0 else nI j) → ∀ lD' nm' pl', R r s lD' (if 60 < j then eu e 2 else e) nm' pl')) → wp_X7_in (nI x) (0 : Int32) (500 : Int32) (fun r_5 => ((r_5 = 0) → wp_X7_error (1 : Int32) e (fun r_22 c_errors_22 => R r_22 s lD c_errors_22 nm pl)) ∧ ((¬ r_5 = 0) → wp_X7_in (nI v) (0 : Int32) (1 : Int32) (fun r_14 => ((¬ r_14 = 0) → wp_X7_layDown s lD (fun c_laid_27 => ∃ j32, wp_X7_clean_b32 R j32 (nI x) (nI v) (0 : Int32) s c_laid_27 e nm pl)) ∧ ((r_14 = 0) → wp_X7_error (1 : Int32) e (fun r_22 c_errors_22 => R r_22 s lD c_errors_22 nm pl))))) := by
        intro R hR
        refine w7_in_in (lo := 0) (hi := 500) (by omega) (by omega) (by omega) (tD ?_)
        refine w7_in_in (lo := 0) (hi := 1) (by omega) (by omega) (by omega) (tC ?_)
        refine w7_layDown (fun lD' hl => ?_)
        have tog : ∀ (i : Nat) (t : V), GY P (Y + i) km (tn 0) (tq 0) (ysp P km (tn 0) (tq 0) Y sp i) t → ∀ p, p < P → sm (fun k => t (38 + 5 * p + k)) 5 = sm (fun k => ysp P km (tn 0) (tq 0) Y sp i (5 * p + k)) 5 := fun i t ht p hp => sm_congr 5 (fun c hc => (ht.2 p c hp hc).2)
        refine loop_0 (fun f i (t : V × V × V) => wp_X7_clean_b32 R f (nI x) (nI v) (nI i) t.1 lD' e t.2.1 t.2.2) (fun i t => GY P (Y + i) km (tn 0) (tq 0) (ysp P km (tn 0) (tq 0) Y sp i) t.1 ∧ ∀ c, (c < 38 ∨ 78 ≤ c) → c ≠ 0 → t.1 c = s c) j (s, nm, pl) ⟨hg, fun j _ _ => rfl⟩ ?_ ?_
        · intro f t ⟨t1, t2⟩
          have lb : ∀ Q' : V → Prop, Q' s → wp_X7_layBack t.1 lD' Q' := fun Q' q => w7_layBack hl (fun i hi => t2 i (by omega) (by omega)) q
          unfold wp_X7_clean_b32 wp_X7_clean_b57
          rcases Nat.lt_or_ge 60 j with g | g
          · have e61 : j = 61 := by omega
            refine ⟨fun _ => ?_, fun c => absurd ((lt_n (a := 60) (by omega) (by omega)).mpr g) c⟩
            have fin : ∀ y : Int32, wp_X7_layBack t.1 lD' (fun c_s_65 => ((nI j ≤ (60 : Int32)) → ((¬ nI v = 0) → R (nI j) c_s_65 lD' e t.2.1 t.2.2) ∧ ((nI v = 0) → R y c_s_65 lD' e t.2.1 t.2.2)) ∧ ((¬ nI j ≤ (60 : Int32)) → wp_X7_error (2 : Int32) e (fun r_76 c_errors_76 => R r_76 c_s_65 lD' c_errors_76 t.2.1 t.2.2))) := by
              intro y
              refine lb _ ⟨fun c => absurd c (nle (b := 60) (by omega) (by omega)), fun _ => w7_e2 ?_⟩
              have := hR (er 2) (fun _ => rfl) (fun c => by omega) lD' t.2.1 t.2.2
              rw [if_pos g] at this
              exact this
            exact w7_who a1 t1.1.2.2.1 (fun _ => fin _) (fun p0 _ _ _ => fin _)
          · have hex : ¬ ∀ p, p < P → ¬ sm (fun k => ysp P km (tn 0) (tq 0) Y sp j (5 * p + k)) 5 < nI x := by
              rcases hn with q | q
              · omega
              · exact q
            have fin : ∀ p0, p0 < P → (∀ p, p < p0 → ¬ sm (fun k => t.1 (38 + 5 * p + k)) 5 < nI x) → sm (fun k => t.1 (38 + 5 * p0 + k)) 5 < nI x → wp_X7_layBack t.1 lD' (fun c_s_65 => ((nI j ≤ (60 : Int32)) → ((¬ nI v = 0) → R (nI j) c_s_65 lD' e t.2.1 t.2.2) ∧ ((nI v = 0) → R (nI p0) c_s_65 lD' e t.2.1 t.2.2)) ∧ ((¬ nI j ≤ (60 : Int32)) → wp_X7_error (2 : Int32) e (fun r_76 c_errors_76 => R r_76 c_s_65 lD' c_errors_76 t.2.1 t.2.2))) := by
              intro p0 h1 h2 h3
              rw [tog j t.1 t1 p0 h1] at h3
              have h2' : ∀ p, p < p0 → ¬ sm (fun k => ysp P km (tn 0) (tq 0) Y sp j (5 * p + k)) 5 < nI x := fun p hp => by rw [← tog j t.1 t1 p (by omega)]; exact h2 p hp
              have q := hR (if v = 0 then nI p0 else nI j) (fun c => by omega) (fun _ => ⟨p0, h1, h2', h3, rfl⟩) lD' t.2.1 t.2.2
              rw [if_neg (show ¬ 60 < j by omega)] at q
              refine lb _ ⟨fun _ => ⟨fun c => ?_, fun c => ?_⟩, fun c => absurd ((le_n (b := 60) (by omega) (by omega)).mpr g) c⟩
              · rw [if_neg (fun k => c (by rw [k]; rfl))] at q; exact q
              · rw [if_pos ((eq_n (b := 0) (by omega) (by omega)).mp c)] at q; exact q
            have no : ∀ A : Prop, (∀ p, p < P → ¬ sm (fun k => t.1 (38 + 5 * p + k)) 5 < nI x) → A := fun A q => absurd (fun p hp => by rw [← tog j t.1 t1 p hp]; exact q p hp) hex
            refine ⟨fun c => absurd c (nlt (a := 60) (by omega) (by omega)), fun _ => w7_who a1 t1.1.2.2.1 (fun q => no _ q) (fun p0 h1 h2 h3 => ⟨fun _ => w7_who a1 t1.1.2.2.1 (fun q => no _ q) (fun p1 g1 g2 g3 => fin p1 g1 g2 g3), fun c => ?_⟩)⟩
            exfalso
            have k := (iq _ _).mp c
            rw [ti (by omega)] at k
            have : (-1 : Int32).toInt = -1 := rfl
            omega
        · intro f i t hi ⟨t1, t2⟩ ih
          unfold wp_X7_clean_b32
          refine ⟨fun c => absurd c (nlt (a := 60) (by omega) (by omega)), fun _ => w7_who a1 t1.1.2.2.1 (fun _ => ⟨fun c => absurd rfl c, fun _ => w7_yearR t1 (by omega) (fun s' nm' pl' g1 g2 => fun y ey => ?_)⟩) (fun p0 h1 h2 h3 => absurd h3 ?_)⟩
          · rw [ey, i1]
            exact ih (s', nm', pl') ⟨g1, fun j q1 q2 => (g2 j q1 q2).trans (t2 j q1 q2)⟩
          · rw [tog i t.1 t1 p0 h1]; exact hb i hi p0 h1
      -- the class's run
      unfold wp_X4_firstBelow
      intro cs ec
      have hcs : ∀ c, c < 40 → cs c = sp c := fun c hc => by
        rw [ec]
        have := pk_cpy_in (f := sp) (g := th) (sp := 0) (dp := 0) (n := 40) (j := c) (by omega) (by omega)
        rw [show 0 + (c - 0) = c by omega] at this
        exact this
      refine loop_0 (fun f i (u : V × (Nat → V)) => wp_X4_firstBelow_b17 _ (nI P) (nI Y) km sp tn tq f (nI x) (nI i) u.1 u.2) (fun i u => ∀ c, c < 40 → u.1 c = ysp P km (tn 0) (tq 0) Y sp (i - 1) c) j (cs, tk) hcs ?_ ?_
      · intro f u hu
        rcases Nat.lt_or_ge 60 j with g | g
        · unfold wp_X4_firstBelow_b17
          refine ⟨fun _ => ⟨fun c => absurd c (by decide), fun _ => w6_e2 ?_⟩, fun c => absurd ((lt_n (a := 60) (by omega) (by omega)).mpr g) c⟩
          refine hm _ (fun r h1 _ lD' nm' pl' => ?_)
          rw [h1 g, if_pos g]
          exact hC _ _ _ _ _ _ _
        · have hex : ¬ ∀ p, p < P → ¬ sm (fun k => ysp P km (tn 0) (tq 0) Y sp j (5 * p + k)) 5 < nI x := by
            rcases hn with q | q
            · omega
            · exact q
          obtain ⟨p0, hp0, hb0, hn0⟩ := lead_ex (fun p => ¬ sm (fun k => ysp P km (tn 0) (tq 0) Y sp j (5 * p + k)) 5 < nI x) P
          have k0 : p0 < P ∧ sm (fun k => ysp P km (tn 0) (tq 0) Y sp j (5 * p0 + k)) 5 < nI x := by
            rcases hn0 with q | q
            · exact absurd (fun p hp => hb0 p (by omega)) hex
            · have q' := Classical.not_not.mp q
              refine ⟨?_, q'⟩
              rcases Nat.lt_or_ge p0 P with k | k
              · exact k
              · exact absurd (fun p hp => hb0 p (by omega)) hex
          refine w4_year hg a2 g hu (fun cs' tk' hc' => ?_)
          have tg : ∀ p, p < 8 → sm (fun k => cs' (5 * p + k)) 5 = sm (fun k => ysp P km (tn 0) (tq 0) Y sp j (5 * p + k)) 5 := fun p hp => sm_congr 5 (fun c hc => hc' _ (by omega))
          refine w4_some a1 k0.1 (fun p hp => by rw [tg p (by omega)]; exact hb0 p hp) (by rw [tg p0 (by omega)]; exact k0.2) ?_
          refine ⟨fun _ => ?_, fun c => absurd ?_ c⟩
          · have m : ∀ r : Int32, r = (if v = 0 then nI p0 else nI j) → wp_X7_in (nI x) (0 : Int32) (500 : Int32) (fun r_5 => ((r_5 = 0) → wp_X7_error (1 : Int32) e (fun r_22 c_errors_22 => C r tk' e cs' r_22 s lD c_errors_22 nm pl)) ∧ ((¬ r_5 = 0) → wp_X7_in (nI v) (0 : Int32) (1 : Int32) (fun r_14 => ((¬ r_14 = 0) → wp_X7_layDown s lD (fun c_laid_27 => ∃ j32, wp_X7_clean_b32 (fun r' s' l' e'' nm' pl' => C r tk' e cs' r' s' l' e'' nm' pl') j32 (nI x) (nI v) (0 : Int32) s c_laid_27 e nm pl)) ∧ ((r_14 = 0) → wp_X7_error (1 : Int32) e (fun r_22 c_errors_22 => C r tk' e cs' r_22 s lD c_errors_22 nm pl))))) := by
              intro r er'
              refine hm _ (fun r2 _ h2 lD' nm' pl' => ?_)
              obtain ⟨p1, g1, g2, g3, g4⟩ := h2 g
              have : p1 = p0 := by
                rcases Nat.lt_trichotomy p1 p0 with q | q | q
                · exact absurd g3 (hb0 p1 q)
                · exact q
                · exact absurd k0.2 (g2 p0 q)
              subst this
              rw [g4, er', if_neg (show ¬ 60 < j by omega)]
              exact hC _ _ _ _ _ _ _
            refine ⟨fun c => m _ ?_, fun c => m _ ?_⟩
            · rw [if_neg (fun k => c (by rw [k]; rfl)), show (8 : Int32) = nI 8 from rfl, dv (by omega) (by omega) (by omega)]
              congr 1; omega
            · rw [if_pos ((eq_n (b := 0) (by omega) (by omega)).mp c), show (8 : Int32) = nI 8 from rfl, rm_n (by omega) (by omega) (by omega)]
              congr 1; omega
          · exact (le_n (a := 0) (by omega) (by omega)).mpr (by omega)
      · intro f i u hi hu ih
        refine w4_year hg a2 (by omega) hu (fun cs' tk' hc' => ?_)
        have tg : ∀ p, p < 8 → sm (fun k => cs' (5 * p + k)) 5 = sm (fun k => ysp P km (tn 0) (tq 0) Y sp i (5 * p + k)) 5 := fun p hp => sm_congr 5 (fun c hc => hc' _ (by omega))
        exact w4_none a1 (fun p hp => by rw [tg p (by omega)]; exact hb i hi p hp) (ih (cs', tk') hc')
    · refine w6_within_in (lo := 0) (hi := 500) (by omega) (by omega) (by omega) (tA ?_)
      refine w6_within_out (hi := 1) (by omega) hy (tD (w6_e1 ?_))
      refine w7_in_in (lo := 0) (hi := 500) (by omega) (by omega) (by omega) (tD ?_)
      exact w7_in_out (hi := 1) (by omega) hy (tA (w7_e1 (hC _ _ _ _ _ _ _)))
  · refine w6_within_out (hi := 500) (by omega) hx (tC (w6_e1 ?_))
    exact w7_in_out (hi := 500) (by omega) hx (tB (w7_e1 (hC _ _ _ _ _ _ _)))
end FIRST
