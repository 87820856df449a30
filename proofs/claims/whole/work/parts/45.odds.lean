/-! odds, sets that fit -/
theorem w6_cd {g n : Nat} (hg : g < 1000) (hn0 : 0 < n) (hn : n < 1000) {Q : Int32 → Prop} (h : Q (nI (Nat.gcd g n))) : wp_X6_commonDivisor (nI g) (nI n) Q := by
  have gp : 0 < Nat.gcd g n := Nat.gcd_pos_of_pos_right g hn0
  have gl : Nat.gcd g n ≤ n := Nat.le_of_dvd hn0 (Nat.gcd_dvd_right g n)
  have key : ∀ d, Nat.gcd g n ≤ d → d < 1000 → ∃ f, wp_X6_commonDivisor_b2 Q f (nI g) (nI n) (nI d) := by
    intro d
    induction d with
    | zero => intro h1 _; omega
    | succ d ih =>
      intro h1 h2
      rcases Nat.eq_zero_or_pos d with e | e
      · subst e
        refine ⟨1, ?_⟩
        unfold wp_X6_commonDivisor_b2
        refine ⟨fun _ => ?_, fun c => absurd (show nI (0 + 1) ≤ (1 : Int32) by decide) c⟩
        rw [show Nat.gcd g n = 1 by omega] at h
        exact h
      · have n0 : ¬ nI (d + 1) = 0 := fun c => by have := (eq_n (b := 0) (by omega) (by omega)).mp c; omega
        by_cases c : g % (d + 1) = 0 ∧ n % (d + 1) = 0
        · refine ⟨1, ?_⟩
          have d1 : (d + 1) ∣ Nat.gcd g n := Nat.dvd_gcd (Nat.dvd_of_mod_eq_zero c.1) (Nat.dvd_of_mod_eq_zero c.2)
          have d2 : d + 1 = Nat.gcd g n := Nat.le_antisymm (Nat.le_of_dvd gp d1) h1
          unfold wp_X6_commonDivisor_b2
          rw [rm_n (by omega) (by omega) (by omega), rm_n (by omega) (by omega) (by omega), c.1, c.2, d2]
          exact ⟨fun k => absurd k (nle (b := 1) (by omega) (by omega)), fun _ => ⟨by rw [← d2]; exact n0, fun k => absurd rfl k, fun _ => ⟨by rw [← d2]; exact n0, fun k => absurd rfl k, fun _ => h⟩⟩⟩
        · have d3 : Nat.gcd g n ≤ d := by
            rcases Nat.lt_or_ge d (Nat.gcd g n) with q | q
            · have e1 : Nat.gcd g n = d + 1 := by omega
              exfalso
              apply c
              rw [← e1]
              exact ⟨Nat.mod_eq_zero_of_dvd (Nat.gcd_dvd_left g n), Nat.mod_eq_zero_of_dvd (Nat.gcd_dvd_right g n)⟩
            · exact q
          obtain ⟨f, hf⟩ := ih d3 (by omega)
          refine ⟨f + 1, ?_⟩
          unfold wp_X6_commonDivisor_b2
          rw [rm_n (by omega) (by omega) (by omega), rm_n (by omega) (by omega) (by omega)]
          refine ⟨fun k => absurd k (nle (b := 1) (by omega) (by omega)), fun _ => ⟨n0, fun _ x ex => ?_, fun k1 => ⟨n0, fun _ x ex => ?_, fun k2 => absurd ⟨?_, ?_⟩ c⟩⟩⟩
          · rw [ex, pk_m1]; exact hf
          · rw [ex, pk_m1]; exact hf
          · have := Nat.mod_lt g (show 0 < d + 1 by omega)
            exact (eq_n (b := 0) (by omega) (by omega)).mp k1
          · have := Nat.mod_lt n (show 0 < d + 1 by omega)
            exact (eq_n (b := 0) (by omega) (by omega)).mp k2
  unfold wp_X6_commonDivisor
  exact key n gl hn
theorem w7_divisor {Q : Int32 → Prop} : ∀ (y x : Nat), x < 1000 → y < 1000 → Q (nI (Nat.gcd x y)) → ∃ f, wp_X7_divisor_b4 Q f (nI x) (nI y) := by
  intro y
  induction y using Nat.strongRecOn with
  | _ y ih =>
    intro x hx hy h
    rcases Nat.eq_zero_or_pos y with e | e
    · subst e
      refine ⟨1, ?_⟩
      unfold wp_X7_divisor_b4
      rw [Nat.gcd_zero_right] at h
      exact ⟨fun _ => h, fun c => absurd rfl c⟩
    · have n0 : ¬ nI y = 0 := fun c => by have := (eq_n (b := 0) (by omega) (by omega)).mp c; omega
      have ml' := Nat.mod_lt x e
      obtain ⟨f, hf⟩ := ih (x % y) ml' y hy (by omega) (by rw [Nat.gcd_comm, ← Nat.gcd_rec, Nat.gcd_comm]; exact h)
      refine ⟨f + 1, ?_⟩
      unfold wp_X7_divisor_b4
      rw [rm_n (by omega) (by omega) (by omega)]
      refine ⟨fun c => absurd c n0, fun _ => ⟨n0, fun z ez => ?_⟩⟩
      rw [ez]; exact hf
section ODDS
variable {P Y B w : Nat} {z : Int32} {km fa mo fr sp ow tp tn : V} {tq tk : Nat → V} {wt s e nm pl : V}
theorem w4_pairsBelow (hP : P ≤ 8) {x : Int32} {Q : Int32 → Prop} (h : Q (nI (tc (fun a b => dc (sm (fun k => (sp (5 * a + k) + sp (5 * b + k)) / 2) 5 < x)) P P))) : wp_X4_pairsBelow x (nI P) sp Q := by
  unfold wp_X4_pairsBelow
  refine loop_0 (fun n a (t : Int32) => wp_X4_pairsBelow_b5 Q (nI P) sp n x t (nI a)) (fun a t => t = nI (tc (fun a b => dc (sm (fun k => (sp (5 * a + k) + sp (5 * b + k)) / 2) 5 < x)) P a)) P 0 rfl ?_ ?_
  · intro n t et
    unfold wp_X4_pairsBelow_b5
    exact ⟨fun _ => by rw [et]; exact h, fun c => absurd ((le_n (by omega) (by omega)).mpr (Nat.le_refl P)) c⟩
  · intro n a t ha et ih
    unfold wp_X4_pairsBelow_b5
    refine ⟨fun c => absurd c (nle ha (by omega)), fun _ x5 e5 => ?_⟩
    rw [e5, i1]
    refine pk_loop (fun m b (u : Int32) => wp_X4_pairsBelow_b20 Q (wp_X4_pairsBelow_b5 Q (nI P) sp n) (nI P) sp m x u (nI a) (nI b)) (fun b u => a < b ∧ u = nI (tc (fun a b => dc (sm (fun k => (sp (5 * a + k) + sp (5 * b + k)) / 2) 5 < x)) P a + rc (fun b => dc (sm (fun k => (sp (5 * a + k) + sp (5 * b + k)) / 2) 5 < x)) a b)) P (a + 1) t (by omega) ⟨by omega, by rw [rc_0 _ (Nat.le_refl _), et]; rfl⟩ ?_ ?_
    · intro m u ⟨_, eu⟩
      unfold wp_X4_pairsBelow_b20
      refine ⟨fun _ y ey => ?_, fun c => absurd ((le_n (by omega) (by omega)).mpr (Nat.le_refl P)) c⟩
      rw [ey, i1]
      exact ih u eu
    · intro m b u hb ⟨hab, eu⟩ ih2
      unfold wp_X4_pairsBelow_b20
      refine ⟨fun c => absurd c (nle hb (by omega)), fun _ => w5_pouredTogether (by omega) (by omega) ⟨fun g => w6_truth (fun x1 ex y ey => ?_), fun g => w6_truth (fun x1 ex y ey => ?_)⟩⟩
      · have g' : ¬ sm (fun k => (sp (5 * a + k) + sp (5 * b + k)) / 2) 5 < x := by rw [il]; rw [ie] at g; omega
        rw [ey, i1, ex, if_pos rfl, eu, l0, ad]
        refine ih2 _ ⟨by omega, ?_⟩
        rw [rc_f (dc_f.mpr g')]; rfl
      · have g' : sm (fun k => (sp (5 * a + k) + sp (5 * b + k)) / 2) 5 < x := by rw [il]; rw [ie] at g; omega
        rw [ey, i1, ex, if_neg (by decide), eu, l1, ad]
        refine ih2 _ ⟨by omega, ?_⟩
        rw [rc_t hab (dc_t.mpr g')]; rfl
theorem tc_all (hP : P ≤ 8) (h2 : 2 ≤ P) : tc (fun _ _ => true) P P = P * (P - 1) / 2 ∧ 0 < P * (P - 1) / 2 ∧ P * (P - 1) / 2 < 100 := by
  rcases (by omega : P = 2 ∨ P = 3 ∨ P = 4 ∨ P = 5 ∨ P = 6 ∨ P = 7 ∨ P = 8) with q | q | q | q | q | q | q <;> subst q <;> decide
theorem w7_odds (h : WR P Y B w z km fa mo fr sp ow tp tn tq wt s) {x v : Nat} (hx : x ≤ 500) (hv : v < 2) (h2 : 2 ≤ P) {Q : Int32 → V → Prop} (hQ : Q (if v = 0 then nI (tc (fun a b => dc (sm (fun k => (sp (5 * a + k) + sp (5 * b + k)) / 2) 5 < nI x)) P P) / nI (Nat.gcd (tc (fun a b => dc (sm (fun k => (sp (5 * a + k) + sp (5 * b + k)) / 2) 5 < nI x)) P P) (P * (P - 1) / 2)) else nI (P * (P - 1) / 2) / nI (Nat.gcd (tc (fun a b => dc (sm (fun k => (sp (5 * a + k) + sp (5 * b + k)) / 2) 5 < nI x)) P P) (P * (P - 1) / 2))) e) : wp_X7_odds (nI x) (nI v) s e Q := by
  obtain ⟨⟨a1, a2, a3, a4⟩, ⟨b1, b2, b3, b4, b5⟩, c1, c2, c3, c4, c5, c6, c7, c8, c9⟩ := id h
  obtain ⟨t1, t2, t3⟩ := tc_all a1 h2
  unfold wp_X7_odds
  rw [show ((4 : Int32).toNatClampNeg) = 4 from rfl, b1]
  refine w7_in_in (lo := 0) (hi := 500) (by omega) (by omega) (by omega) (tD ?_)
  refine w7_in_in (lo := 0) (hi := 1) (by omega) (by omega) (by omega) (tC ⟨vi (n := 4) (by omega) (by omega), fun _ => ?_, fun c => absurd ((le_n (a := 2) (by omega) (by omega)).mpr h2) c⟩)
  refine loop_0 (fun n a (t : Int32 × Int32) => wp_X7_odds_b50 Q s n (nI x) (nI v) t.1 t.2 (nI a) e) (fun a t => t.1 = nI (tc (fun _ _ => true) P a) ∧ t.2 = nI (tc (fun a b => dc (sm (fun k => (sp (5 * a + k) + sp (5 * b + k)) / 2) 5 < nI x)) P a)) P (0, 0) ⟨rfl, rfl⟩ ?_ ?_
  · intro n t ⟨e1, e2⟩
    unfold wp_X7_odds_b50
    rw [show ((4 : Int32).toNatClampNeg) = 4 from rfl, b1, e1, e2, t1]
    have tb := tc_le (c := (fun a b => dc (sm (fun k => (sp (5 * a + k) + sp (5 * b + k)) / 2) 5 < nI x))) a1 P
    refine ⟨vi (n := 4) (by omega) (by omega), fun _ => ?_, fun c => absurd ((le_n (by omega) (by omega)).mpr (Nat.le_refl P)) c⟩
    have gp := Nat.gcd_pos_of_pos_right (tc (fun a b => dc (sm (fun k => (sp (5 * a + k) + sp (5 * b + k)) / 2) 5 < nI x)) P P) t2
    have gl := Nat.le_of_dvd t2 (Nat.gcd_dvd_right (tc (fun a b => dc (sm (fun k => (sp (5 * a + k) + sp (5 * b + k)) / 2) 5 < nI x)) P P) (P * (P - 1) / 2))
    have n0 : ¬ nI (Nat.gcd (tc (fun a b => dc (sm (fun k => (sp (5 * a + k) + sp (5 * b + k)) / 2) 5 < nI x)) P P) (P * (P - 1) / 2)) = 0 := fun c => by have := (eq_n (b := 0) (by omega) (by omega)).mp c; omega
    refine w7_divisor _ _ (by omega) (by omega) ⟨fun c => ⟨n0, ?_⟩, fun c => ⟨n0, ?_⟩⟩
    · rw [if_neg (fun k => c (by rw [k]; rfl))] at hQ; exact hQ
    · rw [if_pos ((eq_n (b := 0) (by omega) (by omega)).mp c)] at hQ; exact hQ
  · intro n a t ha ⟨e1, e2⟩ ih
    unfold wp_X7_odds_b50
    rw [show ((4 : Int32).toNatClampNeg) = 4 from rfl, b1]
    refine ⟨vi (n := 4) (by omega) (by omega), fun c => absurd c (nle ha (by omega)), fun _ y ey => ?_⟩
    rw [ey, i1]
    refine pk_loop (fun m b (u : Int32 × Int32) => wp_X7_odds_b67 Q (wp_X7_odds_b50 Q s n) s m (nI x) (nI v) u.1 u.2 (nI a) (nI b) e) (fun b u => a < b ∧ u.1 = nI (tc (fun _ _ => true) P a + rc (fun _ => true) a b) ∧ u.2 = nI (tc (fun a b => dc (sm (fun k => (sp (5 * a + k) + sp (5 * b + k)) / 2) 5 < nI x)) P a + rc (fun b => dc (sm (fun k => (sp (5 * a + k) + sp (5 * b + k)) / 2) 5 < nI x)) a b)) P (a + 1) t (by omega) ⟨by omega, by rw [rc_0 _ (Nat.le_refl _), e1]; rfl, by rw [rc_0 _ (Nat.le_refl _), e2]; rfl⟩ ?_ ?_
    · intro m u ⟨_, g1, g2⟩
      unfold wp_X7_odds_b67
      rw [show ((4 : Int32).toNatClampNeg) = 4 from rfl, b1]
      refine ⟨vi (n := 4) (by omega) (by omega), fun _ y ey => ?_, fun c => absurd ((le_n (by omega) (by omega)).mpr (Nat.le_refl P)) c⟩
      rw [ey, i1]
      exact ih u ⟨g1, g2⟩
    · intro m b u hb ⟨hab, g1, g2⟩ ih2
      unfold wp_X7_odds_b67
      rw [show ((4 : Int32).toNatClampNeg) = 4 from rfl, b1]
      have ea : sm (fun k => (s (38 + 5 * a + k) + s (38 + 5 * b + k)) / 2) 5 = sm (fun k => (sp (5 * a + k) + sp (5 * b + k)) / 2) 5 := sm_congr 5 (fun k hk => by rw [(c4 a k ha hk).2, (c4 b k hb hk).2])
      refine ⟨vi (n := 4) (by omega) (by omega), fun c => absurd c (nle hb (by omega)), fun _ x3 e3 => w7_pouredHeap (by omega) (by omega) ?_⟩
      rw [ea]
      refine ⟨fun g x1 ex y ey => ?_, fun g x1 ex y ey => ?_⟩
      · have g' : ¬ sm (fun k => (sp (5 * a + k) + sp (5 * b + k)) / 2) 5 < nI x := by rw [il]; rw [ie] at g; omega
        rw [ey, i1, ex, e3, g1, g2, l0, ad, i1]
        refine ih2 (_, _) ⟨by omega, ?_, ?_⟩
        · rw [rc_t hab rfl]; rfl
        · rw [rc_f (dc_f.mpr g')]; rfl
      · have g' : sm (fun k => (sp (5 * a + k) + sp (5 * b + k)) / 2) 5 < nI x := by rw [il]; rw [ie] at g; omega
        rw [ey, i1, ex, e3, g1, g2, i1, i1]
        refine ih2 (_, _) ⟨by omega, ?_, ?_⟩
        · rw [rc_t hab rfl]; rfl
        · rw [rc_t hab (dc_t.mpr g')]; rfl
theorem op_odds (h : WR P Y B w z km fa mo fr sp ow tp tn tq wt s) (x1 x2 : Int32) (C : Int32 → V → Int32 → V → Prop) (hC : ∀ r e', C r e' r e') : wp_X6_odds x1 x2 (nI P) sp e (fun r e' => wp_X7_odds x1 x2 s e (fun r' e'' => C r e' r' e'')) := by
  obtain ⟨⟨a1, a2, a3, a4⟩, ⟨b1, b2, b3, b4, b5⟩, -⟩ := id h
  unfold wp_X6_odds
  rcases io x1 501 (by omega) with ⟨x, hx', rfl⟩ | hx
  · rcases io x2 2 (by omega) with ⟨v, hv, rfl⟩ | hy
    · refine w6_within_in (lo := 0) (hi := 500) (by omega) (by omega) (by omega) (tA ?_)
      refine w6_within_in (lo := 0) (hi := 1) (by omega) (by omega) (by omega) (tB ?_)
      refine ⟨fun c x3 e3 => ?_, fun c => w6_e3 ?_⟩
      · have h2 : 2 ≤ P := (le_n (a := 2) (by omega) (by omega)).mp c
        obtain ⟨t1, t2, t3⟩ := tc_all a1 h2
        have hm : P * (P - 1) < 1000 := by
          have := Nat.mul_le_mul a1 (show P - 1 ≤ 7 by omega)
          omega
        rw [l1, sb (by omega), ml, show (2 : Int32) = nI 2 from rfl, dv (by omega) (by omega) (by omega)] at e3
        rw [e3]
        refine w4_pairsBelow a1 ?_
        have tb := tc_le (c := (fun a b => dc (sm (fun k => (sp (5 * a + k) + sp (5 * b + k)) / 2) 5 < nI x))) a1 P
        have gp := Nat.gcd_pos_of_pos_right (tc (fun a b => dc (sm (fun k => (sp (5 * a + k) + sp (5 * b + k)) / 2) 5 < nI x)) P P) t2
        have gl := Nat.le_of_dvd t2 (Nat.gcd_dvd_right (tc (fun a b => dc (sm (fun k => (sp (5 * a + k) + sp (5 * b + k)) / 2) 5 < nI x)) P P) (P * (P - 1) / 2))
        have n0 : ¬ nI (Nat.gcd (tc (fun a b => dc (sm (fun k => (sp (5 * a + k) + sp (5 * b + k)) / 2) 5 < nI x)) P P) (P * (P - 1) / 2)) = 0 := fun c => by have := (eq_n (b := 0) (by omega) (by omega)).mp c; omega
        refine w6_cd (by omega) t2 (by omega) ⟨fun k => ⟨n0, w7_odds h (by omega) hv h2 ?_⟩, fun k => ⟨n0, w7_odds h (by omega) hv h2 ?_⟩⟩
        · rw [if_neg (fun q => k (by rw [q]; rfl))]; exact hC _ _
        · rw [if_pos ((eq_n (b := 0) (by omega) (by omega)).mp k)]; exact hC _ _
      · have h2 : ¬ 2 ≤ P := fun q => c ((le_n (a := 2) (by omega) (by omega)).mpr q)
        unfold wp_X7_odds
        rw [show ((4 : Int32).toNatClampNeg) = 4 from rfl, b1]
        refine w7_in_in (lo := 0) (hi := 500) (by omega) (by omega) (by omega) (tD ?_)
        exact w7_in_in (lo := 0) (hi := 1) (by omega) (by omega) (by omega) (tC ⟨vi (n := 4) (by omega) (by omega), fun q => absurd q c, fun _ => w7_e3 (hC _ _)⟩)
    · refine w6_within_in (lo := 0) (hi := 500) (by omega) (by omega) (by omega) (tA ?_)
      refine w6_within_out (hi := 1) (by omega) hy (tD (w6_e1 ?_))
      unfold wp_X7_odds
      refine w7_in_in (lo := 0) (hi := 500) (by omega) (by omega) (by omega) (tD ?_)
      exact w7_in_out (hi := 1) (by omega) hy (tA (w7_e1 (hC _ _)))
  · refine w6_within_out (hi := 500) (by omega) hx (tC (w6_e1 ?_))
    unfold wp_X7_odds
    exact w7_in_out (hi := 500) (by omega) hx (tB (w7_e1 (hC _ _)))
end ODDS
