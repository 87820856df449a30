/-! thefts by draws -/
def dz (z : Int32) : Int32 := z * 1103515245 + 12345
def dn (z : Int32) : Nat := z.toBitVec.toNat / 256
theorem dn_lt (z : Int32) : dn z < 16777216 := by
  have := z.toBitVec.isLt
  unfold dn; omega
theorem da_n (z : Int32) : (z.toUInt32 >>> ((8 : Int32).toUInt32 &&& Int32.toUInt32 31)).toInt32 = nI (dn z) := by
  have := dn_lt z
  apply Int32.toBitVec_inj.mp
  apply BitVec.eq_of_toNat_eq
  rw [pk_tn (by omega)]
  exact pk_ushr z 8 8 (by decide)
def slf (P : Nat) (z : Int32) : Nat := dn (dz z) % P
def slt (P : Nat) (z : Int32) : Nat := dn (dz (dz z)) % P
def slk (z : Int32) : Nat := dn (dz (dz (dz z))) % 5
def sz (P : Nat) (z : Int32) : Int32 := if P = 0 then z else dz (dz (dz z))
def sn (P : Nat) (z : Int32) (sp : V) : Nat := if P = 0 then 0 else if slf P z = slt P z then 0 else min (sp (5 * slf P z + slk z)).toNatClampNeg (99 - (sp (5 * slt P z + slk z)).toNatClampNeg) / 2
def ssp (P : Nat) (z : Int32) (sp : V) : V := if P = 0 then sp else if slf P z = slt P z then sp else upd (upd sp (5 * slf P z + slk z) (nI ((sp (5 * slf P z + slk z)).toNatClampNeg - sn P z sp))) (5 * slt P z + slk z) (nI ((sp (5 * slt P z + slk z)).toNatClampNeg + sn P z sp))
theorem w5_steal {P : Nat} (hP : P ≤ 8) {sp s : V} (hR : Rs P sp s) {z : Int32} {Q : Int32 → Int32 → V → Prop} (h : Q (nI (sn P z sp)) (sz P z) (ssp P z sp)) : wp_X5_steal (nI P) z sp Q := by
  unfold wp_X5_steal
  rcases Nat.eq_zero_or_pos P with e | e
  · subst e
    exact ⟨fun c => absurd rfl c, fun _ => h⟩
  · have n0 : ¬ nI P = 0 := fun c => by have := (eq_n (b := 0) (by omega) (by omega)).mp c; omega
    refine ⟨fun _ => ?_, fun c => absurd c n0⟩
    unfold wp_X5_draw
    intro z1 e1
    refine ⟨n0, fun x1 ex1 => ?_⟩
    intro z2 e2
    refine ⟨n0, fun x2 ex2 => ?_⟩
    intro z3 e3 x3 ex3
    have q1 := dn_lt z1
    have q2 := dn_lt z2
    have q3 := dn_lt z3
    have e1' : z1 = dz z := e1
    have e2' : z2 = dz (dz z) := by rw [e2, e1']; rfl
    have e3' : z3 = dz (dz (dz z)) := by rw [e3, e2']; rfl
    rw [da_n, rm_n (by omega) (by omega) (by omega)] at ex1 ex2
    rw [da_n, show (5 : Int32) = nI 5 from rfl, rm_n (by omega) (by omega) (by omega)] at ex3
    have f1 : x1 = nI (slf P z) := by rw [ex1, e1']; rfl
    have f2 : x2 = nI (slt P z) := by rw [ex2, e2']; rfl
    have f3 : x3 = nI (slk z) := by rw [ex3, e3']; rfl
    have l1' : slf P z < P := Nat.mod_lt _ e
    have l2' : slt P z < P := Nat.mod_lt _ e
    have l3' : slk z < 5 := Nat.mod_lt _ (by omega)
    rw [f1, f2, f3, e3']
    have hz : sz P z = dz (dz (dz z)) := if_neg (by omega)
    rw [hz] at h
    by_cases c : slf P z = slt P z
    · have g1 : sn P z sp = 0 := by unfold sn; rw [if_neg (by omega), if_pos c]
      have g2 : ssp P z sp = sp := by unfold ssp; rw [if_neg (by omega), if_pos c]
      rw [g1, g2] at h
      exact ⟨fun d => absurd (by rw [c]) d, fun _ => h⟩
    · obtain ⟨⟨v, hv, ev⟩, -⟩ := hR _ _ l1' l3'
      obtain ⟨⟨u, hu, eu⟩, -⟩ := hR _ _ l2' l3'
      have g1 : sn P z sp = min v (99 - u) / 2 := by unfold sn; rw [if_neg (by omega), if_neg c, ev, eu, cl (by omega), cl (by omega)]
      have g2 : ssp P z sp = upd (upd sp (5 * slf P z + slk z) (nI (v - min v (99 - u) / 2))) (5 * slt P z + slk z) (nI (u + min v (99 - u) / 2)) := by unfold ssp; rw [if_neg (by omega), if_neg c, g1, ev, eu, cl (by omega), cl (by omega)]
      rw [g1, g2] at h
      refine ⟨fun _ => w6_cell ⟨(vi (by omega) (by omega)), fun x4 e4 => w6_cell ⟨(vi (by omega) (by omega)), fun x5 e5 => ?_⟩⟩, fun d => absurd ((eq_n (by omega) (by omega)).mp d) c⟩
      rw [cl (by omega), eu, show (99 : Int32) = nI 99 from rfl, sb (by omega)] at e4
      rw [cl (by omega), ev, e4, min_n (by omega) (by omega), show (2 : Int32) = nI 2 from rfl, dv (by omega) (by omega) (by omega)] at e5
      rw [e5]
      exact w5_go (by omega) (by omega) l3' c (by omega) ev eu h
theorem w7_draw {s : V} {z : Int32} (hz : s 1 = z) {Q : Int32 → V → Prop} (h : ∀ s', s' 1 = dz z → (∀ i, i ≠ 1 → s' i = s i) → Q (nI (dn (dz z))) s') : wp_X7_draw s Q := by
  unfold wp_X7_draw
  rw [show ((1 : Int32).toNatClampNeg) = 1 from rfl]
  refine ⟨vi (n := 1) (by omega) (by omega), vi (n := 1) (by omega) (by omega), fun s' e => ⟨vi (n := 1) (by omega) (by omega), ?_⟩⟩
  have e1 : s' 1 = dz z := by rw [e, us, hz]; rfl
  rw [da_n, e1]
  exact h s' e1 (fun i hi => by rw [e, un hi])
theorem w7_steals {P : Nat} (hP : P ≤ 8) {sp s : V} (hR : Rs P sp s) {z : Int32} (h4 : s 4 = nI P) (h1 : s 1 = z) {Q : Int32 → V → Prop} (h : ∀ s', Rs P (ssp P z sp) s' → s' 1 = sz P z → (∀ i, (i < 38 ∨ 78 ≤ i) → i ≠ 1 → s' i = s i) → Q (nI (sn P z sp)) s') : wp_X7_steals s Q := by
  unfold wp_X7_steals
  rw [show ((4 : Int32).toNatClampNeg) = 4 from rfl, h4]
  rcases Nat.eq_zero_or_pos P with e | e
  · subst e
    exact ⟨vi (n := 4) (by omega) (by omega), fun c => absurd rfl c, fun _ => h s (fun p k hp => absurd hp (Nat.not_lt_zero p)) h1 (fun _ _ _ => rfl)⟩
  · have n0 : ¬ nI P = 0 := fun c => by have := (eq_n (b := 0) (by omega) (by omega)).mp c; omega
    refine ⟨vi (n := 4) (by omega) (by omega), fun _ => w7_draw h1 (fun s1 d1 o1 => ?_), fun c => absurd c n0⟩
    rw [o1 4 (by omega), h4]
    refine ⟨vi (n := 4) (by omega) (by omega), n0, fun x1 ex1 => w7_draw d1 (fun s2 d2 o2 => ?_)⟩
    rw [o2 4 (by omega), o1 4 (by omega), h4]
    refine ⟨vi (n := 4) (by omega) (by omega), n0, fun x2 ex2 => w7_draw d2 (fun s3 d3 o3 => fun x3 ex3 => ?_)⟩
    have q1 := dn_lt (dz z)
    have q2 := dn_lt (dz (dz z))
    have q3 := dn_lt (dz (dz (dz z)))
    rw [rm_n (by omega) (by omega) (by omega)] at ex1 ex2
    rw [show (5 : Int32) = nI 5 from rfl, rm_n (by omega) (by omega) (by omega)] at ex3
    have f1 : x1 = nI (slf P z) := ex1
    have f2 : x2 = nI (slt P z) := ex2
    have f3 : x3 = nI (slk z) := ex3
    have l1' : slf P z < P := Nat.mod_lt _ e
    have l2' : slt P z < P := Nat.mod_lt _ e
    have l3' : slk z < 5 := Nat.mod_lt _ (by omega)
    have os : ∀ i, i ≠ 1 → s3 i = s i := fun i hi => by rw [o3 i hi, o2 i hi, o1 i hi]
    have hz : sz P z = dz (dz (dz z)) := if_neg (by omega)
    have hR3 : Rs P sp s3 := hR.fr hP (fun i h1 h2 => os i (by omega))
    rw [hz] at h
    rw [f1, f2, f3]
    obtain ⟨⟨v, hv, ev⟩, sv⟩ := hR3 _ _ l1' l3'
    obtain ⟨⟨u, hu, eu⟩, su⟩ := hR3 _ _ l2' l3'
    rw [ev] at sv
    rw [eu] at su
    have fin : ∀ x5 : Int32, x5 = nI (min v (99 - u) / 2) → ((¬ nI (slf P z) = nI (slt P z)) → wp_X7_go (nI (slf P z)) (nI (slt P z)) (nI (slk z)) x5 s3 (fun c_s_92 => Q x5 c_s_92)) ∧ (nI (slf P z) = nI (slt P z) → Q (0 : Int32) s3) := by
      intro x5 e5
      subst e5
      refine ⟨fun d => ?_, fun d => ?_⟩
      · have c : ¬ slf P z = slt P z := fun q => d (by rw [q])
        have g1 : sn P z sp = min v (99 - u) / 2 := by unfold sn; rw [if_neg (by omega), if_neg c, ev, eu, cl (by omega), cl (by omega)]
        have g2 : ssp P z sp = upd (upd sp (5 * slf P z + slk z) (nI (v - min v (99 - u) / 2))) (5 * slt P z + slk z) (nI (u + min v (99 - u) / 2)) := by unfold ssp; rw [if_neg (by omega), if_neg c, g1, ev, eu, cl (by omega), cl (by omega)]
        rw [g1, g2] at h
        refine w7_go (by omega) (by omega) l3' c (by omega) hv (by omega) sv su (h _ ((hR3.put l3' ⟨v - min v (99 - u) / 2, by omega, rfl⟩).put l3' ⟨u + min v (99 - u) / 2, by omega, rfl⟩) ?_ (fun i hi h0 => ?_))
        · rw [un (by omega), un (by omega)]; exact d3
        · rw [un (by omega), un (by omega)]; exact os i h0
      · have c : slf P z = slt P z := (eq_n (by omega) (by omega)).mp d
        have g1 : sn P z sp = 0 := by unfold sn; rw [if_neg (by omega), if_pos c]
        have g2 : ssp P z sp = sp := by unfold ssp; rw [if_neg (by omega), if_pos c]
        rw [g1, g2] at h
        exact h s3 hR3 d3 (fun i _ h0 => os i h0)
    refine w7_has (by omega) l3' (fun x4 e4 => w7_has (by omega) l3' ?_)
    rw [su, show (99 : Int32) = nI 99 from rfl, sb (by omega)] at e4
    rw [sv, e4]
    refine ⟨fun c x5 e5 => fin x5 ?_, fun c => w7_has (by omega) l3' (fun x5 e5 => fin x5 ?_)⟩
    · rw [le_n (by omega) (by omega)] at c
      rw [e5, show (2 : Int32) = nI 2 from rfl, dv (by omega) (by omega) (by omega)]
      congr 2; omega
    · rw [le_n (by omega) (by omega)] at c
      rw [e5, sv, show (2 : Int32) = nI 2 from rfl, dv (by omega) (by omega) (by omega)]
      congr 2; omega
theorem ssp_o {P : Nat} {z : Int32} {sp : V} {j : Nat} (hj : 5 * P ≤ j) : ssp P z sp j = sp j := by
  unfold ssp
  rcases Nat.eq_zero_or_pos P with e | e
  · rw [if_pos e]
  · have l1' : slf P z < P := Nat.mod_lt _ e
    have l2' : slt P z < P := Nat.mod_lt _ e
    have l3' : slk z < 5 := Nat.mod_lt _ (by omega)
    rw [if_neg (by omega)]
    by_cases c : slf P z = slt P z
    · rw [if_pos c]
    · rw [if_neg c, un (by omega), un (by omega)]
/-- the class's run of thefts and years: what was stolen, z, spoons -/
def lzs (P : Nat) (km : V) (n : Int32) (q : V) (Y : Nat) (z : Int32) (sp : V) : Nat → Int32 × Int32 × V
  | 0 => (0, z, sp)
  | i + 1 => ((lzs P km n q Y z sp i).1 + nI (sn P (lzs P km n q Y z sp i).2.1 (lzs P km n q Y z sp i).2.2), sz P (lzs P km n q Y z sp i).2.1, yc km n q (Y + i) (ssp P (lzs P km n q Y z sp i).2.1 (lzs P km n q Y z sp i).2.2) (5 * P))
theorem lzs_o {P : Nat} {km : V} {n : Int32} {q : V} {Y : Nat} {z : Int32} {sp : V} : ∀ (i : Nat) {j : Nat}, 5 * P ≤ j → (lzs P km n q Y z sp i).2.2 j = sp j
  | 0, _, _ => rfl
  | i + 1, j, hj => by
    show yc _ _ _ _ _ _ j = _
    rw [yc_ge hj, ssp_o hj, lzs_o i hj]
section OPS
variable {P Y B w : Nat} {z : Int32} {km fa mo fr sp ow tp tn : V} {tq tk : Nat → V} {wt s e nm pl : V}
theorem op_loose (h : WR P Y B w z km fa mo fr sp ow tp tn tq wt s) (x1 : Int32) (C : Int32 → Int32 → Int32 → V → (Nat → V) → V → Int32 → V → V → V → V → Prop) (hC : ∀ r Y' z' sp' tk' e' s' nm' pl', WR P Y' B w z' km fa mo fr sp' ow tp tn tq wt s' → C r (nI Y') z' sp' tk' e' r s' e' nm' pl') : wp_X6_loose x1 (nI P) (nI Y) z km sp tn tq tk e (fun r y' z' sp' tk' e' => wp_X7_loose x1 s e nm pl (fun r' s' e'' nm' pl' => C r y' z' sp' tk' e' r' s' e'' nm' pl')) := by
  have hg := h.gy
  obtain ⟨⟨a1, a2, a3, a4⟩, ⟨b1, b2, b3, b4, b5⟩, -⟩ := id h
  unfold wp_X6_loose wp_X7_loose
  rcases oneTo x1 (M := 20) (by omega) with ⟨n, hn1, hn, rfl⟩ | hx
  · refine w6_within_in (lo := 1) (hi := 20) (by omega) (by omega) (by omega) (tB ?_)
    refine ⟨fun c => ?_, fun c => w6_e3 (w7_why_3 (M := 20) b2 a2 hn1 hn (by omega) (fun q => c ((nsum (c := 999) (by omega) (by omega) (by omega)).mpr q)) (t3A (w7_e3 (hC _ _ _ _ _ _ _ _ _ h))))⟩
    have hY := (nsum (c := 999) (by omega) (by omega) (by omega)).mp c
    -- the relation at each step, by the model
    refine loop_0 (fun f i (u : (Int32 × Int32 × V) × (Nat → V)) => wp_X6_loose_b41 _ (nI P) km tn tq f (nI n) u.1.1 (nI i) (nI (Y + i)) u.1.2.1 u.1.2.2 u.2 e) (fun i u => u.1 = lzs P km (tn 0) (tq 0) Y z sp i ∧ Rs P u.1.2.2 (fun j => u.1.2.2 (j - 38))) n ((0, z, sp), tk) ⟨rfl, fun p k hp hk => ⟨(hg.2 p k hp hk).1, by show sp _ = sp _; congr 1; omega⟩⟩ ?_ ?_
    · intro f u ⟨eu, _⟩
      unfold wp_X6_loose_b41
      refine ⟨fun _ => w7_why_0 (M := 20) b2 hn1 hn (by omega) hY (tB ?_), fun c2 => absurd ((le_n (by omega) (by omega)).mpr (Nat.le_refl n)) c2⟩
      refine loop_0 (fun f i (t : Int32 × V × V × V) => wp_X7_loose_b23 _ f (nI n) t.1 (nI i) t.2.1 e t.2.2.1 t.2.2.2) (fun i t => t.1 = (lzs P km (tn 0) (tq 0) Y z sp i).1 ∧ t.2.1 1 = (lzs P km (tn 0) (tq 0) Y z sp i).2.1 ∧ GY P (Y + i) km (tn 0) (tq 0) (lzs P km (tn 0) (tq 0) Y z sp i).2.2 t.2.1 ∧ ∀ j, (j < 38 ∨ 78 ≤ j) → j ≠ 0 → j ≠ 1 → t.2.1 j = s j) n (0, s, nm, pl) ⟨rfl, b5, hg, fun j _ _ _ => rfl⟩ ?_ ?_
      · intro f2 t ⟨t0, t1, t2, t3⟩
        unfold wp_X7_loose_b23
        refine ⟨fun _ => ?_, fun c2 => absurd ((le_n (by omega) (by omega)).mpr (Nat.le_refl n)) c2⟩
        rw [eu, t0]
        exact hC _ _ _ _ _ _ _ _ _ (h.yr hY t2 (fun j hj => lzs_o n hj) t1 (fun i g1 g2 g3 => t3 i g1 g2 g3))
      · intro f2 i t hi ⟨t0, t1, t2, t3⟩ ih
        unfold wp_X7_loose_b23
        refine ⟨fun c2 => absurd c2 (nle hi (by omega)), fun _ => w7_steals a1 t2.2 t2.1.2.2.1 t1 (fun s1 g1 g2 g3 => fun y ey => ?_)⟩
        have hg1 : GY P (Y + i) km (tn 0) (tq 0) (ssp P (lzs P km (tn 0) (tq 0) Y z sp i).2.1 (lzs P km (tn 0) (tq 0) Y z sp i).2.2) s1 := by
          obtain ⟨⟨k1, k2, k3, k4, k5, k6⟩, k7⟩ := t2
          exact ⟨⟨k1, k2, by rw [g3 4 (by omega) (by omega)]; exact k3, by rw [g3 0 (by omega) (by omega)]; exact k4, k5.fr k1 (fun i h1 h2 => g3 i (by omega) (by omega)), k6.fr (by omega) (fun i h1 h2 => g3 i (by omega) (by omega))⟩, g1⟩
        refine w7_yearR hg1 (by omega) (fun s' nm' pl' g4 g5 => fun y2 ey2 => ?_)
        rw [ey2, i1, ey]
        refine ih (_, s', nm', pl') ⟨by rw [t0]; rfl, ?_, g4, fun j q1 q2 q3 => ?_⟩
        · show s' 1 = _
          rw [g5 1 (by omega) (by omega), g2]; rfl
        · show s' j = _
          rw [g5 j q1 q2, g3 j q1 q3, t3 j q1 q2 q3]
    · intro f i u hi ⟨eu, ru⟩ ih
      unfold wp_X6_loose_b41
      refine ⟨fun c2 => absurd c2 (nle hi (by omega)), fun _ => w5_steal a1 ru (fun y ey => w5_goBy (hg.1.at (Y' := Y + i) (by omega)) (fun tk' => fun y2 ey2 => ?_))⟩
      rw [ey2, i1, ey]
      refine ih ((_, _, _), tk') ⟨?_, fun p k hp hk => ⟨?_, ?_⟩⟩
      · rw [eu]; rfl
      · show Bd 99 (yc _ _ _ _ _ _ _)
        rw [yc_lt (by omega)]
        exact hd_bd (hi := 99) (by omega)
      · show yc _ _ _ _ _ _ (38 + 5 * p + k - 38) = yc _ _ _ _ _ _ _
        congr 1; omega
  · refine w6_notWithin (fun c => absurd hx c) (fun _ => tD (w6_e1 (w7_why_1 hx (tD (w7_e1 (hC _ _ _ _ _ _ _ _ _ h))))))
/-! years that are only thought -/
theorem w7_layDown {lD : V} {Q : V → Prop} (h : ∀ g : V, (∀ i, i < 142 → g i = s i) → Q g) : wp_X7_layDown s lD Q := by
  unfold wp_X7_layDown
  refine loop_0 (fun n i (t : V) => wp_X7_layDown_b2 Q s n (nI i) t) (fun i t => ∀ k, k < i → t k = s k) 142 lD (fun k hk => by omega) ?_ ?_
  · intro n t it
    unfold wp_X7_layDown_b2
    exact ⟨fun _ => h t it, fun c => absurd (show (142 : Int32) ≤ nI 142 by decide) c⟩
  · intro n i t hi it ih
    unfold wp_X7_layDown_b2
    refine ⟨fun c => absurd c (nle (a := 142) hi (by omega)), fun _ => ⟨(vi (by omega) (by omega)), (vi (by omega) (by omega)), fun t1 e1 y ey => ?_⟩⟩
    rw [ey, i1]
    rw [cl (by omega)] at e1
    refine ih _ (fun k hk => ?_)
    subst e1
    by_cases g : k = i
    · subst g; exact us
    · rw [un g]; exact it k (by omega)
theorem w7_layBack {s1 lD : V} (hl : ∀ i, i < 142 → lD i = s i) (ho : ∀ i, 142 ≤ i → s1 i = s i) {Q : V → Prop} (h : Q s) : wp_X7_layBack s1 lD Q := by
  unfold wp_X7_layBack
  refine loop_0 (fun n i (t : V) => wp_X7_layBack_b2 Q lD n (nI i) t) (fun i t => (∀ k, k < i → t k = s k) ∧ ∀ k, 142 ≤ k → t k = s k) 142 s1 ⟨fun k hk => by omega, ho⟩ ?_ ?_
  · intro n t ⟨it, io'⟩
    unfold wp_X7_layBack_b2
    have e : t = s := by
      funext k
      rcases Nat.lt_or_ge k 142 with c | c
      · exact it k c
      · exact io' k c
    exact ⟨fun _ => by rw [e]; exact h, fun c => absurd (show (142 : Int32) ≤ nI 142 by decide) c⟩
  · intro n i t hi ⟨it, io'⟩ ih
    unfold wp_X7_layBack_b2
    refine ⟨fun c => absurd c (nle (a := 142) hi (by omega)), fun _ => ⟨(vi (by omega) (by omega)), (vi (by omega) (by omega)), fun t1 e1 y ey => ?_⟩⟩
    rw [ey, i1]
    rw [cl (by omega)] at e1
    refine ih _ ⟨fun k hk => ?_, fun k hk => ?_⟩
    · subst e1
      by_cases g : k = i
      · subst g; rw [us]; exact hl k hi
      · rw [un g]; exact it k (by omega)
    · subst e1
      rw [un (by omega)]; exact io' k hk
theorem ysp_s (i : Nat) {p k : Nat} (hp : p < P) (hk : k < 5) : ysp P km (tn 0) (tq 0) Y sp (i + 1) (5 * p + k) = hd (ysp P km (tn 0) (tq 0) Y sp i (5 * p + k) + gnf km (tn 0) (tq 0) p k (ysp P km (tn 0) (tq 0) Y sp i (5 * p + k)) (Y + i)) 0 99 := by
  rw [ysp, yc_lt (by omega), show (5 * p + k) / 5 = p by omega, show (5 * p + k) % 5 = k by omega]
theorem op_then (h : WR P Y B w z km fa mo fr sp ow tp tn tq wt s) (x1 x2 x3 : Int32) (lD : V) (C : Int32 → (Nat → V) → V → Int32 → V → V → V → V → V → Prop) (hC : ∀ r tk' e' lD' nm' pl', C r tk' e' r s lD' e' nm' pl') : wp_X6_then x1 x2 x3 (nI P) (nI Y) km sp tn tq tk e (fun r tk' e' => wp_X7_then x1 x2 x3 s lD e nm pl (fun r' s' l' e'' nm' pl' => C r tk' e' r' s' l' e'' nm' pl')) := by
  have hg := h.gy
  obtain ⟨⟨a1, a2, a3, a4⟩, ⟨b1, b2, b3, b4, b5⟩, -⟩ := id h
  unfold wp_X6_then wp_X7_then
  rcases io x1 P (by omega) with ⟨p, hp, rfl⟩ | hx
  · rcases io x2 5 (by omega) with ⟨k, hk, rfl⟩ | hy
    · rcases io x3 61 (by omega) with ⟨n, hn, rfl⟩ | hz
      · (repeat (with_reducible (first | refine tA ?_ | refine tB ?_ | refine tC ?_ | refine tD ?_ | refine w6_one_in (by assumption) (by assumption) ?_ | refine w6_one_out (by assumption) (by assumption) ?_ | refine w7_one_in (by assumption) (by assumption) (by assumption) ?_ | refine w7_one_out (by assumption) (by assumption) (by assumption) ?_ | refine w6_two_in (by assumption) (by assumption) (by assumption) (by assumption) ?_ | refine w6_two_out (by assumption) (by assumption) ?_ | refine w7_two_in (by assumption) (by assumption) (by assumption) (by assumption) (by assumption) ?_ | refine w7_two_out (by assumption) (by assumption) (by assumption) ?_ | refine w6_sort_in (by assumption) ?_ | refine w6_sort_out (by assumption) ?_ | refine w7_sort_in (by assumption) ?_ | refine w7_sort_out (by assumption) ?_ | refine w6_km_in (by assumption) ?_ | refine w6_km_out (by assumption) ?_ | refine w7_kind_in (by assumption) ?_ | refine w7_kind_out (by assumption) ?_ | refine w6_sheet_in (by assumption) ?_ | refine w6_sheet_out (by assumption) ?_ | refine w7_sheet_in (by assumption) ?_ | refine w7_sheet_out (by assumption) ?_ | refine w6_e1 ?_ | refine w6_e2 ?_ | refine w6_e3 ?_ | refine w6_e4 ?_ | refine w6_e5 ?_ | refine w6_e6 ?_ | refine w7_e1 ?_ | refine w7_e2 ?_ | refine w7_e3 ?_ | refine w7_e4 ?_ | refine w7_e5 ?_ | refine w7_e6 ?_)))
        refine w6_within_in (lo := 0) (hi := 60) (by omega) (by omega) (by omega) (tB ?_)
        unfold wp_X4_later
        refine w6_cell ⟨(vi (by omega) (by omega)), fun x5 e5 => ?_⟩
        rw [cl (by omega)] at e5
        refine loop_0 (fun f i (u : Int32 × (Nat → V)) => wp_X4_later_b15 _ (nI Y) km sp tn tq f (nI p) (nI k) (nI n) u.1 (nI i) u.2) (fun i u => u.1 = ysp P km (tn 0) (tq 0) Y sp i (5 * p + k)) n (x5, tk) e5 ?_ ?_
        · intro f u eu
          unfold wp_X4_later_b15
          refine ⟨fun _ => ?_, fun c2 => absurd ((le_n (by omega) (by omega)).mpr (Nat.le_refl n)) c2⟩
          (repeat (with_reducible (first | refine tA ?_ | refine tB ?_ | refine tC ?_ | refine tD ?_ | refine w6_one_in (by assumption) (by assumption) ?_ | refine w6_one_out (by assumption) (by assumption) ?_ | refine w7_one_in (by assumption) (by assumption) (by assumption) ?_ | refine w7_one_out (by assumption) (by assumption) (by assumption) ?_ | refine w6_two_in (by assumption) (by assumption) (by assumption) (by assumption) ?_ | refine w6_two_out (by assumption) (by assumption) ?_ | refine w7_two_in (by assumption) (by assumption) (by assumption) (by assumption) (by assumption) ?_ | refine w7_two_out (by assumption) (by assumption) (by assumption) ?_ | refine w6_sort_in (by assumption) ?_ | refine w6_sort_out (by assumption) ?_ | refine w7_sort_in (by assumption) ?_ | refine w7_sort_out (by assumption) ?_ | refine w6_km_in (by assumption) ?_ | refine w6_km_out (by assumption) ?_ | refine w7_kind_in (by assumption) ?_ | refine w7_kind_out (by assumption) ?_ | refine w6_sheet_in (by assumption) ?_ | refine w6_sheet_out (by assumption) ?_ | refine w7_sheet_in (by assumption) ?_ | refine w7_sheet_out (by assumption) ?_ | refine w6_e1 ?_ | refine w6_e2 ?_ | refine w6_e3 ?_ | refine w6_e4 ?_ | refine w6_e5 ?_ | refine w6_e6 ?_ | refine w7_e1 ?_ | refine w7_e2 ?_ | refine w7_e3 ?_ | refine w7_e4 ?_ | refine w7_e5 ?_ | refine w7_e6 ?_)))
          refine w7_in_in (lo := 0) (hi := 60) (by omega) (by omega) (by omega) (tC (w7_layDown (fun lD' hl => ?_)))
          refine loop_0 (fun f i (t : V × V × V) => wp_X7_then_b38 _ f (nI p) (nI k) (nI n) (nI i) t.1 lD' e t.2.1 t.2.2) (fun i t => GY P (Y + i) km (tn 0) (tq 0) (ysp P km (tn 0) (tq 0) Y sp i) t.1 ∧ ∀ j, (j < 38 ∨ 78 ≤ j) → j ≠ 0 → t.1 j = s j) n (s, nm, pl) ⟨hg, fun j _ _ => rfl⟩ ?_ ?_
          · intro f2 t ⟨t1, t2⟩
            unfold wp_X7_then_b38
            refine ⟨fun _ => w7_has (by omega) hk (w7_layBack hl (fun i hi => t2 i (by omega) (by omega)) ?_), fun c2 => absurd ((le_n (by omega) (by omega)).mpr (Nat.le_refl n)) c2⟩
            rw [(t1.2 p k hp hk).2, eu]
            exact hC _ _ _ _ _ _
          · intro f2 i t hi ⟨t1, t2⟩ ih
            unfold wp_X7_then_b38
            refine ⟨fun c2 => absurd c2 (nle hi (by omega)), fun _ => w7_yearR t1 (by omega) (fun s' nm' pl' g1 g2 => fun y ey => ?_)⟩
            rw [ey, i1]
            exact ih (s', nm', pl') ⟨g1, fun j q1 q2 => (g2 j q1 q2).trans (t2 j q1 q2)⟩
        · intro f i u hi eu ih
          unfold wp_X4_later_b15
          rw [ad]
          refine ⟨fun c2 => absurd c2 (nle hi (by omega)), fun _ => w5_gainOf (hg.1.at (Y' := Y + i) (by omega)) hp hk (fun tk' => w6_held (by decide) (fun y ey => ?_))⟩
          rw [ey, i1]
          refine ih (_, tk') ?_
          show hd _ _ _ = _
          rw [eu, ysp_s i hp hk]
      · (repeat (with_reducible (first | refine tA ?_ | refine tB ?_ | refine tC ?_ | refine tD ?_ | refine w6_one_in (by assumption) (by assumption) ?_ | refine w6_one_out (by assumption) (by assumption) ?_ | refine w7_one_in (by assumption) (by assumption) (by assumption) ?_ | refine w7_one_out (by assumption) (by assumption) (by assumption) ?_ | refine w6_two_in (by assumption) (by assumption) (by assumption) (by assumption) ?_ | refine w6_two_out (by assumption) (by assumption) ?_ | refine w7_two_in (by assumption) (by assumption) (by assumption) (by assumption) (by assumption) ?_ | refine w7_two_out (by assumption) (by assumption) (by assumption) ?_ | refine w6_sort_in (by assumption) ?_ | refine w6_sort_out (by assumption) ?_ | refine w7_sort_in (by assumption) ?_ | refine w7_sort_out (by assumption) ?_ | refine w6_km_in (by assumption) ?_ | refine w6_km_out (by assumption) ?_ | refine w7_kind_in (by assumption) ?_ | refine w7_kind_out (by assumption) ?_ | refine w6_sheet_in (by assumption) ?_ | refine w6_sheet_out (by assumption) ?_ | refine w7_sheet_in (by assumption) ?_ | refine w7_sheet_out (by assumption) ?_ | refine w6_e1 ?_ | refine w6_e2 ?_ | refine w6_e3 ?_ | refine w6_e4 ?_ | refine w6_e5 ?_ | refine w6_e6 ?_ | refine w7_e1 ?_ | refine w7_e2 ?_ | refine w7_e3 ?_ | refine w7_e4 ?_ | refine w7_e5 ?_ | refine w7_e6 ?_)))
        refine w6_within_out (hi := 60) (by omega) hz (tD (w6_e1 ?_))
        (repeat (with_reducible (first | refine tA ?_ | refine tB ?_ | refine tC ?_ | refine tD ?_ | refine w6_one_in (by assumption) (by assumption) ?_ | refine w6_one_out (by assumption) (by assumption) ?_ | refine w7_one_in (by assumption) (by assumption) (by assumption) ?_ | refine w7_one_out (by assumption) (by assumption) (by assumption) ?_ | refine w6_two_in (by assumption) (by assumption) (by assumption) (by assumption) ?_ | refine w6_two_out (by assumption) (by assumption) ?_ | refine w7_two_in (by assumption) (by assumption) (by assumption) (by assumption) (by assumption) ?_ | refine w7_two_out (by assumption) (by assumption) (by assumption) ?_ | refine w6_sort_in (by assumption) ?_ | refine w6_sort_out (by assumption) ?_ | refine w7_sort_in (by assumption) ?_ | refine w7_sort_out (by assumption) ?_ | refine w6_km_in (by assumption) ?_ | refine w6_km_out (by assumption) ?_ | refine w7_kind_in (by assumption) ?_ | refine w7_kind_out (by assumption) ?_ | refine w6_sheet_in (by assumption) ?_ | refine w6_sheet_out (by assumption) ?_ | refine w7_sheet_in (by assumption) ?_ | refine w7_sheet_out (by assumption) ?_ | refine w6_e1 ?_ | refine w6_e2 ?_ | refine w6_e3 ?_ | refine w6_e4 ?_ | refine w6_e5 ?_ | refine w6_e6 ?_ | refine w7_e1 ?_ | refine w7_e2 ?_ | refine w7_e3 ?_ | refine w7_e4 ?_ | refine w7_e5 ?_ | refine w7_e6 ?_)))
        refine w7_in_out (hi := 60) (by omega) hz (tA (w7_e1 ?_))
        exact hC _ _ _ _ _ _
    · (repeat (with_reducible (first | refine tA ?_ | refine tB ?_ | refine tC ?_ | refine tD ?_ | refine w6_one_in (by assumption) (by assumption) ?_ | refine w6_one_out (by assumption) (by assumption) ?_ | refine w7_one_in (by assumption) (by assumption) (by assumption) ?_ | refine w7_one_out (by assumption) (by assumption) (by assumption) ?_ | refine w6_two_in (by assumption) (by assumption) (by assumption) (by assumption) ?_ | refine w6_two_out (by assumption) (by assumption) ?_ | refine w7_two_in (by assumption) (by assumption) (by assumption) (by assumption) (by assumption) ?_ | refine w7_two_out (by assumption) (by assumption) (by assumption) ?_ | refine w6_sort_in (by assumption) ?_ | refine w6_sort_out (by assumption) ?_ | refine w7_sort_in (by assumption) ?_ | refine w7_sort_out (by assumption) ?_ | refine w6_km_in (by assumption) ?_ | refine w6_km_out (by assumption) ?_ | refine w7_kind_in (by assumption) ?_ | refine w7_kind_out (by assumption) ?_ | refine w6_sheet_in (by assumption) ?_ | refine w6_sheet_out (by assumption) ?_ | refine w7_sheet_in (by assumption) ?_ | refine w7_sheet_out (by assumption) ?_ | refine w6_e1 ?_ | refine w6_e2 ?_ | refine w6_e3 ?_ | refine w6_e4 ?_ | refine w6_e5 ?_ | refine w6_e6 ?_ | refine w7_e1 ?_ | refine w7_e2 ?_ | refine w7_e3 ?_ | refine w7_e4 ?_ | refine w7_e5 ?_ | refine w7_e6 ?_)))
      exact hC _ _ _ _ _ _
  · (repeat (with_reducible (first | refine tA ?_ | refine tB ?_ | refine tC ?_ | refine tD ?_ | refine w6_one_in (by assumption) (by assumption) ?_ | refine w6_one_out (by assumption) (by assumption) ?_ | refine w7_one_in (by assumption) (by assumption) (by assumption) ?_ | refine w7_one_out (by assumption) (by assumption) (by assumption) ?_ | refine w6_two_in (by assumption) (by assumption) (by assumption) (by assumption) ?_ | refine w6_two_out (by assumption) (by assumption) ?_ | refine w7_two_in (by assumption) (by assumption) (by assumption) (by assumption) (by assumption) ?_ | refine w7_two_out (by assumption) (by assumption) (by assumption) ?_ | refine w6_sort_in (by assumption) ?_ | refine w6_sort_out (by assumption) ?_ | refine w7_sort_in (by assumption) ?_ | refine w7_sort_out (by assumption) ?_ | refine w6_km_in (by assumption) ?_ | refine w6_km_out (by assumption) ?_ | refine w7_kind_in (by assumption) ?_ | refine w7_kind_out (by assumption) ?_ | refine w6_sheet_in (by assumption) ?_ | refine w6_sheet_out (by assumption) ?_ | refine w7_sheet_in (by assumption) ?_ | refine w7_sheet_out (by assumption) ?_ | refine w6_e1 ?_ | refine w6_e2 ?_ | refine w6_e3 ?_ | refine w6_e4 ?_ | refine w6_e5 ?_ | refine w6_e6 ?_ | refine w7_e1 ?_ | refine w7_e2 ?_ | refine w7_e3 ?_ | refine w7_e4 ?_ | refine w7_e5 ?_ | refine w7_e6 ?_)))
    exact hC _ _ _ _ _ _
end OPS
