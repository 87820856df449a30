/-! voices: both sides by one reckoning of answers and THE TRACE -/
def tr (b : Nat) (u : Nat × V) : Nat × V := if 30 ≤ u.1 then u else (u.1 + 1, upd u.2 u.1 (nI b))
theorem tr_le {b : Nat} {u : Nat × V} (h : u.1 ≤ 30) : (tr b u).1 ≤ 30 := by
  unfold tr
  by_cases c : 30 ≤ u.1
  · rw [if_pos c]; exact h
  · rw [if_neg c]; show u.1 + 1 ≤ 30; omega
theorem w2_begin {b : Nat} {u : Nat × V} (hu : u.1 ≤ 30) {Q : Int32 → V → Prop} (h : Q (nI (tr b u).1) (tr b u).2) : wp_X2_begin (nI b) (nI u.1) u.2 Q := by
  unfold wp_X2_begin
  unfold tr at h
  by_cases c : 30 ≤ u.1
  · rw [if_pos c] at h
    exact ⟨fun _ => h, fun q => absurd ((le_n (a := 30) (by omega) (by omega)).mpr c) q⟩
  · rw [if_neg c] at h
    refine ⟨fun q => absurd q (nle (a := 30) (by omega) (by omega)), fun _ => ⟨vi (by omega) (by omega), fun f ef y ey => ?_⟩⟩
    rw [ey, i1, ef, cl (by omega)]; exact h
theorem w7_starts {b : Nat} {u : Nat × V} (hu : u.1 ≤ 30) {Q : Int32 → V → Prop} (h : Q (nI (tr b u).1) (tr b u).2) : wp_X7_starts (nI b) (nI u.1) u.2 Q := by
  unfold wp_X7_starts
  unfold tr at h
  by_cases c : 30 ≤ u.1
  · rw [if_pos c] at h
    exact ⟨fun _ => h, fun q => absurd ((le_n (a := 30) (by omega) (by omega)).mpr c) q⟩
  · rw [if_neg c] at h
    refine ⟨fun q => absurd q (nle (a := 30) (by omega) (by omega)), fun _ => ⟨vi (by omega) (by omega), fun f ef y ey => ?_⟩⟩
    rw [ey, i1, ef, cl (by omega)]; exact h
def vW0 (k x : Int32) (u : Nat × V) : Int32 × Nat × V := (x + k, tr 10 u)
def vW1 (k x : Int32) (u : Nat × V) : Int32 × Nat × V := ((vW0 k x (tr 20 u)).1 - 4, (vW0 k x (tr 20 u)).2)
def vW4 (k x : Int32) (u : Nat × V) : Int32 × Nat × V := ((vW1 k x (tr 50 u)).1 * 3, (vW1 k x (tr 50 u)).2)
def vW6 (u : Nat × V) : Int32 × Nat × V := (9, tr 70 u)
def vW (k : Int32) (L : Nat) (x : Int32) (u : Nat × V) : Int32 × Nat × V := if L = 1 then vW1 k x u else if L = 4 then vW4 k x u else if L = 6 then vW6 u else vW0 k x u
def vR0 (k : Int32) (K : Nat) (x : Int32) (u : Nat × V) : Int32 × Nat × V := ((vW k K x (tr 11 u)).1 * 2, (vW k K x (tr 11 u)).2)
def vR2 (k : Int32) (K : Nat) (x : Int32) (u : Nat × V) : Int32 × Nat × V := (0 - (vR0 k K x (tr 30 u)).1, (vR0 k K x (tr 30 u)).2)
def vR5 (k : Int32) (K : Nat) (x : Int32) (u : Nat × V) : Int32 × Nat × V := vR2 k K (x + 1) (tr 60 u)
def vR6 (k m : Int32) (K : Nat) (x : Int32) (u : Nat × V) : Int32 × Nat × V := ((vR0 k K x (tr 71 u)).1 + m, (vR0 k K x (tr 71 u)).2)
def vR (k m : Int32) (K L : Nat) (x : Int32) (u : Nat × V) : Int32 × Nat × V := if L = 2 then vR2 k K x u else if L = 5 then vR5 k K x u else if L = 6 then vR6 k m K x u else vR0 k K x u
def vA0 (k m : Int32) (K : Nat) (x : Int32) (u : Nat × V) : Int32 × Nat × V := ((vR k m K K x (tr 12 u)).1 - m, (vR k m K K x (tr 12 u)).2)
def vA3 (k m : Int32) (K : Nat) (x : Int32) (u : Nat × V) : Int32 × Nat × V := vA0 k m K (x / 2) (tr 40 u)
def vA4 (k m : Int32) (K : Nat) (x : Int32) (u : Nat × V) : Int32 × Nat × V := ((vA0 k m K x (tr 51 u)).1 ^^^ k, (vA0 k m K x (tr 51 u)).2)
def vA (k m : Int32) (K L : Nat) (x : Int32) (u : Nat × V) : Int32 × Nat × V := if L = 3 then vA3 k m K x u else if L = 4 then vA4 k m K x u else vA0 k m K x u
def vP0 (k m x : Int32) (u : Nat × V) : Int32 × Nat × V := (if m - k = 0 then 0 else x / (m - k), tr 13 u)
def vP1 (k m : Int32) (K : Nat) (x : Int32) (u : Nat × V) : Int32 × Nat × V := if m - k = 0 then (0, tr 13 (tr 21 u)) else (x / (m - k) + (vR k m K K 1 (tr 13 (tr 21 u))).1, (vR k m K K 1 (tr 13 (tr 21 u))).2)
def vP (k m : Int32) (K L : Nat) (x : Int32) (u : Nat × V) : Int32 × Nat × V := if L = 1 ∨ L = 4 then vP1 k m K x u else vP0 k m x u
def pt (k m : Int32) : Int32 := if m - k = 0 then 1 else 0
theorem vW_le {k : Int32} {L : Nat} {x : Int32} {u : Nat × V} (h : u.1 ≤ 30) : (vW k L x u).2.1 ≤ 30 := by
  unfold vW
  split
  · exact tr_le (tr_le h)
  · split
    · exact tr_le (tr_le (tr_le h))
    · split
      · exact tr_le h
      · exact tr_le h
theorem vR0_le {k : Int32} {K : Nat} {x : Int32} {u : Nat × V} (h : u.1 ≤ 30) : (vR0 k K x u).2.1 ≤ 30 := vW_le (tr_le h)
theorem vR_le {k m : Int32} {K L : Nat} {x : Int32} {u : Nat × V} (h : u.1 ≤ 30) : (vR k m K L x u).2.1 ≤ 30 := by
  unfold vR
  split
  · exact vR0_le (tr_le h)
  · split
    · exact vR0_le (tr_le (tr_le h))
    · split
      · exact vR0_le (tr_le h)
      · exact vR0_le h
theorem vA0_le {k m : Int32} {K : Nat} {x : Int32} {u : Nat × V} (h : u.1 ≤ 30) : (vA0 k m K x u).2.1 ≤ 30 := vR_le (tr_le h)
theorem vA_le {k m : Int32} {K L : Nat} {x : Int32} {u : Nat × V} (h : u.1 ≤ 30) : (vA k m K L x u).2.1 ≤ 30 := by
  unfold vA
  split
  · exact vA0_le (tr_le h)
  · split
    · exact vA0_le (tr_le h)
    · exact vA0_le h
theorem vP_le {k m : Int32} {K L : Nat} {x : Int32} {u : Nat × V} (h : u.1 ≤ 30) : (vP k m K L x u).2.1 ≤ 30 := by
  unfold vP
  split
  · unfold vP1
    split
    · exact tr_le (tr_le h)
    · exact vR_le (tr_le (tr_le h))
  · exact tr_le h
section SAY
variable {k m own x : Int32} {u : Nat × V} {Q : Int32 → Int32 → Int32 → V → Prop}
theorem sy_here {d n i v L b dep : Nat} {A : Int32} (hv : v < 4) (hL : L < 7) (hi : i < 7) (hd : dep < 20) (hu : u.1 ≤ 30) (hb : cBo (nI (4 * L + v)) = nI b) (nb : ¬ nI b = 0) (hA : cAb (nI L) = A) (h : wp_X2_worked d (nI b) A x (nI (dep + 1)) (nI (tr b u).1) 0 k m own (tr b u).2 Q) : wp_X2_say_b15 (wp_X2_say d) (wp_X2_worked d) Q k m own (n + 1) (nI v) x (nI dep) (nI L) (nI i) (nI u.1) 0 u.2 := by
  have ix : nI L * 4 + nI v = nI (4 * L + v) := by rw [show (4 : Int32) = nI 4 from rfl, ml, ad, Nat.mul_comm L 4]
  have hit : wp_X2_say_b54 (wp_X2_say d) (wp_X2_worked d) Q k m own (nI v) x (nI dep) (nI L) (nI u.1) 0 u.2 := by
    unfold wp_X2_say_b54
    rw [ix, hb, hA]
    refine ⟨fun c => absurd c (nlt (b := 0) (by omega) (by omega)), fun _ => ⟨fun _ => ⟨vi (by omega) (by omega), fun x6 e6 => ?_⟩, fun c => absurd ((lt_n (b := 20) (by omega) (by omega)).mpr hd) c⟩⟩
    rw [e6]
    refine w2_begin hu ⟨vi hL (by omega), ?_⟩
    rw [i1]; exact h
  unfold wp_X2_say_b15
  rw [ix, hb]
  exact ⟨fun _ => hit, fun _ => ⟨fun _ => hit, fun _ => ⟨vi (by omega) (by omega), fun _ => hit, fun c => absurd c nb⟩⟩⟩
theorem sy_up {d n i v L M dep : Nat} (hv : v < 4) (hL : L < 7) (hi : i < 7) (hb : cBo (nI (4 * L + v)) = 0) (hA : cAb (nI L) = nI M) (h : wp_X2_say_b15 (wp_X2_say d) (wp_X2_worked d) Q k m own n (nI v) x (nI dep) (nI M) (nI (i + 1)) (nI u.1) 0 u.2) : wp_X2_say_b15 (wp_X2_say d) (wp_X2_worked d) Q k m own (n + 1) (nI v) x (nI dep) (nI L) (nI i) (nI u.1) 0 u.2 := by
  have ix : nI L * 4 + nI v = nI (4 * L + v) := by rw [show (4 : Int32) = nI 4 from rfl, ml, ad, Nat.mul_comm L 4]
  unfold wp_X2_say_b15
  rw [ix, hb, hA]
  refine ⟨fun c => absurd c (nle (a := 7) hi (by omega)), fun _ => ⟨fun c => absurd c (nlt (b := 0) (by omega) (by omega)), fun _ => ⟨vi (by omega) (by omega), fun c => absurd rfl c, fun _ => ⟨vi hL (by omega), fun y ey y2 ey2 => ?_⟩⟩⟩⟩
  rw [ey, ey2, i1]; exact h
theorem sy_0_0 {d dep : Nat} (hd : dep < 20) (hu : u.1 ≤ 30) (h : wp_X2_worked d (nI 10) (-1) x (nI (dep + 1)) (nI (tr 10 u).1) 0 k m own (tr 10 u).2 Q) : wp_X2_say (d + 1) (nI 0) (nI 0) x (nI dep) (nI u.1) 0 k m own u.2 Q := by
  rw [wp_X2_say_s]
  unfold ws_X2_say
  exact tB ⟨1, sy_here (v := 0) (L := 0) (i := 0) (b := 10) (n := 0) (by omega) (by omega) (by omega) hd hu (by decide) (by decide) (by decide) h⟩
theorem sy_0_1 {d dep : Nat} (hd : dep < 20) (hu : u.1 ≤ 30) (h : wp_X2_worked d (nI 20) (nI 0) x (nI (dep + 1)) (nI (tr 20 u).1) 0 k m own (tr 20 u).2 Q) : wp_X2_say (d + 1) (nI 0) (nI 1) x (nI dep) (nI u.1) 0 k m own u.2 Q := by
  rw [wp_X2_say_s]
  unfold ws_X2_say
  exact tB ⟨1, sy_here (v := 0) (L := 1) (i := 0) (b := 20) (n := 0) (by omega) (by omega) (by omega) hd hu (by decide) (by decide) (by decide) h⟩
theorem sy_0_2 {d dep : Nat} (hd : dep < 20) (hu : u.1 ≤ 30) (h : wp_X2_worked d (nI 10) (-1) x (nI (dep + 1)) (nI (tr 10 u).1) 0 k m own (tr 10 u).2 Q) : wp_X2_say (d + 1) (nI 0) (nI 2) x (nI dep) (nI u.1) 0 k m own u.2 Q := by
  rw [wp_X2_say_s]
  unfold ws_X2_say
  exact tB ⟨2, sy_up (v := 0) (L := 2) (M := 0) (i := 0) (by omega) (by omega) (by omega) (by decide) (by decide) (sy_here (v := 0) (L := 0) (i := 1) (b := 10) (n := 0) (by omega) (by omega) (by omega) hd hu (by decide) (by decide) (by decide) h)⟩
theorem sy_0_3 {d dep : Nat} (hd : dep < 20) (hu : u.1 ≤ 30) (h : wp_X2_worked d (nI 10) (-1) x (nI (dep + 1)) (nI (tr 10 u).1) 0 k m own (tr 10 u).2 Q) : wp_X2_say (d + 1) (nI 0) (nI 3) x (nI dep) (nI u.1) 0 k m own u.2 Q := by
  rw [wp_X2_say_s]
  unfold ws_X2_say
  exact tB ⟨2, sy_up (v := 0) (L := 3) (M := 0) (i := 0) (by omega) (by omega) (by omega) (by decide) (by decide) (sy_here (v := 0) (L := 0) (i := 1) (b := 10) (n := 0) (by omega) (by omega) (by omega) hd hu (by decide) (by decide) (by decide) h)⟩
theorem sy_0_4 {d dep : Nat} (hd : dep < 20) (hu : u.1 ≤ 30) (h : wp_X2_worked d (nI 50) (nI 1) x (nI (dep + 1)) (nI (tr 50 u).1) 0 k m own (tr 50 u).2 Q) : wp_X2_say (d + 1) (nI 0) (nI 4) x (nI dep) (nI u.1) 0 k m own u.2 Q := by
  rw [wp_X2_say_s]
  unfold ws_X2_say
  exact tB ⟨1, sy_here (v := 0) (L := 4) (i := 0) (b := 50) (n := 0) (by omega) (by omega) (by omega) hd hu (by decide) (by decide) (by decide) h⟩
theorem sy_0_5 {d dep : Nat} (hd : dep < 20) (hu : u.1 ≤ 30) (h : wp_X2_worked d (nI 10) (-1) x (nI (dep + 1)) (nI (tr 10 u).1) 0 k m own (tr 10 u).2 Q) : wp_X2_say (d + 1) (nI 0) (nI 5) x (nI dep) (nI u.1) 0 k m own u.2 Q := by
  rw [wp_X2_say_s]
  unfold ws_X2_say
  exact tB ⟨3, sy_up (v := 0) (L := 5) (M := 2) (i := 0) (by omega) (by omega) (by omega) (by decide) (by decide) (sy_up (v := 0) (L := 2) (M := 0) (i := 1) (by omega) (by omega) (by omega) (by decide) (by decide) (sy_here (v := 0) (L := 0) (i := 2) (b := 10) (n := 0) (by omega) (by omega) (by omega) hd hu (by decide) (by decide) (by decide) h))⟩
theorem sy_0_6 {d dep : Nat} (hd : dep < 20) (hu : u.1 ≤ 30) (h : wp_X2_worked d (nI 70) (nI 0) x (nI (dep + 1)) (nI (tr 70 u).1) 0 k m own (tr 70 u).2 Q) : wp_X2_say (d + 1) (nI 0) (nI 6) x (nI dep) (nI u.1) 0 k m own u.2 Q := by
  rw [wp_X2_say_s]
  unfold ws_X2_say
  exact tB ⟨1, sy_here (v := 0) (L := 6) (i := 0) (b := 70) (n := 0) (by omega) (by omega) (by omega) hd hu (by decide) (by decide) (by decide) h⟩
theorem sy_1_0 {d dep : Nat} (hd : dep < 20) (hu : u.1 ≤ 30) (h : wp_X2_worked d (nI 11) (-1) x (nI (dep + 1)) (nI (tr 11 u).1) 0 k m own (tr 11 u).2 Q) : wp_X2_say (d + 1) (nI 1) (nI 0) x (nI dep) (nI u.1) 0 k m own u.2 Q := by
  rw [wp_X2_say_s]
  unfold ws_X2_say
  exact tB ⟨1, sy_here (v := 1) (L := 0) (i := 0) (b := 11) (n := 0) (by omega) (by omega) (by omega) hd hu (by decide) (by decide) (by decide) h⟩
theorem sy_1_1 {d dep : Nat} (hd : dep < 20) (hu : u.1 ≤ 30) (h : wp_X2_worked d (nI 11) (-1) x (nI (dep + 1)) (nI (tr 11 u).1) 0 k m own (tr 11 u).2 Q) : wp_X2_say (d + 1) (nI 1) (nI 1) x (nI dep) (nI u.1) 0 k m own u.2 Q := by
  rw [wp_X2_say_s]
  unfold ws_X2_say
  exact tB ⟨2, sy_up (v := 1) (L := 1) (M := 0) (i := 0) (by omega) (by omega) (by omega) (by decide) (by decide) (sy_here (v := 1) (L := 0) (i := 1) (b := 11) (n := 0) (by omega) (by omega) (by omega) hd hu (by decide) (by decide) (by decide) h)⟩
theorem sy_1_2 {d dep : Nat} (hd : dep < 20) (hu : u.1 ≤ 30) (h : wp_X2_worked d (nI 30) (nI 0) x (nI (dep + 1)) (nI (tr 30 u).1) 0 k m own (tr 30 u).2 Q) : wp_X2_say (d + 1) (nI 1) (nI 2) x (nI dep) (nI u.1) 0 k m own u.2 Q := by
  rw [wp_X2_say_s]
  unfold ws_X2_say
  exact tB ⟨1, sy_here (v := 1) (L := 2) (i := 0) (b := 30) (n := 0) (by omega) (by omega) (by omega) hd hu (by decide) (by decide) (by decide) h⟩
theorem sy_1_3 {d dep : Nat} (hd : dep < 20) (hu : u.1 ≤ 30) (h : wp_X2_worked d (nI 11) (-1) x (nI (dep + 1)) (nI (tr 11 u).1) 0 k m own (tr 11 u).2 Q) : wp_X2_say (d + 1) (nI 1) (nI 3) x (nI dep) (nI u.1) 0 k m own u.2 Q := by
  rw [wp_X2_say_s]
  unfold ws_X2_say
  exact tB ⟨2, sy_up (v := 1) (L := 3) (M := 0) (i := 0) (by omega) (by omega) (by omega) (by decide) (by decide) (sy_here (v := 1) (L := 0) (i := 1) (b := 11) (n := 0) (by omega) (by omega) (by omega) hd hu (by decide) (by decide) (by decide) h)⟩
theorem sy_1_4 {d dep : Nat} (hd : dep < 20) (hu : u.1 ≤ 30) (h : wp_X2_worked d (nI 11) (-1) x (nI (dep + 1)) (nI (tr 11 u).1) 0 k m own (tr 11 u).2 Q) : wp_X2_say (d + 1) (nI 1) (nI 4) x (nI dep) (nI u.1) 0 k m own u.2 Q := by
  rw [wp_X2_say_s]
  unfold ws_X2_say
  exact tB ⟨3, sy_up (v := 1) (L := 4) (M := 1) (i := 0) (by omega) (by omega) (by omega) (by decide) (by decide) (sy_up (v := 1) (L := 1) (M := 0) (i := 1) (by omega) (by omega) (by omega) (by decide) (by decide) (sy_here (v := 1) (L := 0) (i := 2) (b := 11) (n := 0) (by omega) (by omega) (by omega) hd hu (by decide) (by decide) (by decide) h))⟩
theorem sy_1_5 {d dep : Nat} (hd : dep < 20) (hu : u.1 ≤ 30) (h : wp_X2_worked d (nI 60) (nI 2) x (nI (dep + 1)) (nI (tr 60 u).1) 0 k m own (tr 60 u).2 Q) : wp_X2_say (d + 1) (nI 1) (nI 5) x (nI dep) (nI u.1) 0 k m own u.2 Q := by
  rw [wp_X2_say_s]
  unfold ws_X2_say
  exact tB ⟨1, sy_here (v := 1) (L := 5) (i := 0) (b := 60) (n := 0) (by omega) (by omega) (by omega) hd hu (by decide) (by decide) (by decide) h⟩
theorem sy_1_6 {d dep : Nat} (hd : dep < 20) (hu : u.1 ≤ 30) (h : wp_X2_worked d (nI 71) (nI 0) x (nI (dep + 1)) (nI (tr 71 u).1) 0 k m own (tr 71 u).2 Q) : wp_X2_say (d + 1) (nI 1) (nI 6) x (nI dep) (nI u.1) 0 k m own u.2 Q := by
  rw [wp_X2_say_s]
  unfold ws_X2_say
  exact tB ⟨1, sy_here (v := 1) (L := 6) (i := 0) (b := 71) (n := 0) (by omega) (by omega) (by omega) hd hu (by decide) (by decide) (by decide) h⟩
theorem sy_2_0 {d dep : Nat} (hd : dep < 20) (hu : u.1 ≤ 30) (h : wp_X2_worked d (nI 12) (-1) x (nI (dep + 1)) (nI (tr 12 u).1) 0 k m own (tr 12 u).2 Q) : wp_X2_say (d + 1) (nI 2) (nI 0) x (nI dep) (nI u.1) 0 k m own u.2 Q := by
  rw [wp_X2_say_s]
  unfold ws_X2_say
  exact tB ⟨1, sy_here (v := 2) (L := 0) (i := 0) (b := 12) (n := 0) (by omega) (by omega) (by omega) hd hu (by decide) (by decide) (by decide) h⟩
theorem sy_2_1 {d dep : Nat} (hd : dep < 20) (hu : u.1 ≤ 30) (h : wp_X2_worked d (nI 12) (-1) x (nI (dep + 1)) (nI (tr 12 u).1) 0 k m own (tr 12 u).2 Q) : wp_X2_say (d + 1) (nI 2) (nI 1) x (nI dep) (nI u.1) 0 k m own u.2 Q := by
  rw [wp_X2_say_s]
  unfold ws_X2_say
  exact tB ⟨2, sy_up (v := 2) (L := 1) (M := 0) (i := 0) (by omega) (by omega) (by omega) (by decide) (by decide) (sy_here (v := 2) (L := 0) (i := 1) (b := 12) (n := 0) (by omega) (by omega) (by omega) hd hu (by decide) (by decide) (by decide) h)⟩
theorem sy_2_2 {d dep : Nat} (hd : dep < 20) (hu : u.1 ≤ 30) (h : wp_X2_worked d (nI 12) (-1) x (nI (dep + 1)) (nI (tr 12 u).1) 0 k m own (tr 12 u).2 Q) : wp_X2_say (d + 1) (nI 2) (nI 2) x (nI dep) (nI u.1) 0 k m own u.2 Q := by
  rw [wp_X2_say_s]
  unfold ws_X2_say
  exact tB ⟨2, sy_up (v := 2) (L := 2) (M := 0) (i := 0) (by omega) (by omega) (by omega) (by decide) (by decide) (sy_here (v := 2) (L := 0) (i := 1) (b := 12) (n := 0) (by omega) (by omega) (by omega) hd hu (by decide) (by decide) (by decide) h)⟩
theorem sy_2_3 {d dep : Nat} (hd : dep < 20) (hu : u.1 ≤ 30) (h : wp_X2_worked d (nI 40) (nI 0) x (nI (dep + 1)) (nI (tr 40 u).1) 0 k m own (tr 40 u).2 Q) : wp_X2_say (d + 1) (nI 2) (nI 3) x (nI dep) (nI u.1) 0 k m own u.2 Q := by
  rw [wp_X2_say_s]
  unfold ws_X2_say
  exact tB ⟨1, sy_here (v := 2) (L := 3) (i := 0) (b := 40) (n := 0) (by omega) (by omega) (by omega) hd hu (by decide) (by decide) (by decide) h⟩
theorem sy_2_4 {d dep : Nat} (hd : dep < 20) (hu : u.1 ≤ 30) (h : wp_X2_worked d (nI 51) (nI 1) x (nI (dep + 1)) (nI (tr 51 u).1) 0 k m own (tr 51 u).2 Q) : wp_X2_say (d + 1) (nI 2) (nI 4) x (nI dep) (nI u.1) 0 k m own u.2 Q := by
  rw [wp_X2_say_s]
  unfold ws_X2_say
  exact tB ⟨1, sy_here (v := 2) (L := 4) (i := 0) (b := 51) (n := 0) (by omega) (by omega) (by omega) hd hu (by decide) (by decide) (by decide) h⟩
theorem sy_2_5 {d dep : Nat} (hd : dep < 20) (hu : u.1 ≤ 30) (h : wp_X2_worked d (nI 12) (-1) x (nI (dep + 1)) (nI (tr 12 u).1) 0 k m own (tr 12 u).2 Q) : wp_X2_say (d + 1) (nI 2) (nI 5) x (nI dep) (nI u.1) 0 k m own u.2 Q := by
  rw [wp_X2_say_s]
  unfold ws_X2_say
  exact tB ⟨3, sy_up (v := 2) (L := 5) (M := 2) (i := 0) (by omega) (by omega) (by omega) (by decide) (by decide) (sy_up (v := 2) (L := 2) (M := 0) (i := 1) (by omega) (by omega) (by omega) (by decide) (by decide) (sy_here (v := 2) (L := 0) (i := 2) (b := 12) (n := 0) (by omega) (by omega) (by omega) hd hu (by decide) (by decide) (by decide) h))⟩
theorem sy_2_6 {d dep : Nat} (hd : dep < 20) (hu : u.1 ≤ 30) (h : wp_X2_worked d (nI 12) (-1) x (nI (dep + 1)) (nI (tr 12 u).1) 0 k m own (tr 12 u).2 Q) : wp_X2_say (d + 1) (nI 2) (nI 6) x (nI dep) (nI u.1) 0 k m own u.2 Q := by
  rw [wp_X2_say_s]
  unfold ws_X2_say
  exact tB ⟨2, sy_up (v := 2) (L := 6) (M := 0) (i := 0) (by omega) (by omega) (by omega) (by decide) (by decide) (sy_here (v := 2) (L := 0) (i := 1) (b := 12) (n := 0) (by omega) (by omega) (by omega) hd hu (by decide) (by decide) (by decide) h)⟩
theorem sy_3_0 {d dep : Nat} (hd : dep < 20) (hu : u.1 ≤ 30) (h : wp_X2_worked d (nI 13) (-1) x (nI (dep + 1)) (nI (tr 13 u).1) 0 k m own (tr 13 u).2 Q) : wp_X2_say (d + 1) (nI 3) (nI 0) x (nI dep) (nI u.1) 0 k m own u.2 Q := by
  rw [wp_X2_say_s]
  unfold ws_X2_say
  exact tB ⟨1, sy_here (v := 3) (L := 0) (i := 0) (b := 13) (n := 0) (by omega) (by omega) (by omega) hd hu (by decide) (by decide) (by decide) h⟩
theorem sy_3_1 {d dep : Nat} (hd : dep < 20) (hu : u.1 ≤ 30) (h : wp_X2_worked d (nI 21) (nI 0) x (nI (dep + 1)) (nI (tr 21 u).1) 0 k m own (tr 21 u).2 Q) : wp_X2_say (d + 1) (nI 3) (nI 1) x (nI dep) (nI u.1) 0 k m own u.2 Q := by
  rw [wp_X2_say_s]
  unfold ws_X2_say
  exact tB ⟨1, sy_here (v := 3) (L := 1) (i := 0) (b := 21) (n := 0) (by omega) (by omega) (by omega) hd hu (by decide) (by decide) (by decide) h⟩
theorem sy_3_2 {d dep : Nat} (hd : dep < 20) (hu : u.1 ≤ 30) (h : wp_X2_worked d (nI 13) (-1) x (nI (dep + 1)) (nI (tr 13 u).1) 0 k m own (tr 13 u).2 Q) : wp_X2_say (d + 1) (nI 3) (nI 2) x (nI dep) (nI u.1) 0 k m own u.2 Q := by
  rw [wp_X2_say_s]
  unfold ws_X2_say
  exact tB ⟨2, sy_up (v := 3) (L := 2) (M := 0) (i := 0) (by omega) (by omega) (by omega) (by decide) (by decide) (sy_here (v := 3) (L := 0) (i := 1) (b := 13) (n := 0) (by omega) (by omega) (by omega) hd hu (by decide) (by decide) (by decide) h)⟩
theorem sy_3_3 {d dep : Nat} (hd : dep < 20) (hu : u.1 ≤ 30) (h : wp_X2_worked d (nI 13) (-1) x (nI (dep + 1)) (nI (tr 13 u).1) 0 k m own (tr 13 u).2 Q) : wp_X2_say (d + 1) (nI 3) (nI 3) x (nI dep) (nI u.1) 0 k m own u.2 Q := by
  rw [wp_X2_say_s]
  unfold ws_X2_say
  exact tB ⟨2, sy_up (v := 3) (L := 3) (M := 0) (i := 0) (by omega) (by omega) (by omega) (by decide) (by decide) (sy_here (v := 3) (L := 0) (i := 1) (b := 13) (n := 0) (by omega) (by omega) (by omega) hd hu (by decide) (by decide) (by decide) h)⟩
theorem sy_3_4 {d dep : Nat} (hd : dep < 20) (hu : u.1 ≤ 30) (h : wp_X2_worked d (nI 21) (nI 0) x (nI (dep + 1)) (nI (tr 21 u).1) 0 k m own (tr 21 u).2 Q) : wp_X2_say (d + 1) (nI 3) (nI 4) x (nI dep) (nI u.1) 0 k m own u.2 Q := by
  rw [wp_X2_say_s]
  unfold ws_X2_say
  exact tB ⟨2, sy_up (v := 3) (L := 4) (M := 1) (i := 0) (by omega) (by omega) (by omega) (by decide) (by decide) (sy_here (v := 3) (L := 1) (i := 1) (b := 21) (n := 0) (by omega) (by omega) (by omega) hd hu (by decide) (by decide) (by decide) h)⟩
theorem sy_3_5 {d dep : Nat} (hd : dep < 20) (hu : u.1 ≤ 30) (h : wp_X2_worked d (nI 13) (-1) x (nI (dep + 1)) (nI (tr 13 u).1) 0 k m own (tr 13 u).2 Q) : wp_X2_say (d + 1) (nI 3) (nI 5) x (nI dep) (nI u.1) 0 k m own u.2 Q := by
  rw [wp_X2_say_s]
  unfold ws_X2_say
  exact tB ⟨3, sy_up (v := 3) (L := 5) (M := 2) (i := 0) (by omega) (by omega) (by omega) (by decide) (by decide) (sy_up (v := 3) (L := 2) (M := 0) (i := 1) (by omega) (by omega) (by omega) (by decide) (by decide) (sy_here (v := 3) (L := 0) (i := 2) (b := 13) (n := 0) (by omega) (by omega) (by omega) hd hu (by decide) (by decide) (by decide) h))⟩
theorem sy_3_6 {d dep : Nat} (hd : dep < 20) (hu : u.1 ≤ 30) (h : wp_X2_worked d (nI 13) (-1) x (nI (dep + 1)) (nI (tr 13 u).1) 0 k m own (tr 13 u).2 Q) : wp_X2_say (d + 1) (nI 3) (nI 6) x (nI dep) (nI u.1) 0 k m own u.2 Q := by
  rw [wp_X2_say_s]
  unfold ws_X2_say
  exact tB ⟨2, sy_up (v := 3) (L := 6) (M := 0) (i := 0) (by omega) (by omega) (by omega) (by decide) (by decide) (sy_here (v := 3) (L := 0) (i := 1) (b := 13) (n := 0) (by omega) (by omega) (by omega) hd hu (by decide) (by decide) (by decide) h)⟩
theorem wk10 {d dep : Nat} {A : Int32}  (h : Q (x + k) (nI u.1) 0 u.2) : wp_X2_worked (d + 1) (nI 10) A x (nI dep) (nI u.1) 0 k m own u.2 Q := by
  rw [wp_X2_worked_s]
  unfold ws_X2_worked
  exact ⟨fun _ => h, fun c => absurd c (by decide), fun c => absurd c (by decide), fun c => absurd c (by decide), fun c => absurd c (by decide), fun c => absurd c (by decide), fun c => absurd c (by decide), fun c => absurd c (by decide), fun c => absurd c (by decide), fun c => absurd c (by decide), fun c => absurd c (by decide), fun c => absurd c (by decide), fun c => absurd c (by decide), fun k10 k11 k12 k13 k20 k21 k30 k40 k50 k51 k60 k70 k71 => absurd rfl k10⟩
theorem wk70 {d dep : Nat} {A : Int32}  (h : Q 9 (nI u.1) 0 u.2) : wp_X2_worked (d + 1) (nI 70) A x (nI dep) (nI u.1) 0 k m own u.2 Q := by
  rw [wp_X2_worked_s]
  unfold ws_X2_worked
  exact ⟨fun c => absurd c (by decide), fun c => absurd c (by decide), fun c => absurd c (by decide), fun c => absurd c (by decide), fun c => absurd c (by decide), fun c => absurd c (by decide), fun c => absurd c (by decide), fun c => absurd c (by decide), fun c => absurd c (by decide), fun c => absurd c (by decide), fun c => absurd c (by decide), fun _ => h, fun c => absurd c (by decide), fun k10 k11 k12 k13 k20 k21 k30 k40 k50 k51 k60 k70 k71 => absurd rfl k70⟩
theorem wk20 {d dep : Nat} (hd : dep < 20) (hu : u.1 ≤ 30) (h : Q ((vW0 k x u).1 - 4) (nI (vW0 k x u).2.1) 0 (vW0 k x u).2.2) : wp_X2_worked (d + 2 + 1) (nI 20) (nI 0) x (nI dep) (nI u.1) 0 k m own u.2 Q := by
  rw [wp_X2_worked_s]
  unfold ws_X2_worked
  exact ⟨fun c => absurd c (by decide), fun c => absurd c (by decide), fun c => absurd c (by decide), fun c => absurd c (by decide), fun _ => sy_0_0 (d := d + 1) hd hu (wk10 (u := tr 10 u) h), fun c => absurd c (by decide), fun c => absurd c (by decide), fun c => absurd c (by decide), fun c => absurd c (by decide), fun c => absurd c (by decide), fun c => absurd c (by decide), fun c => absurd c (by decide), fun c => absurd c (by decide), fun k10 k11 k12 k13 k20 k21 k30 k40 k50 k51 k60 k70 k71 => absurd rfl k20⟩
theorem wk50 {d dep : Nat} (hd : dep < 19) (hu : u.1 ≤ 30) (h : Q ((vW1 k x u).1 * 3) (nI (vW1 k x u).2.1) 0 (vW1 k x u).2.2) : wp_X2_worked (d + 4 + 1) (nI 50) (nI 1) x (nI dep) (nI u.1) 0 k m own u.2 Q := by
  rw [wp_X2_worked_s]
  unfold ws_X2_worked
  exact ⟨fun c => absurd c (by decide), fun c => absurd c (by decide), fun c => absurd c (by decide), fun c => absurd c (by decide), fun c => absurd c (by decide), fun c => absurd c (by decide), fun c => absurd c (by decide), fun c => absurd c (by decide), fun _ => sy_0_1 (d := d + 3) (by omega) hu (wk20 (u := tr 20 u) (by omega) (tr_le hu) h), fun c => absurd c (by decide), fun c => absurd c (by decide), fun c => absurd c (by decide), fun c => absurd c (by decide), fun k10 k11 k12 k13 k20 k21 k30 k40 k50 k51 k60 k70 k71 => absurd rfl k50⟩
theorem cW {d dep L : Nat} (hL : L < 7) (hd : dep < 17) (hu : u.1 ≤ 30) (h : Q (vW k L x u).1 (nI (vW k L x u).2.1) 0 (vW k L x u).2.2) : wp_X2_say (d + 5 + 1) (nI 0) (nI L) x (nI dep) (nI u.1) 0 k m own u.2 Q := by
  rcases (by omega : L = 0 ∨ L = 1 ∨ L = 2 ∨ L = 3 ∨ L = 4 ∨ L = 5 ∨ L = 6) with g | g | g | g | g | g | g <;> subst g
  · exact sy_0_0 (d := d + 5) (by omega) hu (wk10 (d := d + 4) (u := tr 10 u) h)
  · exact sy_0_1 (d := d + 5) (by omega) hu (wk20 (d := d + 2) (u := tr 20 u) (by omega) (tr_le hu) h)
  · exact sy_0_2 (d := d + 5) (by omega) hu (wk10 (d := d + 4) (u := tr 10 u) h)
  · exact sy_0_3 (d := d + 5) (by omega) hu (wk10 (d := d + 4) (u := tr 10 u) h)
  · exact sy_0_4 (d := d + 5) (by omega) hu (wk50 (d := d) (u := tr 50 u) (by omega) (tr_le hu) h)
  · exact sy_0_5 (d := d + 5) (by omega) hu (wk10 (d := d + 4) (u := tr 10 u) h)
  · exact sy_0_6 (d := d + 5) (by omega) hu (wk70 (d := d + 4) (u := tr 70 u) h)
theorem wk11 {d dep : Nat} {A : Int32} {K : Nat} (hK : K < 7) (hd : dep < 17) (hu : u.1 ≤ 30) (h : Q ((vW k K x u).1 * 2) (nI (vW k K x u).2.1) 0 (vW k K x u).2.2) : wp_X2_worked (d + 6 + 1) (nI 11) A x (nI dep) (nI u.1) 0 k m (nI K) u.2 Q := by
  rw [wp_X2_worked_s]
  unfold ws_X2_worked
  exact ⟨fun c => absurd c (by decide), fun _ => cW (d := d) hK hd hu h, fun c => absurd c (by decide), fun c => absurd c (by decide), fun c => absurd c (by decide), fun c => absurd c (by decide), fun c => absurd c (by decide), fun c => absurd c (by decide), fun c => absurd c (by decide), fun c => absurd c (by decide), fun c => absurd c (by decide), fun c => absurd c (by decide), fun c => absurd c (by decide), fun k10 k11 k12 k13 k20 k21 k30 k40 k50 k51 k60 k70 k71 => absurd rfl k11⟩
theorem wk30 {d dep : Nat} {K : Nat} (hK : K < 7) (hd : dep < 16) (hu : u.1 ≤ 30) (h : Q (0 - (vR0 k K x u).1) (nI (vR0 k K x u).2.1) 0 (vR0 k K x u).2.2) : wp_X2_worked (d + 8 + 1) (nI 30) (nI 0) x (nI dep) (nI u.1) 0 k m (nI K) u.2 Q := by
  rw [wp_X2_worked_s]
  unfold ws_X2_worked
  exact ⟨fun c => absurd c (by decide), fun c => absurd c (by decide), fun c => absurd c (by decide), fun c => absurd c (by decide), fun c => absurd c (by decide), fun c => absurd c (by decide), fun _ => sy_1_0 (d := d + 7) (by omega) hu (wk11 (d := d) (u := tr 11 u) hK (by omega) (tr_le hu) h), fun c => absurd c (by decide), fun c => absurd c (by decide), fun c => absurd c (by decide), fun c => absurd c (by decide), fun c => absurd c (by decide), fun c => absurd c (by decide), fun k10 k11 k12 k13 k20 k21 k30 k40 k50 k51 k60 k70 k71 => absurd rfl k30⟩
theorem wk71 {d dep : Nat} {K : Nat} (hK : K < 7) (hd : dep < 16) (hu : u.1 ≤ 30) (h : Q ((vR0 k K x u).1 + m) (nI (vR0 k K x u).2.1) 0 (vR0 k K x u).2.2) : wp_X2_worked (d + 8 + 1) (nI 71) (nI 0) x (nI dep) (nI u.1) 0 k m (nI K) u.2 Q := by
  rw [wp_X2_worked_s]
  unfold ws_X2_worked
  exact ⟨fun c => absurd c (by decide), fun c => absurd c (by decide), fun c => absurd c (by decide), fun c => absurd c (by decide), fun c => absurd c (by decide), fun c => absurd c (by decide), fun c => absurd c (by decide), fun c => absurd c (by decide), fun c => absurd c (by decide), fun c => absurd c (by decide), fun c => absurd c (by decide), fun c => absurd c (by decide), fun _ => sy_1_0 (d := d + 7) (by omega) hu (wk11 (d := d) (u := tr 11 u) hK (by omega) (tr_le hu) h), fun k10 k11 k12 k13 k20 k21 k30 k40 k50 k51 k60 k70 k71 => absurd rfl k71⟩
theorem wk60 {d dep : Nat} {K : Nat} (hK : K < 7) (hd : dep < 15) (hu : u.1 ≤ 30) (h : Q (vR2 k K (x + 1) u).1 (nI (vR2 k K (x + 1) u).2.1) 0 (vR2 k K (x + 1) u).2.2) : wp_X2_worked (d + 10 + 1) (nI 60) (nI 2) x (nI dep) (nI u.1) 0 k m (nI K) u.2 Q := by
  rw [wp_X2_worked_s]
  unfold ws_X2_worked
  exact ⟨fun c => absurd c (by decide), fun c => absurd c (by decide), fun c => absurd c (by decide), fun c => absurd c (by decide), fun c => absurd c (by decide), fun c => absurd c (by decide), fun c => absurd c (by decide), fun c => absurd c (by decide), fun c => absurd c (by decide), fun c => absurd c (by decide), fun _ => sy_1_2 (d := d + 9) (by omega) hu (wk30 (d := d) (u := tr 30 u) hK (by omega) (tr_le hu) h), fun c => absurd c (by decide), fun c => absurd c (by decide), fun k10 k11 k12 k13 k20 k21 k30 k40 k50 k51 k60 k70 k71 => absurd rfl k60⟩
theorem cR {d dep K L : Nat} (hK : K < 7) (hL : L < 7) (hd : dep < 14) (hu : u.1 ≤ 30) (h : Q (vR k m K L x u).1 (nI (vR k m K L x u).2.1) 0 (vR k m K L x u).2.2) : wp_X2_say (d + 11 + 1) (nI 1) (nI L) x (nI dep) (nI u.1) 0 k m (nI K) u.2 Q := by
  rcases (by omega : L = 0 ∨ L = 1 ∨ L = 2 ∨ L = 3 ∨ L = 4 ∨ L = 5 ∨ L = 6) with g | g | g | g | g | g | g <;> subst g
  · exact sy_1_0 (d := d + 11) (by omega) hu (wk11 (d := d + 4) (u := tr 11 u) hK (by omega) (tr_le hu) h)
  · exact sy_1_1 (d := d + 11) (by omega) hu (wk11 (d := d + 4) (u := tr 11 u) hK (by omega) (tr_le hu) h)
  · exact sy_1_2 (d := d + 11) (by omega) hu (wk30 (d := d + 2) (u := tr 30 u) hK (by omega) (tr_le hu) h)
  · exact sy_1_3 (d := d + 11) (by omega) hu (wk11 (d := d + 4) (u := tr 11 u) hK (by omega) (tr_le hu) h)
  · exact sy_1_4 (d := d + 11) (by omega) hu (wk11 (d := d + 4) (u := tr 11 u) hK (by omega) (tr_le hu) h)
  · exact sy_1_5 (d := d + 11) (by omega) hu (wk60 (d := d) (u := tr 60 u) hK (by omega) (tr_le hu) h)
  · exact sy_1_6 (d := d + 11) (by omega) hu (wk71 (d := d + 2) (u := tr 71 u) hK (by omega) (tr_le hu) h)
theorem wk12 {d dep : Nat} {A : Int32} {K : Nat} (hK : K < 7) (hd : dep < 14) (hu : u.1 ≤ 30) (h : Q ((vR k m K K x u).1 - m) (nI (vR k m K K x u).2.1) 0 (vR k m K K x u).2.2) : wp_X2_worked (d + 12 + 1) (nI 12) A x (nI dep) (nI u.1) 0 k m (nI K) u.2 Q := by
  rw [wp_X2_worked_s]
  unfold ws_X2_worked
  exact ⟨fun c => absurd c (by decide), fun c => absurd c (by decide), fun _ => cR (d := d) hK hK hd hu h, fun c => absurd c (by decide), fun c => absurd c (by decide), fun c => absurd c (by decide), fun c => absurd c (by decide), fun c => absurd c (by decide), fun c => absurd c (by decide), fun c => absurd c (by decide), fun c => absurd c (by decide), fun c => absurd c (by decide), fun c => absurd c (by decide), fun k10 k11 k12 k13 k20 k21 k30 k40 k50 k51 k60 k70 k71 => absurd rfl k12⟩
theorem wk40 {d dep : Nat} {K : Nat} (hK : K < 7) (hd : dep < 13) (hu : u.1 ≤ 30) (h : Q (vA0 k m K (x / 2) u).1 (nI (vA0 k m K (x / 2) u).2.1) 0 (vA0 k m K (x / 2) u).2.2) : wp_X2_worked (d + 14 + 1) (nI 40) (nI 0) x (nI dep) (nI u.1) 0 k m (nI K) u.2 Q := by
  rw [wp_X2_worked_s]
  unfold ws_X2_worked
  exact ⟨fun c => absurd c (by decide), fun c => absurd c (by decide), fun c => absurd c (by decide), fun c => absurd c (by decide), fun c => absurd c (by decide), fun c => absurd c (by decide), fun c => absurd c (by decide), fun _ => sy_2_0 (d := d + 13) (by omega) hu (wk12 (d := d) (u := tr 12 u) hK (by omega) (tr_le hu) h), fun c => absurd c (by decide), fun c => absurd c (by decide), fun c => absurd c (by decide), fun c => absurd c (by decide), fun c => absurd c (by decide), fun k10 k11 k12 k13 k20 k21 k30 k40 k50 k51 k60 k70 k71 => absurd rfl k40⟩
theorem wk51 {d dep : Nat} {K : Nat} (hK : K < 7) (hd : dep < 13) (hu : u.1 ≤ 30) (h : Q ((vA0 k m K x u).1 ^^^ k) (nI (vA0 k m K x u).2.1) 0 (vA0 k m K x u).2.2) : wp_X2_worked (d + 14 + 1) (nI 51) (nI 1) x (nI dep) (nI u.1) 0 k m (nI K) u.2 Q := by
  rw [wp_X2_worked_s]
  unfold ws_X2_worked
  exact ⟨fun c => absurd c (by decide), fun c => absurd c (by decide), fun c => absurd c (by decide), fun c => absurd c (by decide), fun c => absurd c (by decide), fun c => absurd c (by decide), fun c => absurd c (by decide), fun c => absurd c (by decide), fun c => absurd c (by decide), fun _ => sy_2_1 (d := d + 13) (by omega) hu (wk12 (d := d) (u := tr 12 u) hK (by omega) (tr_le hu) h), fun c => absurd c (by decide), fun c => absurd c (by decide), fun c => absurd c (by decide), fun k10 k11 k12 k13 k20 k21 k30 k40 k50 k51 k60 k70 k71 => absurd rfl k51⟩
theorem cA {d dep K L : Nat} (hK : K < 7) (hL : L < 7) (hd : dep < 12) (hu : u.1 ≤ 30) (h : Q (vA k m K L x u).1 (nI (vA k m K L x u).2.1) 0 (vA k m K L x u).2.2) : wp_X2_say (d + 15 + 1) (nI 2) (nI L) x (nI dep) (nI u.1) 0 k m (nI K) u.2 Q := by
  rcases (by omega : L = 0 ∨ L = 1 ∨ L = 2 ∨ L = 3 ∨ L = 4 ∨ L = 5 ∨ L = 6) with g | g | g | g | g | g | g <;> subst g
  · exact sy_2_0 (d := d + 15) (by omega) hu (wk12 (d := d + 2) (u := tr 12 u) hK (by omega) (tr_le hu) h)
  · exact sy_2_1 (d := d + 15) (by omega) hu (wk12 (d := d + 2) (u := tr 12 u) hK (by omega) (tr_le hu) h)
  · exact sy_2_2 (d := d + 15) (by omega) hu (wk12 (d := d + 2) (u := tr 12 u) hK (by omega) (tr_le hu) h)
  · exact sy_2_3 (d := d + 15) (by omega) hu (wk40 (d := d) (u := tr 40 u) hK (by omega) (tr_le hu) h)
  · exact sy_2_4 (d := d + 15) (by omega) hu (wk51 (d := d) (u := tr 51 u) hK (by omega) (tr_le hu) h)
  · exact sy_2_5 (d := d + 15) (by omega) hu (wk12 (d := d + 2) (u := tr 12 u) hK (by omega) (tr_le hu) h)
  · exact sy_2_6 (d := d + 15) (by omega) hu (wk12 (d := d + 2) (u := tr 12 u) hK (by omega) (tr_le hu) h)
theorem wdiv {a c : Int32} {R : Int32 → Int32 → Prop} (h0 : c = 0 → R 0 1) (h1 : ¬ c = 0 → R (a / c) 0) : wp_X2_divided a c 0 R := by
  unfold wp_X2_divided
  exact ⟨fun q => ⟨q, h1 q⟩, fun q => h0 q⟩
theorem wk13 {d dep : Nat} {A : Int32}  (h : Q (if m - k = 0 then 0 else x / (m - k)) (nI u.1) (pt k m) u.2) : wp_X2_worked (d + 1) (nI 13) A x (nI dep) (nI u.1) 0 k m own u.2 Q := by
  rw [wp_X2_worked_s]
  unfold ws_X2_worked
  exact ⟨fun c => absurd c (by decide), fun c => absurd c (by decide), fun c => absurd c (by decide), fun _ => wdiv (fun q => by unfold pt at h; rw [if_pos q, if_pos q] at h; exact h) (fun q => by unfold pt at h; rw [if_neg q, if_neg q] at h; exact h), fun c => absurd c (by decide), fun c => absurd c (by decide), fun c => absurd c (by decide), fun c => absurd c (by decide), fun c => absurd c (by decide), fun c => absurd c (by decide), fun c => absurd c (by decide), fun c => absurd c (by decide), fun c => absurd c (by decide), fun k10 k11 k12 k13 k20 k21 k30 k40 k50 k51 k60 k70 k71 => absurd rfl k13⟩
theorem wk21 {d dep K : Nat} (hK : K < 7) (hd : dep < 13) (hu : u.1 ≤ 30) (h0 : m - k = 0 → ∀ r, Q r (nI (tr 13 u).1) 1 (tr 13 u).2) (h1 : ¬ m - k = 0 → Q (x / (m - k) + (vR k m K K 1 (tr 13 u)).1) (nI (vR k m K K 1 (tr 13 u)).2.1) 0 (vR k m K K 1 (tr 13 u)).2.2) : wp_X2_worked (d + 12 + 1) (nI 21) (nI 0) x (nI dep) (nI u.1) 0 k m (nI K) u.2 Q := by
  rw [wp_X2_worked_s]
  unfold ws_X2_worked
  have key : wp_X2_say (d + 12) (nI 3) (nI 0) x (nI dep) (nI u.1) 0 k m (nI K) u.2 (fun r_189 c_begun_189 c_parted_189 c_bodies_189 => wp_X2_say (d + 12) (1 : Int32) (nI K) (1 : Int32) (nI dep) c_begun_189 c_parted_189 k m (nI K) c_bodies_189 (fun r_201 c_begun_201 c_parted_201 c_bodies_201 => Q (r_189 + r_201) c_begun_201 c_parted_201 c_bodies_201)) := by
    refine sy_3_0 (d := d + 11) (by omega) hu (wk13 (d := d + 10) (u := tr 13 u) ?_)
    by_cases q : m - k = 0
    · unfold pt
      rw [if_pos q, if_pos q]
      rw [show d + 12 = d + 11 + 1 from rfl, wp_X2_say_s]
      unfold ws_X2_say
      exact tD (h0 q _)
    · unfold pt
      rw [if_neg q, if_neg q]
      exact cR (d := d) (u := tr 13 u) hK hK (by omega) (tr_le hu) (h1 q)
  exact ⟨fun c => absurd c (by decide), fun c => absurd c (by decide), fun c => absurd c (by decide), fun c => absurd c (by decide), fun c => absurd c (by decide), fun _ => key, fun c => absurd c (by decide), fun c => absurd c (by decide), fun c => absurd c (by decide), fun c => absurd c (by decide), fun c => absurd c (by decide), fun c => absurd c (by decide), fun c => absurd c (by decide), fun k10 k11 k12 k13 k20 k21 k30 k40 k50 k51 k60 k70 k71 => absurd rfl k21⟩
theorem cP {d dep K L : Nat} (hK : K < 7) (hL : L < 7) (hd : dep < 12) (hu : u.1 ≤ 30) (h : ∀ r, (m - k = 0 ∨ r = (vP k m K L x u).1) → Q r (nI (vP k m K L x u).2.1) (pt k m) (vP k m K L x u).2.2) : wp_X2_say (d + 13 + 1) (nI 3) (nI L) x (nI dep) (nI u.1) 0 k m (nI K) u.2 Q := by
  have h13 : (vP k m K L x u = vP0 k m x u) → Q (if m - k = 0 then 0 else x / (m - k)) (nI (tr 13 u).1) (pt k m) (tr 13 u).2 := by
    intro e
    rw [e] at h
    exact h _ (Or.inr rfl)
  have h21 : (vP k m K L x u = vP1 k m K x u) → wp_X2_worked (d + 12 + 1) (nI 21) (nI 0) x (nI (dep + 1)) (nI (tr 21 u).1) 0 k m (nI K) (tr 21 u).2 Q := by
    intro e
    rw [e] at h
    refine wk21 (u := tr 21 u) hK (by omega) (tr_le hu) (fun q r => ?_) (fun q => ?_)
    · have g := h r (Or.inl q)
      unfold vP1 pt at g
      rw [if_pos q, if_pos q] at g
      exact g
    · have g := h _ (Or.inr rfl)
      unfold vP1 pt at g
      rw [if_neg q, if_neg q] at g
      exact g
  rcases (by omega : L = 0 ∨ L = 1 ∨ L = 2 ∨ L = 3 ∨ L = 4 ∨ L = 5 ∨ L = 6) with g | g | g | g | g | g | g <;> subst g
  · exact sy_3_0 (d := d + 13) (by omega) hu (wk13 (d := d + 12) (u := tr 13 u) (h13 rfl))
  · exact sy_3_1 (d := d + 13) (by omega) hu (h21 rfl)
  · exact sy_3_2 (d := d + 13) (by omega) hu (wk13 (d := d + 12) (u := tr 13 u) (h13 rfl))
  · exact sy_3_3 (d := d + 13) (by omega) hu (wk13 (d := d + 12) (u := tr 13 u) (h13 rfl))
  · exact sy_3_4 (d := d + 13) (by omega) hu (h21 rfl)
  · exact sy_3_5 (d := d + 13) (by omega) hu (wk13 (d := d + 12) (u := tr 13 u) (h13 rfl))
  · exact sy_3_6 (d := d + 13) (by omega) hu (wk13 (d := d + 12) (u := tr 13 u) (h13 rfl))
end SAY
section MODEL
variable {k m x : Int32} {p K mm : Nat} {s : V} {u : Nat × V} {Q : Int32 → Int32 → V → Prop}
theorem mW_0 (d : Nat)  (hu : u.1 ≤ 30) (h : Q (vW0 k x u).1 (nI (vW0 k x u).2.1) (vW0 k x u).2.2) : wp_X7_washesAs (d + 1) (nI 0) x (nI u.1) k u.2 Q := by
  rw [wp_X7_washesAs_s]
  unfold ws_X7_washesAs
  exact ⟨fun _ => w7_starts hu h, fun c => absurd c (by decide), fun c => absurd c (by decide), fun c => absurd c (by decide), fun c => absurd c (by decide), fun c => absurd c (by decide), fun c => absurd c (by decide), fun k0 k1 k2 k3 k4 k5 k6 => absurd rfl k0⟩
theorem mW_1 (d : Nat)  (hu : u.1 ≤ 30) (h : Q (vW1 k x u).1 (nI (vW1 k x u).2.1) (vW1 k x u).2.2) : wp_X7_washesAs (d + 1 + 1) (nI 1) x (nI u.1) k u.2 Q := by
  rw [wp_X7_washesAs_s]
  unfold ws_X7_washesAs
  exact ⟨fun c => absurd c (by decide), fun _ => w7_starts hu (ab_0 (K := 1) (by omega) (by omega) (by omega) (mW_0 d (tr_le hu) h)), fun c => absurd c (by decide), fun c => absurd c (by decide), fun c => absurd c (by decide), fun c => absurd c (by decide), fun c => absurd c (by decide), fun k0 k1 k2 k3 k4 k5 k6 => absurd rfl k1⟩
theorem mW_2 (d : Nat)  (hu : u.1 ≤ 30) (h : Q (vW0 k x u).1 (nI (vW0 k x u).2.1) (vW0 k x u).2.2) : wp_X7_washesAs (d + 1 + 1) (nI 2) x (nI u.1) k u.2 Q := by
  rw [wp_X7_washesAs_s]
  unfold ws_X7_washesAs
  exact ⟨fun c => absurd c (by decide), fun c => absurd c (by decide), fun _ => ab_0 (K := 2) (by omega) (by omega) (by omega) (mW_0 d hu h), fun c => absurd c (by decide), fun c => absurd c (by decide), fun c => absurd c (by decide), fun c => absurd c (by decide), fun k0 k1 k2 k3 k4 k5 k6 => absurd rfl k2⟩
theorem mW_3 (d : Nat)  (hu : u.1 ≤ 30) (h : Q (vW0 k x u).1 (nI (vW0 k x u).2.1) (vW0 k x u).2.2) : wp_X7_washesAs (d + 1 + 1) (nI 3) x (nI u.1) k u.2 Q := by
  rw [wp_X7_washesAs_s]
  unfold ws_X7_washesAs
  exact ⟨fun c => absurd c (by decide), fun c => absurd c (by decide), fun c => absurd c (by decide), fun _ => ab_0 (K := 3) (by omega) (by omega) (by omega) (mW_0 d hu h), fun c => absurd c (by decide), fun c => absurd c (by decide), fun c => absurd c (by decide), fun k0 k1 k2 k3 k4 k5 k6 => absurd rfl k3⟩
theorem mW_4 (d : Nat)  (hu : u.1 ≤ 30) (h : Q (vW4 k x u).1 (nI (vW4 k x u).2.1) (vW4 k x u).2.2) : wp_X7_washesAs (d + 1 + 1 + 1) (nI 4) x (nI u.1) k u.2 Q := by
  rw [wp_X7_washesAs_s]
  unfold ws_X7_washesAs
  exact ⟨fun c => absurd c (by decide), fun c => absurd c (by decide), fun c => absurd c (by decide), fun c => absurd c (by decide), fun _ => w7_starts hu (ab_4 (mW_1 d (tr_le hu) h)), fun c => absurd c (by decide), fun c => absurd c (by decide), fun k0 k1 k2 k3 k4 k5 k6 => absurd rfl k4⟩
theorem mW_5 (d : Nat)  (hu : u.1 ≤ 30) (h : Q (vW0 k x u).1 (nI (vW0 k x u).2.1) (vW0 k x u).2.2) : wp_X7_washesAs (d + 1 + 1 + 1) (nI 5) x (nI u.1) k u.2 Q := by
  rw [wp_X7_washesAs_s]
  unfold ws_X7_washesAs
  exact ⟨fun c => absurd c (by decide), fun c => absurd c (by decide), fun c => absurd c (by decide), fun c => absurd c (by decide), fun c => absurd c (by decide), fun _ => ab_5 (mW_2 d hu h), fun c => absurd c (by decide), fun k0 k1 k2 k3 k4 k5 k6 => absurd rfl k5⟩
theorem mW_6 (d : Nat)  (hu : u.1 ≤ 30) (h : Q (vW6 u).1 (nI (vW6 u).2.1) (vW6 u).2.2) : wp_X7_washesAs (d + 1) (nI 6) x (nI u.1) k u.2 Q := by
  rw [wp_X7_washesAs_s]
  unfold ws_X7_washesAs
  exact ⟨fun c => absurd c (by decide), fun c => absurd c (by decide), fun c => absurd c (by decide), fun c => absurd c (by decide), fun c => absurd c (by decide), fun c => absurd c (by decide), fun _ => w7_starts hu h, fun k0 k1 k2 k3 k4 k5 k6 => absurd rfl k6⟩
theorem mW (d : Nat) {L : Nat} (hL : L < 7) (hu : u.1 ≤ 30) (h : Q (vW k L x u).1 (nI (vW k L x u).2.1) (vW k L x u).2.2) : wp_X7_washesAs (d + 1 + 1 + 1) (nI L) x (nI u.1) k u.2 Q := by
  rcases (by omega : L = 0 ∨ L = 1 ∨ L = 2 ∨ L = 3 ∨ L = 4 ∨ L = 5 ∨ L = 6) with g | g | g | g | g | g | g <;> subst g
  · exact mW_0 (d + 1 + 1) hu h
  · exact mW_1 (d + 1) hu h
  · exact mW_2 (d + 1) hu h
  · exact mW_3 (d + 1) hu h
  · exact mW_4 d hu h
  · exact mW_5 d hu h
  · exact mW_6 (d + 1 + 1) hu h
theorem w7_kn (hp : p < 8) (e0 : s (6 + 4 * p + 0) = nI K) {R : Int32 → Prop} (h : R (nI K)) : wp_X7_kindNow (nI p) s R := by
  unfold wp_X7_kindNow
  refine w7_its (k := 0) hp (by omega) ?_
  rw [e0]; exact h
theorem w7_mn (hp : p < 8) (e1 : s (6 + 4 * p + 1) = nI mm) {R : Int32 → Prop} (h : R (nI mm)) : wp_X7_mNow (nI p) s R := by
  unfold wp_X7_mNow
  refine w7_its (k := 1) hp (by omega) ?_
  rw [e1]; exact h
theorem mR_0 (d : Nat) (hp : p < 8) (hK : K < 7) (e0 : s (6 + 4 * p + 0) = nI K) (e1 : s (6 + 4 * p + 1) = nI mm) (hu : u.1 ≤ 30) (h : Q (vR0 (nI p) K x u).1 (nI (vR0 (nI p) K x u).2.1) (vR0 (nI p) K x u).2.2) : wp_X7_wringsAs (d + 1) (nI 0) x (nI u.1) (nI p) s u.2 Q := by
  rw [wp_X7_wringsAs_s]
  unfold ws_X7_wringsAs
  exact ⟨fun _ => w7_starts hu (w7_kn hp e0 (mW 61 hK (tr_le hu) h)), fun c => absurd c (by decide), fun c => absurd c (by decide), fun c => absurd c (by decide), fun c => absurd c (by decide), fun c => absurd c (by decide), fun c => absurd c (by decide), fun k0 k1 k2 k3 k4 k5 k6 => absurd rfl k0⟩
theorem mR_1 (d : Nat) (hp : p < 8) (hK : K < 7) (e0 : s (6 + 4 * p + 0) = nI K) (e1 : s (6 + 4 * p + 1) = nI mm) (hu : u.1 ≤ 30) (h : Q (vR0 (nI p) K x u).1 (nI (vR0 (nI p) K x u).2.1) (vR0 (nI p) K x u).2.2) : wp_X7_wringsAs (d + 1 + 1) (nI 1) x (nI u.1) (nI p) s u.2 Q := by
  rw [wp_X7_wringsAs_s]
  unfold ws_X7_wringsAs
  exact ⟨fun c => absurd c (by decide), fun _ => ab_0 (K := 1) (by omega) (by omega) (by omega) (mR_0 d hp hK e0 e1 hu h), fun c => absurd c (by decide), fun c => absurd c (by decide), fun c => absurd c (by decide), fun c => absurd c (by decide), fun c => absurd c (by decide), fun k0 k1 k2 k3 k4 k5 k6 => absurd rfl k1⟩
theorem mR_3 (d : Nat) (hp : p < 8) (hK : K < 7) (e0 : s (6 + 4 * p + 0) = nI K) (e1 : s (6 + 4 * p + 1) = nI mm) (hu : u.1 ≤ 30) (h : Q (vR0 (nI p) K x u).1 (nI (vR0 (nI p) K x u).2.1) (vR0 (nI p) K x u).2.2) : wp_X7_wringsAs (d + 1 + 1) (nI 3) x (nI u.1) (nI p) s u.2 Q := by
  rw [wp_X7_wringsAs_s]
  unfold ws_X7_wringsAs
  exact ⟨fun c => absurd c (by decide), fun c => absurd c (by decide), fun c => absurd c (by decide), fun _ => ab_0 (K := 3) (by omega) (by omega) (by omega) (mR_0 d hp hK e0 e1 hu h), fun c => absurd c (by decide), fun c => absurd c (by decide), fun c => absurd c (by decide), fun k0 k1 k2 k3 k4 k5 k6 => absurd rfl k3⟩
theorem mR_2 (d : Nat) (hp : p < 8) (hK : K < 7) (e0 : s (6 + 4 * p + 0) = nI K) (e1 : s (6 + 4 * p + 1) = nI mm) (hu : u.1 ≤ 30) (h : Q (vR2 (nI p) K x u).1 (nI (vR2 (nI p) K x u).2.1) (vR2 (nI p) K x u).2.2) : wp_X7_wringsAs (d + 1 + 1) (nI 2) x (nI u.1) (nI p) s u.2 Q := by
  rw [wp_X7_wringsAs_s]
  unfold ws_X7_wringsAs
  exact ⟨fun c => absurd c (by decide), fun c => absurd c (by decide), fun _ => w7_starts hu (ab_0 (K := 2) (by omega) (by omega) (by omega) (mR_0 d hp hK e0 e1 (tr_le hu) h)), fun c => absurd c (by decide), fun c => absurd c (by decide), fun c => absurd c (by decide), fun c => absurd c (by decide), fun k0 k1 k2 k3 k4 k5 k6 => absurd rfl k2⟩
theorem mR_4 (d : Nat) (hp : p < 8) (hK : K < 7) (e0 : s (6 + 4 * p + 0) = nI K) (e1 : s (6 + 4 * p + 1) = nI mm) (hu : u.1 ≤ 30) (h : Q (vR0 (nI p) K x u).1 (nI (vR0 (nI p) K x u).2.1) (vR0 (nI p) K x u).2.2) : wp_X7_wringsAs (d + 1 + 1 + 1) (nI 4) x (nI u.1) (nI p) s u.2 Q := by
  rw [wp_X7_wringsAs_s]
  unfold ws_X7_wringsAs
  exact ⟨fun c => absurd c (by decide), fun c => absurd c (by decide), fun c => absurd c (by decide), fun c => absurd c (by decide), fun _ => ab_4 (mR_1 d hp hK e0 e1 hu h), fun c => absurd c (by decide), fun c => absurd c (by decide), fun k0 k1 k2 k3 k4 k5 k6 => absurd rfl k4⟩
theorem mR_5 (d : Nat) (hp : p < 8) (hK : K < 7) (e0 : s (6 + 4 * p + 0) = nI K) (e1 : s (6 + 4 * p + 1) = nI mm) (hu : u.1 ≤ 30) (h : Q (vR5 (nI p) K x u).1 (nI (vR5 (nI p) K x u).2.1) (vR5 (nI p) K x u).2.2) : wp_X7_wringsAs (d + 1 + 1 + 1) (nI 5) x (nI u.1) (nI p) s u.2 Q := by
  rw [wp_X7_wringsAs_s]
  unfold ws_X7_wringsAs
  exact ⟨fun c => absurd c (by decide), fun c => absurd c (by decide), fun c => absurd c (by decide), fun c => absurd c (by decide), fun c => absurd c (by decide), fun _ => w7_starts hu (ab_5 (mR_2 d hp hK e0 e1 (tr_le hu) h)), fun c => absurd c (by decide), fun k0 k1 k2 k3 k4 k5 k6 => absurd rfl k5⟩
theorem mR_6 (d : Nat) (hp : p < 8) (hK : K < 7) (e0 : s (6 + 4 * p + 0) = nI K) (e1 : s (6 + 4 * p + 1) = nI mm) (hu : u.1 ≤ 30) (h : Q (vR6 (nI p) (nI mm) K x u).1 (nI (vR6 (nI p) (nI mm) K x u).2.1) (vR6 (nI p) (nI mm) K x u).2.2) : wp_X7_wringsAs (d + 1 + 1) (nI 6) x (nI u.1) (nI p) s u.2 Q := by
  rw [wp_X7_wringsAs_s]
  unfold ws_X7_wringsAs
  exact ⟨fun c => absurd c (by decide), fun c => absurd c (by decide), fun c => absurd c (by decide), fun c => absurd c (by decide), fun c => absurd c (by decide), fun c => absurd c (by decide), fun _ => w7_starts hu (ab_0 (K := 6) (by omega) (by omega) (by omega) (mR_0 d hp hK e0 e1 (tr_le hu) (w7_mn hp e1 h))), fun k0 k1 k2 k3 k4 k5 k6 => absurd rfl k6⟩
theorem mR (d : Nat) {L : Nat} (hL : L < 7) (hp : p < 8) (hK : K < 7) (e0 : s (6 + 4 * p + 0) = nI K) (e1 : s (6 + 4 * p + 1) = nI mm) (hu : u.1 ≤ 30) (h : Q (vR (nI p) (nI mm) K L x u).1 (nI (vR (nI p) (nI mm) K L x u).2.1) (vR (nI p) (nI mm) K L x u).2.2) : wp_X7_wringsAs (d + 1 + 1 + 1) (nI L) x (nI u.1) (nI p) s u.2 Q := by
  rcases (by omega : L = 0 ∨ L = 1 ∨ L = 2 ∨ L = 3 ∨ L = 4 ∨ L = 5 ∨ L = 6) with g | g | g | g | g | g | g <;> subst g
  · exact mR_0 (d + 1 + 1) hp hK e0 e1 hu h
  · exact mR_1 (d + 1) hp hK e0 e1 hu h
  · exact mR_2 (d + 1) hp hK e0 e1 hu h
  · exact mR_3 (d + 1) hp hK e0 e1 hu h
  · exact mR_4 d hp hK e0 e1 hu h
  · exact mR_5 d hp hK e0 e1 hu h
  · exact mR_6 (d + 1) hp hK e0 e1 hu h
theorem mA_0 (d : Nat) (hp : p < 8) (hK : K < 7) (e0 : s (6 + 4 * p + 0) = nI K) (e1 : s (6 + 4 * p + 1) = nI mm) (hu : u.1 ≤ 30) (h : Q (vA0 (nI p) (nI mm) K x u).1 (nI (vA0 (nI p) (nI mm) K x u).2.1) (vA0 (nI p) (nI mm) K x u).2.2) : wp_X7_airsAs (d + 1) (nI 0) x (nI u.1) (nI p) s u.2 Q := by
  rw [wp_X7_airsAs_s]
  unfold ws_X7_airsAs
  exact ⟨fun _ => w7_starts hu (w7_kn hp e0 (mR 61 hK hp hK e0 e1 (tr_le hu) (w7_mn hp e1 h))), fun c => absurd c (by decide), fun c => absurd c (by decide), fun c => absurd c (by decide), fun c => absurd c (by decide), fun k0 k1 k2 k3 k4 => absurd rfl k0⟩
theorem mA_1 (d : Nat) (hp : p < 8) (hK : K < 7) (e0 : s (6 + 4 * p + 0) = nI K) (e1 : s (6 + 4 * p + 1) = nI mm) (hu : u.1 ≤ 30) (h : Q (vA0 (nI p) (nI mm) K x u).1 (nI (vA0 (nI p) (nI mm) K x u).2.1) (vA0 (nI p) (nI mm) K x u).2.2) : wp_X7_airsAs (d + 1 + 1) (nI 1) x (nI u.1) (nI p) s u.2 Q := by
  rw [wp_X7_airsAs_s]
  unfold ws_X7_airsAs
  exact ⟨fun c => absurd c (by decide), fun _ => ab_0 (K := 1) (by omega) (by omega) (by omega) (mA_0 d hp hK e0 e1 hu h), fun c => absurd c (by decide), fun c => absurd c (by decide), fun c => absurd c (by decide), fun k0 k1 k2 k3 k4 => absurd rfl k1⟩
theorem mA_2 (d : Nat) (hp : p < 8) (hK : K < 7) (e0 : s (6 + 4 * p + 0) = nI K) (e1 : s (6 + 4 * p + 1) = nI mm) (hu : u.1 ≤ 30) (h : Q (vA0 (nI p) (nI mm) K x u).1 (nI (vA0 (nI p) (nI mm) K x u).2.1) (vA0 (nI p) (nI mm) K x u).2.2) : wp_X7_airsAs (d + 1 + 1) (nI 2) x (nI u.1) (nI p) s u.2 Q := by
  rw [wp_X7_airsAs_s]
  unfold ws_X7_airsAs
  exact ⟨fun c => absurd c (by decide), fun c => absurd c (by decide), fun _ => ab_0 (K := 2) (by omega) (by omega) (by omega) (mA_0 d hp hK e0 e1 hu h), fun c => absurd c (by decide), fun c => absurd c (by decide), fun k0 k1 k2 k3 k4 => absurd rfl k2⟩
theorem mA_3 (d : Nat) (hp : p < 8) (hK : K < 7) (e0 : s (6 + 4 * p + 0) = nI K) (e1 : s (6 + 4 * p + 1) = nI mm) (hu : u.1 ≤ 30) (h : Q (vA3 (nI p) (nI mm) K x u).1 (nI (vA3 (nI p) (nI mm) K x u).2.1) (vA3 (nI p) (nI mm) K x u).2.2) : wp_X7_airsAs (d + 1 + 1) (nI 3) x (nI u.1) (nI p) s u.2 Q := by
  rw [wp_X7_airsAs_s]
  unfold ws_X7_airsAs
  exact ⟨fun c => absurd c (by decide), fun c => absurd c (by decide), fun c => absurd c (by decide), fun _ => w7_starts hu (ab_0 (K := 3) (by omega) (by omega) (by omega) (mA_0 d hp hK e0 e1 (tr_le hu) h)), fun c => absurd c (by decide), fun k0 k1 k2 k3 k4 => absurd rfl k3⟩
theorem mA_4 (d : Nat) (hp : p < 8) (hK : K < 7) (e0 : s (6 + 4 * p + 0) = nI K) (e1 : s (6 + 4 * p + 1) = nI mm) (hu : u.1 ≤ 30) (h : Q (vA4 (nI p) (nI mm) K x u).1 (nI (vA4 (nI p) (nI mm) K x u).2.1) (vA4 (nI p) (nI mm) K x u).2.2) : wp_X7_airsAs (d + 1 + 1 + 1) (nI 4) x (nI u.1) (nI p) s u.2 Q := by
  rw [wp_X7_airsAs_s]
  unfold ws_X7_airsAs
  exact ⟨fun c => absurd c (by decide), fun c => absurd c (by decide), fun c => absurd c (by decide), fun c => absurd c (by decide), fun _ => w7_starts hu (ab_4 (mA_1 d hp hK e0 e1 (tr_le hu) h)), fun k0 k1 k2 k3 k4 => absurd rfl k4⟩
theorem mA_5 (d : Nat) (hp : p < 8) (hK : K < 7) (e0 : s (6 + 4 * p + 0) = nI K) (e1 : s (6 + 4 * p + 1) = nI mm) (hu : u.1 ≤ 30) (h : Q (vA0 (nI p) (nI mm) K x u).1 (nI (vA0 (nI p) (nI mm) K x u).2.1) (vA0 (nI p) (nI mm) K x u).2.2) : wp_X7_airsAs (d + 1 + 1 + 1) (nI 5) x (nI u.1) (nI p) s u.2 Q := by
  rw [wp_X7_airsAs_s]
  unfold ws_X7_airsAs
  exact ⟨fun c => absurd c (by decide), fun c => absurd c (by decide), fun c => absurd c (by decide), fun c => absurd c (by decide), fun c => absurd c (by decide), fun _ _ _ _ _ => ab_5 (mA_2 d hp hK e0 e1 hu h)⟩
theorem mA_6 (d : Nat) (hp : p < 8) (hK : K < 7) (e0 : s (6 + 4 * p + 0) = nI K) (e1 : s (6 + 4 * p + 1) = nI mm) (hu : u.1 ≤ 30) (h : Q (vA0 (nI p) (nI mm) K x u).1 (nI (vA0 (nI p) (nI mm) K x u).2.1) (vA0 (nI p) (nI mm) K x u).2.2) : wp_X7_airsAs (d + 1 + 1) (nI 6) x (nI u.1) (nI p) s u.2 Q := by
  rw [wp_X7_airsAs_s]
  unfold ws_X7_airsAs
  exact ⟨fun c => absurd c (by decide), fun c => absurd c (by decide), fun c => absurd c (by decide), fun c => absurd c (by decide), fun c => absurd c (by decide), fun _ _ _ _ _ => ab_0 (K := 6) (by omega) (by omega) (by omega) (mA_0 d hp hK e0 e1 hu h)⟩
theorem mA (d : Nat) {L : Nat} (hL : L < 7) (hp : p < 8) (hK : K < 7) (e0 : s (6 + 4 * p + 0) = nI K) (e1 : s (6 + 4 * p + 1) = nI mm) (hu : u.1 ≤ 30) (h : Q (vA (nI p) (nI mm) K L x u).1 (nI (vA (nI p) (nI mm) K L x u).2.1) (vA (nI p) (nI mm) K L x u).2.2) : wp_X7_airsAs (d + 1 + 1 + 1) (nI L) x (nI u.1) (nI p) s u.2 Q := by
  rcases (by omega : L = 0 ∨ L = 1 ∨ L = 2 ∨ L = 3 ∨ L = 4 ∨ L = 5 ∨ L = 6) with g | g | g | g | g | g | g <;> subst g
  · exact mA_0 (d + 1 + 1) hp hK e0 e1 hu h
  · exact mA_1 (d + 1) hp hK e0 e1 hu h
  · exact mA_2 (d + 1) hp hK e0 e1 hu h
  · exact mA_3 (d + 1) hp hK e0 e1 hu h
  · exact mA_4 d hp hK e0 e1 hu h
  · exact mA_5 d hp hK e0 e1 hu h
  · exact mA_6 (d + 1) hp hK e0 e1 hu h
end MODEL
section PARTS
variable {x ip : Int32} {p K mm : Nat} {s : V} {u : Nat × V} {Q : Int32 → Int32 → Int32 → V → Prop}
theorem mP_0 (d : Nat) (hp : p < 8) (hK : K < 7) (e0 : s (6 + 4 * p + 0) = nI K) (e1 : s (6 + 4 * p + 1) = nI mm) (hu : u.1 ≤ 30) (h : Q (vP0 (nI p) (nI mm) x u).1 (nI (vP0 (nI p) (nI mm) x u).2.1) (pt (nI p) (nI mm)) (vP0 (nI p) (nI mm) x u).2.2) : wp_X7_partsAs (d + 1) (nI 0) x (nI u.1) (nI p) ip s u.2 Q := by
  rw [wp_X7_partsAs_s]
  unfold ws_X7_partsAs
  refine ⟨fun _ => w7_starts hu (w7_mn hp e1 (fun x3 e3 => ?_)), fun c => absurd c (by decide), fun k0 k1 => absurd rfl k0⟩
  unfold vP0 pt at h
  subst e3
  refine ⟨fun q => ?_, fun q => ?_⟩
  · rw [if_neg q, if_neg q] at h
    exact ⟨fun _ => ⟨fun _ => ⟨q, h⟩, fun q2 => by rw [q2, dm1] at h; exact h⟩, fun q2 => absurd q2 q⟩
  · rw [if_pos q, if_pos q] at h
    exact ⟨fun q2 => absurd q q2, fun _ => h⟩
theorem mP_1 (d : Nat) (hp : p < 8) (hK : K < 7) (e0 : s (6 + 4 * p + 0) = nI K) (e1 : s (6 + 4 * p + 1) = nI mm) (hu : u.1 ≤ 30) (h : Q (vP1 (nI p) (nI mm) K x u).1 (nI (vP1 (nI p) (nI mm) K x u).2.1) (pt (nI p) (nI mm)) (vP1 (nI p) (nI mm) K x u).2.2) : wp_X7_partsAs (d + 1 + 1) (nI 1) x (nI u.1) (nI p) ip s u.2 Q := by
  rw [wp_X7_partsAs_s]
  unfold ws_X7_partsAs
  refine ⟨fun c => absurd c (by decide), fun _ => w7_starts hu (ab_0 (K := 1) (by omega) (by omega) (by omega) (mP_0 d hp hK e0 e1 (tr_le hu) ?_)), fun k0 k1 => absurd rfl k1⟩
  unfold vP1 at h
  unfold vP0 pt
  unfold pt at h
  by_cases q : nI mm - nI p = 0
  · rw [if_pos q, if_pos q] at h
    rw [if_pos q, if_pos q]
    exact tD h
  · rw [if_neg q, if_neg q] at h
    rw [if_neg q, if_neg q]
    exact tB (w7_kn hp e0 (mR 61 hK hp hK e0 e1 (tr_le (tr_le hu)) h))
theorem mP_2 (d : Nat) (hp : p < 8) (hK : K < 7) (e0 : s (6 + 4 * p + 0) = nI K) (e1 : s (6 + 4 * p + 1) = nI mm) (hu : u.1 ≤ 30) (h : Q (vP0 (nI p) (nI mm) x u).1 (nI (vP0 (nI p) (nI mm) x u).2.1) (pt (nI p) (nI mm)) (vP0 (nI p) (nI mm) x u).2.2) : wp_X7_partsAs (d + 1 + 1) (nI 2) x (nI u.1) (nI p) ip s u.2 Q := by
  rw [wp_X7_partsAs_s]
  unfold ws_X7_partsAs
  exact ⟨fun c => absurd c (by decide), fun c => absurd c (by decide), fun _ _ => ab_0 (K := 2) (by omega) (by omega) (by omega) (mP_0 d hp hK e0 e1 hu h)⟩
theorem mP_3 (d : Nat) (hp : p < 8) (hK : K < 7) (e0 : s (6 + 4 * p + 0) = nI K) (e1 : s (6 + 4 * p + 1) = nI mm) (hu : u.1 ≤ 30) (h : Q (vP0 (nI p) (nI mm) x u).1 (nI (vP0 (nI p) (nI mm) x u).2.1) (pt (nI p) (nI mm)) (vP0 (nI p) (nI mm) x u).2.2) : wp_X7_partsAs (d + 1 + 1) (nI 3) x (nI u.1) (nI p) ip s u.2 Q := by
  rw [wp_X7_partsAs_s]
  unfold ws_X7_partsAs
  exact ⟨fun c => absurd c (by decide), fun c => absurd c (by decide), fun _ _ => ab_0 (K := 3) (by omega) (by omega) (by omega) (mP_0 d hp hK e0 e1 hu h)⟩
theorem mP_6 (d : Nat) (hp : p < 8) (hK : K < 7) (e0 : s (6 + 4 * p + 0) = nI K) (e1 : s (6 + 4 * p + 1) = nI mm) (hu : u.1 ≤ 30) (h : Q (vP0 (nI p) (nI mm) x u).1 (nI (vP0 (nI p) (nI mm) x u).2.1) (pt (nI p) (nI mm)) (vP0 (nI p) (nI mm) x u).2.2) : wp_X7_partsAs (d + 1 + 1) (nI 6) x (nI u.1) (nI p) ip s u.2 Q := by
  rw [wp_X7_partsAs_s]
  unfold ws_X7_partsAs
  exact ⟨fun c => absurd c (by decide), fun c => absurd c (by decide), fun _ _ => ab_0 (K := 6) (by omega) (by omega) (by omega) (mP_0 d hp hK e0 e1 hu h)⟩
theorem mP_4 (d : Nat) (hp : p < 8) (hK : K < 7) (e0 : s (6 + 4 * p + 0) = nI K) (e1 : s (6 + 4 * p + 1) = nI mm) (hu : u.1 ≤ 30) (h : Q (vP1 (nI p) (nI mm) K x u).1 (nI (vP1 (nI p) (nI mm) K x u).2.1) (pt (nI p) (nI mm)) (vP1 (nI p) (nI mm) K x u).2.2) : wp_X7_partsAs (d + 1 + 1 + 1) (nI 4) x (nI u.1) (nI p) ip s u.2 Q := by
  rw [wp_X7_partsAs_s]
  unfold ws_X7_partsAs
  exact ⟨fun c => absurd c (by decide), fun c => absurd c (by decide), fun _ _ => ab_4 (mP_1 d hp hK e0 e1 hu h)⟩
theorem mP_5 (d : Nat) (hp : p < 8) (hK : K < 7) (e0 : s (6 + 4 * p + 0) = nI K) (e1 : s (6 + 4 * p + 1) = nI mm) (hu : u.1 ≤ 30) (h : Q (vP0 (nI p) (nI mm) x u).1 (nI (vP0 (nI p) (nI mm) x u).2.1) (pt (nI p) (nI mm)) (vP0 (nI p) (nI mm) x u).2.2) : wp_X7_partsAs (d + 1 + 1 + 1) (nI 5) x (nI u.1) (nI p) ip s u.2 Q := by
  rw [wp_X7_partsAs_s]
  unfold ws_X7_partsAs
  exact ⟨fun c => absurd c (by decide), fun c => absurd c (by decide), fun _ _ => ab_5 (mP_2 d hp hK e0 e1 hu h)⟩
theorem mP (d : Nat) {L : Nat} (hL : L < 7) (hp : p < 8) (hK : K < 7) (e0 : s (6 + 4 * p + 0) = nI K) (e1 : s (6 + 4 * p + 1) = nI mm) (hu : u.1 ≤ 30) (h : Q (vP (nI p) (nI mm) K L x u).1 (nI (vP (nI p) (nI mm) K L x u).2.1) (pt (nI p) (nI mm)) (vP (nI p) (nI mm) K L x u).2.2) : wp_X7_partsAs (d + 1 + 1 + 1) (nI L) x (nI u.1) (nI p) ip s u.2 Q := by
  rcases (by omega : L = 0 ∨ L = 1 ∨ L = 2 ∨ L = 3 ∨ L = 4 ∨ L = 5 ∨ L = 6) with g | g | g | g | g | g | g <;> subst g
  · exact mP_0 (d + 1 + 1) hp hK e0 e1 hu h
  · exact mP_1 (d + 1) hp hK e0 e1 hu h
  · exact mP_2 (d + 1) hp hK e0 e1 hu h
  · exact mP_3 (d + 1) hp hK e0 e1 hu h
  · exact mP_4 d hp hK e0 e1 hu h
  · exact mP_5 d hp hK e0 e1 hu h
  · exact mP_6 (d + 1) hp hK e0 e1 hu h
end PARTS
section OPS
variable {P Y B w : Nat} {z : Int32} {km fa mo fr sp ow tp tn : V} {tq tk : Nat → V} {wt s e : V}
theorem op_voice (h : WR P Y B w z km fa mo fr sp ow tp tn tq wt s) (x1 x2 x3 : Int32) {b : Nat} (hb : b ≤ 30) (bo : V) (c1 c2 c3 c4 mk mi : Int32) (C : Int32 → V → Int32 → Int32 → Int32 → Int32 → Int32 → V → Int32 → Int32 → Int32 → Int32 → V → V → Prop) (hC : ∀ r e' b' bo' c1' c2' c3' c4' mk' mi', b' ≤ 30 → C r e' (nI b') c1' c2' c3' c4' bo' r (nI b') mk' mi' e' bo') : wp_X6_voice x1 x2 x3 (nI P) km e (nI b) c1 c2 c3 c4 bo (fun r e' b' c1' c2' c3' c4' bo' => wp_X7_voice x1 x2 x3 (nI b) mk mi s e bo (fun r' t' mk' mi' e'' tr' => C r e' b' c1' c2' c3' c4' bo' r' t' mk' mi' e'' tr')) := by
  obtain ⟨⟨a1, a2, a3, a4⟩, ⟨b1, b2, b3, b4, b5⟩, d1, -⟩ := id h
  unfold wp_X6_voice
  rcases io x1 P (by omega) with ⟨p, hp, rfl⟩ | hx
  · rcases io x2 4 (by omega) with ⟨v, hv, rfl⟩ | hy
    · obtain ⟨K, m, hK, hm, e0, e1, e2⟩ := d1 p hp
      (repeat (with_reducible (first | refine tA ?_ | refine tB ?_ | refine tC ?_ | refine tD ?_ | refine w6_one_in (by assumption) (by assumption) ?_ | refine w6_one_out (by assumption) (by assumption) ?_ | refine w7_one_in (by assumption) (by assumption) (by assumption) ?_ | refine w7_one_out (by assumption) (by assumption) (by assumption) ?_ | refine w6_two_in (by assumption) (by assumption) (by assumption) (by assumption) ?_ | refine w6_two_out (by assumption) (by assumption) ?_ | refine w7_two_in (by assumption) (by assumption) (by assumption) (by assumption) (by assumption) ?_ | refine w7_two_out (by assumption) (by assumption) (by assumption) ?_ | refine w6_sort_in (by assumption) ?_ | refine w6_sort_out (by assumption) ?_ | refine w7_sort_in (by assumption) ?_ | refine w7_sort_out (by assumption) ?_ | refine w6_km_in (by assumption) ?_ | refine w6_km_out (by assumption) ?_ | refine w7_kind_in (by assumption) ?_ | refine w7_kind_out (by assumption) ?_ | refine w6_sheet_in (by assumption) ?_ | refine w6_sheet_out (by assumption) ?_ | refine w7_sheet_in (by assumption) ?_ | refine w7_sheet_out (by assumption) ?_ | refine w6_e1 ?_ | refine w6_e2 ?_ | refine w6_e3 ?_ | refine w6_e4 ?_ | refine w6_e5 ?_ | refine w6_e6 ?_ | refine w7_e1 ?_ | refine w7_e2 ?_ | refine w7_e3 ?_ | refine w7_e4 ?_ | refine w7_e5 ?_ | refine w7_e6 ?_)))
      refine w6_within_in (lo := 0) (hi := 3) (by omega) (by omega) (by omega) (tB ?_)
      unfold wp_X2_speak
      refine w5_numberOf (by omega) hm hK e0 (w5_kindOf (by omega) hm hK e0 ?_)
      have u0 : (((0 : Nat), bo) : Nat × V).1 ≤ 30 := Nat.zero_le 30
      have md : ∀ R : Int32 → Int32 → Int32 → Int32 → V → V → Prop, (v = 0 → wp_X7_washesAs 64 (nI K) x3 (0 : Int32) (nI p) bo (fun r_52 c_traced_52 c_trace_52 => wp_X7_voice_b95 R s r_52 c_traced_52 (nI p) (0 : Int32) e c_trace_52)) → (v = 1 → wp_X7_wringsAs 64 (nI K) x3 (0 : Int32) (nI p) s bo (fun r_67 c_traced_67 c_trace_67 => wp_X7_voice_b95 R s r_67 c_traced_67 (nI p) (0 : Int32) e c_trace_67)) → (v = 2 → wp_X7_airsAs 64 (nI K) x3 (0 : Int32) (nI p) s bo (fun r_82 c_traced_82 c_trace_82 => wp_X7_voice_b95 R s r_82 c_traced_82 (nI p) (0 : Int32) e c_trace_82)) → (v = 3 → wp_X7_partsAs 64 (nI K) x3 (0 : Int32) (nI p) (0 : Int32) s bo (fun r_92 c_traced_92 c_isParted_92 c_trace_92 => wp_X7_voice_b95 R s r_92 c_traced_92 (nI p) c_isParted_92 e c_trace_92)) → wp_X7_voice (nI p) (nI v) x3 (nI b) mk mi s e bo R := by
        intro R r0 r1 r2 r3
        unfold wp_X7_voice
        refine w7_one_in hp a1 b1 (tD (w7_in_in (lo := 0) (hi := 3) (by omega) (by omega) (by omega) (tC (w7_kn (by omega) e1 ?_))))
        rcases (by omega : v = 0 ∨ v = 1 ∨ v = 2 ∨ v = 3) with q | q | q | q <;> subst q
        · exact ⟨fun c => absurd rfl c, fun _ => r0 rfl⟩
        · exact ⟨fun _ => ⟨fun c => absurd rfl c, fun _ => r1 rfl⟩, fun c => absurd c (by decide)⟩
        · exact ⟨fun _ => ⟨fun _ => ⟨fun c => absurd rfl c, fun _ => r2 rfl⟩, fun c => absurd c (by decide)⟩, fun c => absurd c (by decide)⟩
        · exact ⟨fun _ => ⟨fun _ => ⟨fun _ => r3 rfl, fun c => absurd c (by decide)⟩, fun c => absurd c (by decide)⟩, fun c => absurd c (by decide)⟩
      have v95 : ∀ (R : Int32 → Int32 → Int32 → Int32 → V → V → Prop) (r t : Int32) (f : V), R r t (nI p) 0 e f → wp_X7_voice_b95 R s r t (nI p) (0 : Int32) e f := by
        intro R r t f q
        unfold wp_X7_voice_b95
        exact tB q
      rcases (by omega : v = 0 ∨ v = 1 ∨ v = 2 ∨ v = 3) with q | q | q | q <;> subst q
      · refine cW (d := 58) (dep := 0) (u := (0, bo)) hK (by omega) u0 (tB (md _ (fun _ => mW 61 (u := (0, bo)) hK u0 (v95 _ _ _ _ ?_)) (fun c => by omega) (fun c => by omega) (fun c => by omega)))
        exact hC _ _ _ _ _ _ _ _ _ _ (vW_le u0)
      · refine cR (d := 52) (dep := 0) (u := (0, bo)) hK hK (by omega) u0 (tB (md _ (fun c => by omega) (fun _ => mR 61 (u := (0, bo)) hK (by omega) hK e1 e2 u0 (v95 _ _ _ _ ?_)) (fun c => by omega) (fun c => by omega)))
        exact hC _ _ _ _ _ _ _ _ _ _ (vR_le u0)
      · refine cA (d := 48) (dep := 0) (u := (0, bo)) hK hK (by omega) u0 (tB (md _ (fun c => by omega) (fun c => by omega) (fun _ => mA 61 (u := (0, bo)) hK (by omega) hK e1 e2 u0 (v95 _ _ _ _ ?_)) (fun c => by omega)))
        exact hC _ _ _ _ _ _ _ _ _ _ (vA_le u0)
      · refine cP (d := 50) (dep := 0) (u := (0, bo)) hK hK (by omega) u0 (fun r hr => ?_)
        have pl := vP_le (k := nI p) (m := nI m) (K := K) (L := K) (x := x3) u0
        by_cases q : nI m - nI p = 0
        · have e6 : pt (nI p) (nI m) = 1 := if_pos q
          rw [e6]
          refine tD (w6_e6 (md _ (fun c => by omega) (fun c => by omega) (fun c => by omega) (fun _ => mP 61 (u := (0, bo)) hK (by omega) hK e1 e2 u0 ?_)))
          rw [e6]
          unfold wp_X7_voice_b95
          exact tD (w7_e6 (hC _ _ _ _ _ _ _ _ _ _ pl))
        · have e6 : pt (nI p) (nI m) = 0 := if_neg q
          rw [e6]
          refine tB (md _ (fun c => by omega) (fun c => by omega) (fun c => by omega) (fun _ => mP 61 (u := (0, bo)) hK (by omega) hK e1 e2 u0 ?_))
          rw [e6]
          refine v95 _ _ _ _ ?_
          rcases hr with hr | hr
          · exact absurd hr q
          · rw [hr]; exact hC _ _ _ _ _ _ _ _ _ _ pl
    · (repeat (with_reducible (first | refine tA ?_ | refine tB ?_ | refine tC ?_ | refine tD ?_ | refine w6_one_in (by assumption) (by assumption) ?_ | refine w6_one_out (by assumption) (by assumption) ?_ | refine w7_one_in (by assumption) (by assumption) (by assumption) ?_ | refine w7_one_out (by assumption) (by assumption) (by assumption) ?_ | refine w6_two_in (by assumption) (by assumption) (by assumption) (by assumption) ?_ | refine w6_two_out (by assumption) (by assumption) ?_ | refine w7_two_in (by assumption) (by assumption) (by assumption) (by assumption) (by assumption) ?_ | refine w7_two_out (by assumption) (by assumption) (by assumption) ?_ | refine w6_sort_in (by assumption) ?_ | refine w6_sort_out (by assumption) ?_ | refine w7_sort_in (by assumption) ?_ | refine w7_sort_out (by assumption) ?_ | refine w6_km_in (by assumption) ?_ | refine w6_km_out (by assumption) ?_ | refine w7_kind_in (by assumption) ?_ | refine w7_kind_out (by assumption) ?_ | refine w6_sheet_in (by assumption) ?_ | refine w6_sheet_out (by assumption) ?_ | refine w7_sheet_in (by assumption) ?_ | refine w7_sheet_out (by assumption) ?_ | refine w6_e1 ?_ | refine w6_e2 ?_ | refine w6_e3 ?_ | refine w6_e4 ?_ | refine w6_e5 ?_ | refine w6_e6 ?_ | refine w7_e1 ?_ | refine w7_e2 ?_ | refine w7_e3 ?_ | refine w7_e4 ?_ | refine w7_e5 ?_ | refine w7_e6 ?_)))
      refine w6_within_out (hi := 3) (by omega) hy (tD (w6_e1 ?_))
      unfold wp_X7_voice
      exact w7_one_in hp a1 b1 (tD (w7_in_out (hi := 3) (by omega) hy (tA (w7_e1 (hC _ _ _ _ _ _ _ _ _ _ hb)))))
  · (repeat (with_reducible (first | refine tA ?_ | refine tB ?_ | refine tC ?_ | refine tD ?_ | refine w6_one_in (by assumption) (by assumption) ?_ | refine w6_one_out (by assumption) (by assumption) ?_ | refine w7_one_in (by assumption) (by assumption) (by assumption) ?_ | refine w7_one_out (by assumption) (by assumption) (by assumption) ?_ | refine w6_two_in (by assumption) (by assumption) (by assumption) (by assumption) ?_ | refine w6_two_out (by assumption) (by assumption) ?_ | refine w7_two_in (by assumption) (by assumption) (by assumption) (by assumption) (by assumption) ?_ | refine w7_two_out (by assumption) (by assumption) (by assumption) ?_ | refine w6_sort_in (by assumption) ?_ | refine w6_sort_out (by assumption) ?_ | refine w7_sort_in (by assumption) ?_ | refine w7_sort_out (by assumption) ?_ | refine w6_km_in (by assumption) ?_ | refine w6_km_out (by assumption) ?_ | refine w7_kind_in (by assumption) ?_ | refine w7_kind_out (by assumption) ?_ | refine w6_sheet_in (by assumption) ?_ | refine w6_sheet_out (by assumption) ?_ | refine w7_sheet_in (by assumption) ?_ | refine w7_sheet_out (by assumption) ?_ | refine w6_e1 ?_ | refine w6_e2 ?_ | refine w6_e3 ?_ | refine w6_e4 ?_ | refine w6_e5 ?_ | refine w6_e6 ?_ | refine w7_e1 ?_ | refine w7_e2 ?_ | refine w7_e3 ?_ | refine w7_e4 ?_ | refine w7_e5 ?_ | refine w7_e6 ?_)))
    unfold wp_X7_voice
    exact w7_one_out a1 b1 hx (tB (w7_e1 (hC _ _ _ _ _ _ _ _ _ _ hb)))
end OPS
