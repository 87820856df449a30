/-! what one gets, gains; years -/
def gtb (K m k : Nat) (has : Int32) (Y : Nat) (pl bi : Int32) : Int32 := if K = 1 then bi else if K = 2 then 3 * pl else if K = 3 then (if k = 4 then nI m else pl) else if K = 4 then bi + has / 10 else if K = 5 then 3 * pl - 1 else if K = 6 then (if Y % 2 = 0 then pl else 0) else pl
def plv (m k : Nat) : Int32 := if m % 5 = k then 1 else 0
def biv (m k : Nat) : Int32 := if k = 0 then plv m k + 2 else plv m k
def gtv (K m k : Nat) (has : Int32) (Y : Nat) : Int32 := gtb K m k has Y (plv m k) (biv m k)
theorem even_n {Y : Nat} (hY : Y < 2000) : nI Y - nI Y / 2 * 2 = nI (Y % 2) := rm_n (b := 2) (by omega) (by omega) (by omega)
theorem ev_or {Y : Nat} (hY : Y < 2000) {A B : Prop} (h0 : Y % 2 = 0 → A) (h1 : ¬ Y % 2 = 0 → B) : ((¬ (nI Y - nI Y / 2 * 2) = 0) → B) ∧ ((nI Y - nI Y / 2 * 2) = 0 → A) := by
  rw [even_n hY]
  refine ⟨fun c => h1 (fun e => c (by rw [e]; rfl)), fun c => h0 ((eq_n (b := 0) (by omega) (by omega)).mp c)⟩
theorem w5_b35 {km : V} {p K m k Y : Nat} (hp : p < 8) (hk : k < 5) (hm : m < 10) (hK : K < 7) (hY : Y < 2000) (e : km p = nI (10 * K + m)) {has pl bi : Int32} {Q : Int32 → Prop} (h : Q (gtb K m k has Y pl bi)) : wp_X5_gets_b35 Q km (nI p) (nI k) has (nI Y) (nI m) pl bi := by
  unfold wp_X5_gets_b35
  refine w5_kindOf hp hm hK e ?_
  rcases (by omega : K = 0 ∨ K = 1 ∨ K = 2 ∨ K = 3 ∨ K = 4 ∨ K = 5 ∨ K = 6) with g | g | g | g | g | g | g <;> subst g
  · exact ⟨fun c => absurd c (by decide), fun c => absurd c (by decide), fun c => absurd c (by decide), fun c => absurd c (by decide), fun c => absurd c (by decide), fun c => absurd c (by decide), fun _ _ _ _ _ _ => h⟩
  · exact ⟨fun _ => h, fun c => absurd c (by decide), fun c => absurd c (by decide), fun c => absurd c (by decide), fun c => absurd c (by decide), fun c => absurd c (by decide), fun c => absurd rfl c⟩
  · exact ⟨fun c => absurd c (by decide), fun _ => h, fun c => absurd c (by decide), fun c => absurd c (by decide), fun c => absurd c (by decide), fun c => absurd c (by decide), fun _ c => absurd rfl c⟩
  · refine ⟨fun c => absurd c (by decide), fun c => absurd c (by decide), fun _ => ⟨fun c => ?_, fun c => ?_⟩, fun c => absurd c (by decide), fun c => absurd c (by decide), fun c => absurd c (by decide), fun _ _ c => absurd rfl c⟩
    · have g : Q (if k = 4 then nI m else pl) := h
      rw [if_neg (fun q => c (by rw [q]; rfl))] at g; exact g
    · have g : Q (if k = 4 then nI m else pl) := h
      rw [if_pos ((eq_n (b := 4) (by omega) (by omega)).mp c)] at g; exact g
  · exact ⟨fun c => absurd c (by decide), fun c => absurd c (by decide), fun c => absurd c (by decide), fun _ => h, fun c => absurd c (by decide), fun c => absurd c (by decide), fun _ _ _ c => absurd rfl c⟩
  · exact ⟨fun c => absurd c (by decide), fun c => absurd c (by decide), fun c => absurd c (by decide), fun c => absurd c (by decide), fun _ => h, fun c => absurd c (by decide), fun _ _ _ _ c => absurd rfl c⟩
  · have g : Q (if Y % 2 = 0 then pl else 0) := h
    exact ⟨fun c => absurd c (by decide), fun c => absurd c (by decide), fun c => absurd c (by decide), fun c => absurd c (by decide), fun c => absurd c (by decide), fun _ => ev_or hY (fun q => by rw [if_pos q] at g; exact g) (fun q => by rw [if_neg q] at g; exact g), fun _ _ _ _ _ c => absurd rfl c⟩
theorem w5_gets {km : V} {p K m k Y : Nat} (hp : p < 8) (hk : k < 5) (hm : m < 10) (hK : K < 7) (hY : Y < 2000) (e : km p = nI (10 * K + m)) {has : Int32} {Q : Int32 → Prop} (h : Q (gtv K m k has Y)) : wp_X5_gets (nI p) (nI k) has (nI Y) km Q := by
  unfold wp_X5_gets
  refine w5_numberOf hp hm hK e ?_
  rw [show (5 : Int32) = nI 5 from rfl, rm_n (by omega) (by omega) (by omega)]
  unfold gtv biv plv at h
  refine ⟨fun c => ⟨fun d => w5_b35 hp hk hm hK hY e ?_, fun d => w5_b35 hp hk hm hK hY e ?_⟩, fun c => ⟨fun d => w5_b35 hp hk hm hK hY e ?_, fun d => w5_b35 hp hk hm hK hY e ?_⟩⟩
  · rw [if_neg (fun q => c (by rw [q])), if_neg (fun q => d (by rw [q]; rfl))] at h; exact h
  · rw [if_neg (fun q => c (by rw [q])), if_pos ((eq_n (b := 0) (by omega) (by omega)).mp d)] at h; exact h
  · rw [if_pos ((eq_n (by omega) (by omega)).mp c), if_neg (fun q => d (by rw [q]; rfl))] at h; exact h
  · rw [if_pos ((eq_n (by omega) (by omega)).mp c), if_pos ((eq_n (b := 0) (by omega) (by omega)).mp d)] at h; exact h
section GETS
variable {s : V} {p k m Y : Nat} {Q : Int32 → Prop}
theorem g7_0 (d : Nat) (hp : p < 8) (hk : k < 5) (hm : m < 10) (e1 : s (6 + 4 * p + 1) = nI m) (h : Q (plv m k)) : wp_X7_getsAs (d + 1) (nI 0) (nI p) (nI k) s Q := by
  rw [wp_X7_getsAs_s]
  unfold ws_X7_getsAs
  refine w7_its (k := 1) hp (by omega) ?_
  rw [e1, show (5 : Int32) = nI 5 from rfl, rm_n (by omega) (by omega) (by omega)]
  unfold plv at h
  refine ⟨fun c => absurd c (by decide), fun c => absurd c (by decide), fun c => absurd c (by decide), fun c => absurd c (by decide), fun c => absurd c (by decide), fun c => absurd c (by decide), fun _ _ _ _ _ _ => ⟨fun c => ?_, fun c => ?_⟩⟩
  · rw [if_neg (fun q => c (by rw [q]))] at h; exact h
  · rw [if_pos ((eq_n (by omega) (by omega)).mp c)] at h; exact h
theorem g7_1 (d : Nat) (hp : p < 8) (hk : k < 5) (hm : m < 10) (e1 : s (6 + 4 * p + 1) = nI m) (h : Q (biv m k)) : wp_X7_getsAs (d + 1 + 1) (nI 1) (nI p) (nI k) s Q := by
  rw [wp_X7_getsAs_s]
  unfold ws_X7_getsAs
  refine w7_its (k := 1) hp (by omega) ?_
  unfold biv at h
  refine ⟨fun _ => g7_0 d hp hk hm e1 ⟨fun c => ?_, fun c => ?_⟩, fun c => absurd c (by decide), fun c => absurd c (by decide), fun c => absurd c (by decide), fun c => absurd c (by decide), fun c => absurd c (by decide), fun c => absurd rfl c⟩
  · rw [if_neg (fun q => c (by rw [q]; rfl))] at h; rw [Int32.add_zero]; exact h
  · rw [if_pos ((eq_n (b := 0) (by omega) (by omega)).mp c)] at h; exact h
theorem g7_2 (d : Nat) (hp : p < 8) (hk : k < 5) (hm : m < 10) (e1 : s (6 + 4 * p + 1) = nI m) (h : Q (3 * plv m k)) : wp_X7_getsAs (d + 1 + 1) (nI 2) (nI p) (nI k) s Q := by
  rw [wp_X7_getsAs_s]
  unfold ws_X7_getsAs
  refine w7_its (k := 1) hp (by omega) ?_
  exact ⟨fun c => absurd c (by decide), fun _ => g7_0 d hp hk hm e1 h, fun c => absurd c (by decide), fun c => absurd c (by decide), fun c => absurd c (by decide), fun c => absurd c (by decide), fun _ c => absurd rfl c⟩
theorem w7_getsAs (d : Nat) {K : Nat} (hK : K < 7) (hp : p < 8) (hk : k < 5) (hm : m < 10) (hY : Y < 2000) (e0 : s 0 = nI Y) (e1 : s (6 + 4 * p + 1) = nI m) (h : Q (gtv K m k (s (38 + 5 * p + k)) Y)) : wp_X7_getsAs (d + 1 + 1 + 1) (nI K) (nI p) (nI k) s Q := by
  rcases (by omega : K = 0 ∨ K = 1 ∨ K = 2 ∨ K = 3 ∨ K = 4 ∨ K = 5 ∨ K = 6) with g | g | g | g | g | g | g <;> subst g
  · exact g7_0 (d + 1 + 1) hp hk hm e1 h
  · exact g7_1 (d + 1) hp hk hm e1 h
  · exact g7_2 (d + 1) hp hk hm e1 h
  · rw [wp_X7_getsAs_s]
    unfold ws_X7_getsAs
    refine w7_its (k := 1) hp (by omega) ?_
    have g : Q (if k = 4 then nI m else plv m k) := h
    refine ⟨fun c => absurd c (by decide), fun c => absurd c (by decide), fun _ => ⟨fun c => g7_0 (d + 1) hp hk hm e1 ?_, fun c => ?_⟩, fun c => absurd c (by decide), fun c => absurd c (by decide), fun c => absurd c (by decide), fun _ _ c => absurd rfl c⟩
    · rw [if_neg (fun q => c (by rw [q]; rfl))] at g; exact g
    · rw [if_pos ((eq_n (b := 4) (by omega) (by omega)).mp c)] at g; rw [e1]; exact g
  · rw [wp_X7_getsAs_s]
    unfold ws_X7_getsAs
    refine w7_its (k := 1) hp (by omega) ?_
    exact ⟨fun c => absurd c (by decide), fun c => absurd c (by decide), fun c => absurd c (by decide), fun _ => g7_1 d hp hk hm e1 (w7_has hp hk h), fun c => absurd c (by decide), fun c => absurd c (by decide), fun _ _ _ c => absurd rfl c⟩
  · rw [wp_X7_getsAs_s]
    unfold ws_X7_getsAs
    refine w7_its (k := 1) hp (by omega) ?_
    exact ⟨fun c => absurd c (by decide), fun c => absurd c (by decide), fun c => absurd c (by decide), fun c => absurd c (by decide), fun _ => g7_2 d hp hk hm e1 h, fun c => absurd c (by decide), fun _ _ _ _ c => absurd rfl c⟩
  · rw [wp_X7_getsAs_s]
    unfold ws_X7_getsAs
    refine w7_its (k := 1) hp (by omega) ?_
    have g : Q (if Y % 2 = 0 then plv m k else 0) := h
    rw [show ((0 : Int32).toNatClampNeg) = 0 from rfl, e0]
    exact ⟨fun c => absurd c (by decide), fun c => absurd c (by decide), fun c => absurd c (by decide), fun c => absurd c (by decide), fun c => absurd c (by decide), fun _ => ⟨vi (n := 0) (by omega) (by omega), ev_or hY (fun q => g7_0 (d + 1) hp hk hm e1 (by rw [if_pos q] at g; exact g)) (fun q => by rw [if_neg q] at g; exact g)⟩, fun _ _ _ _ _ c => absurd rfl c⟩
end GETS
/-- gain of one of a sort, by what one has and the year -/
def gnf (km : V) (n : Int32) (q : V) (p k : Nat) (has : Int32) (Y : Nat) : Int32 := hd (tv n q (gtv ((km p).toNatClampNeg / 10) ((km p).toNatClampNeg % 10) k has Y) (nI k) (nI Y)) (-9) 9
/-- what the model's row must hold for gains -/
def GS (P Y : Nat) (km : V) (n : Int32) (q s : V) : Prop := P ≤ 8 ∧ Y < 2000 ∧ s 4 = nI P ∧ s 0 = nI Y ∧ Rk P km s ∧ Rx 0 n q s
theorem GS.fr {P Y : Nat} {km : V} {n : Int32} {q s s' : V} (h : GS P Y km n q s) (e : ∀ i, (i < 38 ∨ 78 ≤ i) → s' i = s i) : GS P Y km n q s' := by
  obtain ⟨h1, h2, h3, h4, h5, h6⟩ := h
  exact ⟨h1, h2, by rw [e _ (by omega)]; exact h3, by rw [e _ (by omega)]; exact h4, h5.fr h1 (fun i h1 h2 => e i (by omega)), h6.fr (by omega) (fun i h1 h2 => e i (by omega))⟩
theorem w5_gainOf {P Y p k : Nat} {km : V} {tn : V} {tq tk : Nat → V} {s : V} (h : GS P Y km (tn 0) (tq 0) s) (hp : p < P) (hk : k < 5) {has : Int32} {Q : Int32 → (Nat → V) → Prop} (hQ : ∀ st', Q (gnf km (tn 0) (tq 0) p k has Y) st') : wp_X5_gainOf (nI p) (nI k) has (nI Y) km tn tq tk Q := by
  obtain ⟨h1, h2, h3, h4, h5, h6⟩ := h
  obtain ⟨K, m, hK, hm, e, -, -⟩ := h5 p hp
  unfold gnf at hQ
  rw [e, cl (by omega), show (10 * K + m) / 10 = K by omega, show (10 * K + m) % 10 = m by omega] at hQ
  unfold wp_X5_gainOf
  exact w5_gets (by omega) hk hm hK h2 e (w5_gv (u := 0) (by omega) h6 hQ)
theorem w7_gainOf {P Y p k : Nat} {km : V} {n : Int32} {q s nm pl : V} (h : GS P Y km n q s) (hp : p < P) (hk : k < 5) {Q : Int32 → V → V → Prop} (hQ : ∀ nm' pl', Q (gnf km n q p k (s (38 + 5 * p + k)) Y) nm' pl') : wp_X7_gainOf (nI p) (nI k) s nm pl Q := by
  obtain ⟨h1, h2, h3, h4, h5, h6⟩ := h
  obtain ⟨K, m, hK, hm, e, e1, e2⟩ := h5 p hp
  unfold gnf at hQ
  rw [e, cl (by omega), show (10 * K + m) / 10 = K by omega, show (10 * K + m) % 10 = m by omega] at hQ
  unfold wp_X7_gainOf
  refine w7_its (k := 0) (by omega) (by omega) ?_
  rw [e1]
  refine w7_getsAs 61 hK (by omega) hk hm h2 h4 e2 ⟨vi (n := 0) (by omega) (by omega), ?_⟩
  rw [show ((0 : Int32).toNatClampNeg) = 0 from rfl, h4]
  exact w7_gainTold h6 hQ
/-- the spoons when the first c cells have grown -/
def yc (km : V) (n : Int32) (q : V) (Y : Nat) (row : V) (c : Nat) : V := fun i => if i < c then hd (row i + gnf km n q (i / 5) (i % 5) (row i) Y) 0 99 else row i
theorem yc_ge {km : V} {n : Int32} {q : V} {Y : Nat} {row : V} {c j : Nat} (h : c ≤ j) : yc km n q Y row c j = row j := by
  unfold yc; rw [if_neg (by omega)]
theorem yc_lt {km : V} {n : Int32} {q : V} {Y : Nat} {row : V} {c j : Nat} (h : j < c) : yc km n q Y row c j = hd (row j + gnf km n q (j / 5) (j % 5) (row j) Y) 0 99 := by
  unfold yc; rw [if_pos h]
theorem yc_s {km : V} {n : Int32} {q : V} {Y : Nat} {row : V} {p k : Nat} (hk : k < 5) : upd (yc km n q Y row (5 * p + k)) (5 * p + k) (hd (row (5 * p + k) + gnf km n q p k (row (5 * p + k)) Y) 0 99) = yc km n q Y row (5 * p + k + 1) := by
  funext j
  by_cases c : j = 5 * p + k
  · subst c
    rw [us, yc_lt (by omega), show (5 * p + k) / 5 = p by omega, show (5 * p + k) % 5 = k by omega]
  · rw [un c]
    by_cases d : j < 5 * p + k
    · rw [yc_lt d, yc_lt (by omega)]
    · rw [yc_ge (by omega), yc_ge (by omega)]
theorem yc_0 {km : V} {n : Int32} {q : V} {Y : Nat} {row : V} : yc km n q Y row 0 = row := by
  funext j; exact yc_ge (by omega)
theorem w5_grow {P Y : Nat} {km : V} {tn : V} {tq tk : Nat → V} {s : V} (h : GS P Y km (tn 0) (tq 0) s) {row : V} {Q : (Nat → V) → V → Prop} (hQ : ∀ tk', Q tk' (yc km (tn 0) (tq 0) Y row (5 * P))) : wp_X5_grow (nI Y) (nI P) km tn tq tk row Q := by
  have hP := h.1
  unfold wp_X5_grow
  refine loop_0 (fun n i (u : (Nat → V) × V) => wp_X5_grow_b2 Q (nI P) km tn tq n (nI Y) (nI i) u.1 u.2) (fun i u => u.2 = yc km (tn 0) (tq 0) Y row (5 * i)) P (tk, row) (by rw [Nat.mul_zero, yc_0]) ?_ ?_
  · intro n u e
    unfold wp_X5_grow_b2
    refine ⟨fun _ => ?_, fun c => absurd ((le_n (by omega) (by omega)).mpr (Nat.le_refl P)) c⟩
    rw [e]; exact hQ _
  · intro n i u hi e ih
    unfold wp_X5_grow_b2
    refine ⟨fun c => absurd c (nle hi (by omega)), fun _ => ?_⟩
    refine loop_0 (fun n2 j (t : (Nat → V) × V) => wp_X5_grow_b13 Q (wp_X5_grow_b2 Q (nI P) km tn tq n) (nI P) km tn tq n2 (nI Y) (nI i) (nI j) t.1 t.2) (fun j t => t.2 = yc km (tn 0) (tq 0) Y row (5 * i + j)) 5 u e ?_ ?_
    · intro n2 t et
      unfold wp_X5_grow_b13
      refine ⟨fun _ => fun y ey => ?_, fun c => absurd (show (5 : Int32) ≤ nI 5 by decide) c⟩
      rw [ey, i1]
      exact ih t et
    · intro n2 j t hj et ih2
      unfold wp_X5_grow_b13
      refine ⟨fun c => absurd c (nle (a := 5) hj (by omega)), fun _ => w6_cell ⟨(vi (by omega) (by omega)), w5_gainOf h hi hj (fun st' => ⟨(vi (by omega) (by omega)), w6_held (by decide) ⟨(vi (by omega) (by omega)), fun r er y ey => ?_⟩⟩)⟩⟩
      rw [ey, i1]
      rw [cl (by omega), et, yc_ge (Nat.le_refl _), yc_s hj] at er
      exact ih2 (st', r) er
/-- the model's row when the first c cells have grown -/
def yS (km : V) (n : Int32) (q : V) (Y : Nat) (s : V) (c : Nat) : V := fun i => if 38 ≤ i ∧ i < 38 + c then hd (s i + gnf km n q ((i - 38) / 5) ((i - 38) % 5) (s i) Y) 0 99 else s i
theorem yS_o {km : V} {n : Int32} {q : V} {Y : Nat} {s : V} {c j : Nat} (h : j < 38 ∨ 38 + c ≤ j) : yS km n q Y s c j = s j := by
  unfold yS; rw [if_neg (by omega)]
theorem yS_i {km : V} {n : Int32} {q : V} {Y : Nat} {s : V} {c p k : Nat} (hk : k < 5) (h : 5 * p + k < c) : yS km n q Y s c (38 + 5 * p + k) = hd (s (38 + 5 * p + k) + gnf km n q p k (s (38 + 5 * p + k)) Y) 0 99 := by
  unfold yS; rw [if_pos (by omega), show (38 + 5 * p + k - 38) / 5 = p by omega, show (38 + 5 * p + k - 38) % 5 = k by omega]
theorem yS_s {km : V} {n : Int32} {q : V} {Y : Nat} {s : V} {p k : Nat} (hk : k < 5) : upd (yS km n q Y s (5 * p + k)) (38 + 5 * p + k) (hd (s (38 + 5 * p + k) + gnf km n q p k (s (38 + 5 * p + k)) Y) 0 99) = yS km n q Y s (5 * p + k + 1) := by
  funext j
  by_cases c : j = 38 + 5 * p + k
  · subst c
    rw [us, yS_i hk (by omega)]
  · rw [un c]
    unfold yS
    by_cases d : 38 ≤ j ∧ j < 38 + (5 * p + k)
    · rw [if_pos d, if_pos (by omega)]
    · rw [if_neg d, if_neg (by omega)]
theorem w7_aYear {P Y : Nat} {km : V} {n : Int32} {q s nm pl : V} (h : GS P Y km n q s) {Q : V → V → V → Prop} (hQ : ∀ nm' pl', Q (upd (yS km n q Y s (5 * P)) 0 (nI (Y + 1))) nm' pl') : wp_X7_aYear s nm pl Q := by
  have hP := h.1
  have hg : ∀ c, c ≤ 40 → GS P Y km n q (yS km n q Y s c) := fun c hc => h.fr (fun i hi => yS_o (by omega))
  unfold wp_X7_aYear
  refine loop_0 (fun n1 i (u : V × V × V) => wp_X7_aYear_b2 Q n1 (nI i) u.1 u.2.1 u.2.2) (fun i u => u.1 = yS km n q Y s (5 * i)) P (s, nm, pl) (by funext j; rw [yS_o (by omega)]) ?_ ?_
  · intro n1 u e
    unfold wp_X7_aYear_b2
    rw [show ((4 : Int32).toNatClampNeg) = 4 from rfl, show ((0 : Int32).toNatClampNeg) = 0 from rfl, e, (hg (5 * P) (by omega)).2.2.1, (hg (5 * P) (by omega)).2.2.2.1, i1]
    refine ⟨vi (n := 4) (by omega) (by omega), fun _ => ⟨vi (n := 0) (by omega) (by omega), vi (n := 0) (by omega) (by omega), fun s' es => ?_⟩, fun c => absurd ((le_n (by omega) (by omega)).mpr (Nat.le_refl P)) c⟩
    subst es
    exact hQ _ _
  · intro n1 i u hi e ih
    unfold wp_X7_aYear_b2
    rw [show ((4 : Int32).toNatClampNeg) = 4 from rfl, show u.1 4 = nI P by rw [e]; exact (hg (5 * i) (by omega)).2.2.1]
    refine ⟨vi (n := 4) (by omega) (by omega), fun c => absurd c (nle hi (by omega)), fun _ => ?_⟩
    refine loop_0 (fun n2 j (t : V × V × V) => wp_X7_aYear_b14 Q (wp_X7_aYear_b2 Q n1) n2 (nI i) (nI j) t.1 t.2.1 t.2.2) (fun j t => t.1 = yS km n q Y s (5 * i + j)) 5 u e ?_ ?_
    · intro n2 t et
      unfold wp_X7_aYear_b14
      refine ⟨fun _ => fun y ey => ?_, fun c => absurd (show (5 : Int32) ≤ nI 5 by decide) c⟩
      rw [ey, i1]
      exact ih t et
    · intro n2 j t hj et ih2
      have hgt : GS P Y km n q t.1 := by rw [et]; exact hg _ (by omega)
      unfold wp_X7_aYear_b14
      refine ⟨fun c => absurd c (nle (a := 5) hj (by omega)), fun _ => w7_gainOf hgt hi hj (fun nm' pl' => w7_gets (by omega) hj (fun y ey => ?_))⟩
      rw [ey, i1]
      refine ih2 (_, nm', pl') ?_
      show upd t.1 _ _ = _
      rw [et, yS_o (by omega)]
      exact yS_s hj
/-- spoons by years -/
def GY (P Y : Nat) (km : V) (n : Int32) (q sp s : V) : Prop := GS P Y km n q s ∧ Rs P sp s
theorem GY.year {P Y : Nat} {km : V} {n : Int32} {q sp s : V} (h : GY P Y km n q sp s) (hY : Y + 1 < 2000) : GY P (Y + 1) km n q (yc km n q Y sp (5 * P)) (upd (yS km n q Y s (5 * P)) 0 (nI (Y + 1))) := by
  obtain ⟨⟨h1, h2, h3, h4, h5, h6⟩, h7⟩ := h
  have e : ∀ i, (i < 38 ∨ 78 ≤ i) → i ≠ 0 → upd (yS km n q Y s (5 * P)) 0 (nI (Y + 1)) i = s i := fun i hi h0 => by rw [un h0, yS_o (by omega)]
  refine ⟨⟨h1, hY, by rw [e _ (by omega) (by omega)]; exact h3, us, h5.fr h1 (fun i h1 h2 => e i (by omega) (by omega)), h6.fr (by omega) (fun i h1 h2 => e i (by omega) (by omega))⟩, fun p k hp hk => ?_⟩
  rw [un (by omega), yS_i hk (by omega), yc_lt (by omega), show (5 * p + k) / 5 = p by omega, show (5 * p + k) % 5 = k by omega, (h7 p k hp hk).2]
  exact ⟨hd_bd (hi := 99) (by omega), rfl⟩
def ysp (P : Nat) (km : V) (n : Int32) (q : V) (Y : Nat) (sp : V) : Nat → V
  | 0 => sp
  | i + 1 => yc km n q (Y + i) (ysp P km n q Y sp i) (5 * P)
/-- a year at the model's side: the relation, and what else is kept -/
theorem w7_yearR {P Y : Nat} {km : V} {n : Int32} {q sp s nm pl : V} (h : GY P Y km n q sp s) (hY : Y + 1 < 2000) {Q : V → V → V → Prop} (hQ : ∀ s' nm' pl', GY P (Y + 1) km n q (yc km n q Y sp (5 * P)) s' → (∀ i, (i < 38 ∨ 78 ≤ i) → i ≠ 0 → s' i = s i) → Q s' nm' pl') : wp_X7_aYear s nm pl Q :=
  w7_aYear h.1 (fun nm' pl' => hQ _ _ _ (h.year hY) (fun i hi h0 => by have := h.1.1; rw [un h0, yS_o (by omega)]))
section OPS
variable {P Y B w : Nat} {z : Int32} {km fa mo fr sp ow tp tn : V} {tq tk : Nat → V} {wt s e nm pl : V}
theorem WR.gy (h : WR P Y B w z km fa mo fr sp ow tp tn tq wt s) : GY P Y km (tn 0) (tq 0) sp s := by
  obtain ⟨⟨a1, a2, a3, a4⟩, ⟨b1, b2, b3, b4, b5⟩, c1, c2, c3, c4, c5, c6, c7, c8, c9⟩ := h
  exact ⟨⟨a1, by omega, b1, b2, c1, c8⟩, c4⟩
theorem ysp_o {q : V} {n : Int32} : ∀ (i : Nat) {j : Nat}, 5 * P ≤ j → ysp P km n q Y sp i j = sp j
  | 0, _, _ => rfl
  | i + 1, j, hj => by rw [ysp, yc_ge hj, ysp_o i hj]
theorem WR.yr (h : WR P Y B w z km fa mo fr sp ow tp tn tq wt s) {Y' : Nat} (hY : Y' ≤ 999) {z' : Int32} {sp' s' : V} (hg : GY P Y' km (tn 0) (tq 0) sp' s') (h0 : ∀ j, 5 * P ≤ j → sp' j = sp j) (h1 : s' 1 = z') (ho : ∀ i, (i < 38 ∨ 78 ≤ i) → i ≠ 0 → i ≠ 1 → s' i = s i) : WR P Y' B w z' km fa mo fr sp' ow tp tn tq wt s' := by
  obtain ⟨⟨a1, a2, a3, a4⟩, ⟨b1, b2, b3, b4, b5⟩, c1, c2, c3, c4, c5, c6, c7, c8, c9⟩ := h
  obtain ⟨⟨g1, g2, g3, g4, g5, g6⟩, g7⟩ := hg
  exact ⟨⟨a1, hY, a3, a4⟩, ⟨g3, g4, by rw [ho _ (by omega) (by omega) (by omega)]; exact b3, by rw [ho _ (by omega) (by omega) (by omega)]; exact b4, h1⟩, g5, c2.fr a1 (fun i h1 h2 => ho i (by omega) (by omega) (by omega)), fun p q1 q2 => ⟨(c3 p q1 q2).1, fun k hk => by rw [h0 _ (by omega)]; exact (c3 p q1 q2).2.1 k hk, (c3 p q1 q2).2.2⟩, g7, c5.fr a1 (fun i h1 h2 => ho i (by omega) (by omega) (by omega)), c6.fr (fun i h1 h2 => ho i (by omega) (by omega) (by omega)), c7.fr (fun i h1 h2 => ho i (by omega) (by omega) (by omega)), g6, c9.fr (by omega) (fun i h1 h2 => ho i (by omega) (by omega) (by omega))⟩
theorem nsum {a b c : Nat} (ha : a < 1000000) (hb : b < 1000000) (hc : c < 1000000) : nI a + nI b ≤ nI c ↔ a + b ≤ c := by rw [ad, le_n (by omega) (by omega)]
theorem w7_why_0 {n M : Nat} (hs4 : s 0 = nI Y) (hn1 : 1 ≤ n) (hn : n ≤ M) (hM : M < 1000) (hY : Y + n ≤ 999) {Q : Int32 → Prop} (h : Q 0) : wp_X7_whyNot (nI n) (nI M) s Q := by
  unfold wp_X7_whyNot
  refine w7_in_in (lo := 1) (by omega) hn (by omega) (tC ?_)
  rw [show ((0 : Int32).toNatClampNeg) = 0 from rfl, hs4]
  exact ⟨vi (n := 0) (by omega) (by omega), fun _ => h, fun c => absurd ((nsum (c := 999) (by omega) (by omega) (by omega)).mpr hY) c⟩
theorem w7_why_3 {n M : Nat} (hs4 : s 0 = nI Y) (hY0 : Y ≤ 999) (hn1 : 1 ≤ n) (hn : n ≤ M) (hM : M < 1000) (hY : ¬ Y + n ≤ 999) {Q : Int32 → Prop} (h : Q 3) : wp_X7_whyNot (nI n) (nI M) s Q := by
  unfold wp_X7_whyNot
  refine w7_in_in (lo := 1) (by omega) hn (by omega) (tC ?_)
  rw [show ((0 : Int32).toNatClampNeg) = 0 from rfl, hs4]
  exact ⟨vi (n := 0) (by omega) (by omega), fun c => absurd ((nsum (c := 999) (by omega) (by omega) (by omega)).mp c) hY, fun _ => h⟩
theorem w7_why_1 {x M : Int32} (hx : x < 1 ∨ M < x) {Q : Int32 → Prop} (h : Q 1) : wp_X7_whyNot x M s Q := by
  unfold wp_X7_whyNot
  exact w7_in (fun c => absurd hx c) (fun _ => tA h)
/-- an argument from 1 to M, or not -/
theorem oneTo (x : Int32) {M : Nat} (hM : M < 1000000) : (∃ n : Nat, 1 ≤ n ∧ n ≤ M ∧ x = nI n) ∨ (x < 1 ∨ nI M < x) := by
  by_cases c : x < 1 ∨ nI M < x
  · exact Or.inr c
  · left
    have c1 : ¬ x < 1 := fun q => c (Or.inl q)
    have c2 : ¬ nI M < x := fun q => c (Or.inr q)
    rw [il] at c1 c2
    rw [ti (by omega)] at c2
    have k1 : (1 : Int32).toInt = 1 := rfl
    rcases io x (M + 1) (by omega) with ⟨n, hn, rfl⟩ | ho
    · rw [ti (by omega)] at c1
      exact ⟨n, by omega, by omega, rfl⟩
    · exfalso
      rcases ho with q | q
      · rw [il] at q
        have k3 : (0 : Int32).toInt = 0 := rfl
        omega
      · rw [ie, ti (by omega)] at q
        omega
theorem t3A {A B : Prop} (h : B) : ((3 : Int32) = 0 → A) ∧ (¬ (3 : Int32) = 0 → B) := ⟨fun c => absurd c (by decide), fun _ => h⟩
theorem w5_goBy {sp0 : V} (h : GS P Y km (tn 0) (tq 0) s) {Q : Int32 → V → (Nat → V) → Prop} (hQ : ∀ tk', Q (nI (Y + 1)) (yc km (tn 0) (tq 0) Y sp0 (5 * P)) tk') : wp_X5_goBy (nI P) (nI Y) km sp0 tn tq tk Q := by
  unfold wp_X5_goBy
  exact w5_grow h (fun tk' y ey => by rw [ey, i1]; exact hQ _)
/-- GS beyond the year: only the class's side wants it -/
theorem GS.at (h : GS P Y km (tn 0) (tq 0) s) {Y' : Nat} (hY : Y' < 2000) : GS P Y' km (tn 0) (tq 0) (upd s 0 (nI Y')) := by
  obtain ⟨h1, h2, h3, h4, h5, h6⟩ := h
  exact ⟨h1, hY, by rw [un (by omega)]; exact h3, us, h5.fr h1 (fun i h1 h2 => un (by omega)), h6.fr (by omega) (fun i h1 h2 => un (by omega))⟩
theorem op_years (h : WR P Y B w z km fa mo fr sp ow tp tn tq wt s) (x1 : Int32) (C : Int32 → Int32 → V → (Nat → V) → V → Int32 → V → V → V → V → Prop) (hC : ∀ r Y' sp' tk' e' s' nm' pl', WR P Y' B w z km fa mo fr sp' ow tp tn tq wt s' → C r (nI Y') sp' tk' e' r s' e' nm' pl') : wp_X6_years x1 (nI P) (nI Y) km sp tn tq tk e (fun r y' sp' tk' e' => wp_X7_years x1 s e nm pl (fun r' s' e'' nm' pl' => C r y' sp' tk' e' r' s' e'' nm' pl')) := by
  have hg := h.gy
  obtain ⟨⟨a1, a2, a3, a4⟩, ⟨b1, b2, b3, b4, b5⟩, -⟩ := id h
  unfold wp_X6_years wp_X7_years
  rcases oneTo x1 (M := 60) (by omega) with ⟨n, hn1, hn, rfl⟩ | hx
  · refine w6_within_in (lo := 1) (hi := 60) (by omega) (by omega) (by omega) (tB ?_)
    refine ⟨fun c => ?_, fun c => w6_e3 (w7_why_3 (M := 60) b2 a2 hn1 hn (by omega) (fun q => c ((nsum (c := 999) (by omega) (by omega) (by omega)).mpr q)) (t3A (w7_e3 (hC _ _ _ _ _ _ _ _ h))))⟩
    have hY := (nsum (c := 999) (by omega) (by omega) (by omega)).mp c
    refine loop_0 (fun f i (u : V × (Nat → V)) => wp_X6_years_b39 _ (nI P) km tn tq f (nI n) (nI i) (nI (Y + i)) u.1 u.2 e) (fun i u => u.1 = ysp P km (tn 0) (tq 0) Y sp i) n (sp, tk) rfl ?_ ?_
    · intro f u eu
      unfold wp_X6_years_b39
      refine ⟨fun _ => w7_why_0 (M := 60) b2 hn1 hn (by omega) hY (tB ?_), fun c2 => absurd ((le_n (by omega) (by omega)).mpr (Nat.le_refl n)) c2⟩
      refine loop_0 (fun f i (t : V × V × V) => wp_X7_years_b20 _ f (nI n) (nI i) t.1 e t.2.1 t.2.2) (fun i t => GY P (Y + i) km (tn 0) (tq 0) (ysp P km (tn 0) (tq 0) Y sp i) t.1 ∧ ∀ j, (j < 38 ∨ 78 ≤ j) → j ≠ 0 → t.1 j = s j) n (s, nm, pl) ⟨hg, fun j _ _ => rfl⟩ ?_ ?_
      · intro f2 t ⟨t1, t2⟩
        unfold wp_X7_years_b20
        rw [show ((0 : Int32).toNatClampNeg) = 0 from rfl, t1.1.2.2.2.1]
        refine ⟨fun _ => ⟨vi (n := 0) (by omega) (by omega), ?_⟩, fun c2 => absurd ((le_n (by omega) (by omega)).mpr (Nat.le_refl n)) c2⟩
        rw [eu]
        exact hC _ _ _ _ _ _ _ _ (h.yr hY t1 (fun j hj => ysp_o n hj) (by rw [t2 1 (by omega) (by omega)]; exact b5) (fun i g1 g2 _ => t2 i g1 g2))
      · intro f2 i t hi ⟨t1, t2⟩ ih
        unfold wp_X7_years_b20
        refine ⟨fun c2 => absurd c2 (nle hi (by omega)), fun _ => w7_yearR t1 (by omega) (fun s' nm' pl' g1 g2 => fun y ey => ?_)⟩
        rw [ey, i1]
        exact ih (s', nm', pl') ⟨g1, fun j q1 q2 => (g2 j q1 q2).trans (t2 j q1 q2)⟩
    · intro f i u hi eu ih
      unfold wp_X6_years_b39
      refine ⟨fun c2 => absurd c2 (nle hi (by omega)), fun _ => w5_goBy (hg.1.at (Y' := Y + i) (by omega)) (fun tk' => fun y ey => ?_)⟩
      rw [ey, i1]
      refine ih (_, tk') ?_
      show yc _ _ _ _ u.1 _ = _
      rw [eu]; rfl
  · refine w6_notWithin (fun c => absurd hx c) (fun _ => tD (w6_e1 (w7_why_1 hx (tD (w7_e1 (hC _ _ _ _ _ _ _ _ h))))))
end OPS
