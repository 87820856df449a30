/-! THE CLAIM OUT OF ONE WALK OF THE LAW'S BODY. Your part is whole_start (and what it stands on); all else here is the same for every law, but numbers. -/
def R_law : String := "DirtPressLaw"
def lw_P (b : Addr) (xs : List Int32) (args : Array Value) (s : State) : Prop := args = #[.ref b] ∧ s.IntsAt b xs ∧ xs.length ≤ 3072 ∧ (Jvm.Cond.and given_1 narrow_1).before args s = true
def lw_Q (_ : Array Value) (s : State) (o : Outcome) (t : State) : Prop := o = .returned (some (.int 1)) ∧ Framed s o t [] 600000 7302250
def lw_Z (below : List Frame) (a : Array Value) (s : State) : State → Prop := fun t => ∃ o, t.status = .running ∧ Ended t below o ∧ lw_Q a s o t
/-- the law's own end, with 1 on the stack, nothing written that was there before, its room as the claim has it -/
theorem lw_ret {p : Program} {l : Launch} {e : Env} {s : State} {m : MethodId} {below : List Frame} {meth : Method} {c : Code} {b : Nat} (hx : p.tables.exec = Jvm.exec) (hb : c.code = code) (hr : meth.sig.returnType = ret) (hlocks : meth.locks = false) {pc : Nat} {H : Heap} {ls : Array Slot} (hdg : decode code pc = .ok (.ireturn, 1)) : W p l e room_1 s m #[Value.ref b] below meth c H [] 600000 7302250 (lw_Z below #[Value.ref b] s) (F0 m pc ls [.int 1]) := by
  intro T hT X
  obtain ⟨fs, hret, hrun, hended, hW, hframe⟩ := X.leave (v := some (.int 1)) (hlocks := hlocks) (fun h => by rw [hr] at h; cases h)
  have hmeth' : T.vm.method? m = some meth := X.method'
  refine ⟨T.setFrames fs, ?_, .returned (some (.int 1)), hrun, hended, rfl, ⟨_, rfl⟩, hW, hframe⟩
  jvm_step X.here [X.here.top, hx, hb, hdg, hmeth', hr, ret, narrow_b1]
  (try refine ⟨rfl, ?_⟩); (try refine ⟨rfl, ?_⟩)
  first | (intro acts; rw [hret _ acts rfl rfl rfl]) | rw [hret _ _ rfl rfl rfl]
  exact Steps.refl _
/-- what holds at the law's entry: the machine, the code, the tables' words (any of lw_tbl by 'hts w (by decide +kernel)'), the script of L ints xs at the cell b, what the Statement gives of the start (any of its parts by flat_of_before) -/
def lw_At (p : Program) (s : State) (m : MethodId) (meth : Method) (c : Code) (b L : Nat) (xs : Nat → Int32) : Prop :=
  p.tables.exec = Jvm.exec ∧ c.code = code ∧ meth.sig.returnType = ret ∧ c.maxLocals = 4 ∧ s.vm.findClass R_law = some m.cls ∧ (∀ w ∈ lw_tbl, w.before #[Value.ref b] s = true) ∧ va_X b L xs s s.heap ∧ b < s.heap.size ∧ meth.locks = false ∧ (Jvm.Cond.and given_1 narrow_1).before #[Value.ref b] s = true

theorem nwm_0 : Cond.methodLinkNest "DirtPress" 11 yX5_init "DirtPress" ∈ lw_tbl := List.mem_of_getElem? (i := 87) (by decide +kernel)
theorem nwm_1 : Cond.methodLinkNest "DirtPress$World" 39 yX3_init "DirtPress" ∈ lw_tbl := List.mem_of_getElem? (i := 93) (by decide +kernel)
theorem nwm_2 : Cond.methodLinkNest "DirtPress" 29 yX1_init "DirtPress" ∈ lw_tbl := List.mem_of_getElem? (i := 175) (by decide +kernel)
theorem nwm_3 : Cond.methodLinkNest "DirtPress" 32 yX0_init "DirtPress" ∈ lw_tbl := List.mem_of_getElem? (i := 196) (by decide +kernel)
theorem nwm_4 : Cond.methodLinkNest "DirtPress$Reader" 11 yX3_init "DirtPress" ∈ lw_tbl := List.mem_of_getElem? (i := 201) (by decide +kernel)
theorem nwm_5 : Cond.methodLinkNest "DirtPress" 39 yX4_init "DirtPress" ∈ lw_tbl := List.mem_of_getElem? (i := 224) (by decide +kernel)
theorem nwm_6 : Cond.methodLinkNest "DirtPress" 46 yX2_init "DirtPress" ∈ lw_tbl := List.mem_of_getElem? (i := 240) (by decide +kernel)
theorem nwm_7 : Cond.methodLinkNest "DirtPress$World" 79 yX6_cell "DirtPress" ∈ lw_tbl := List.mem_of_getElem? (i := 331) (by decide +kernel)
theorem nwm_8 : Cond.methodLinkNest "DirtPress$Text" 32 yX6_truth "DirtPress" ∈ lw_tbl := List.mem_of_getElem? (i := 377) (by decide +kernel)
theorem nwm_9 : Cond.methodLinkNest "DirtPress$World" 106 yX6_held "DirtPress" ∈ lw_tbl := List.mem_of_getElem? (i := 383) (by decide +kernel)
theorem nwm_10 : Cond.methodLinkNest "DirtPress$Thought" 26 yX6_cell "DirtPress" ∈ lw_tbl := List.mem_of_getElem? (i := 569) (by decide +kernel)
theorem nwm_11 : Cond.methodLinkNest "DirtPress$Thought" 38 yX6_held "DirtPress" ∈ lw_tbl := List.mem_of_getElem? (i := 571) (by decide +kernel)
theorem nwm_12 : Cond.methodLinkNest "DirtPress$Thought" 55 yX6_together "DirtPress" ∈ lw_tbl := List.mem_of_getElem? (i := 582) (by decide +kernel)
theorem nwm_13 : Cond.methodLinkNest "DirtPress$Thought" 66 yX6_truth "DirtPress" ∈ lw_tbl := List.mem_of_getElem? (i := 596) (by decide +kernel)
theorem nwm_14 : Cond.methodLinkNest "DirtPress$Thought" 70 yX6_pair "DirtPress" ∈ lw_tbl := List.mem_of_getElem? (i := 601) (by decide +kernel)
theorem nwm_15 : Cond.methodLinkNest "DirtPress$World" 87 yX6_pair "DirtPress" ∈ lw_tbl := List.mem_of_getElem? (i := 623) (by decide +kernel)
theorem nfm_0 : Cond.fieldLinkNest "DirtPress$Reader" 77 "DirtPress" "NAMES" "[C" "DirtPress" ∈ lw_tbl := List.mem_of_getElem? (i := 487) (by decide +kernel)
theorem nfm_1 : Cond.fieldLinkNest "DirtPress$Speech" 45 "DirtPress" "BODIES" "[I" "DirtPress" ∈ lw_tbl := List.mem_of_getElem? (i := 678) (by decide +kernel)
theorem nfm_2 : Cond.fieldLinkNest "DirtPress$Speech" 48 "DirtPress" "ABOVE" "[I" "DirtPress" ∈ lw_tbl := List.mem_of_getElem? (i := 680) (by decide +kernel)
theorem aom : Cond.arrayOver (.object "DirtPress$Sheet") ∈ lw_tbl := List.mem_of_getElem? (i := 173) (by decide +kernel)
theorem ls_ABOVE : Cond.laysStatic "DirtPress" "ABOVE" "[I" ∈ lw_tbl := List.mem_of_getElem? (i := 404) (by decide +kernel)
theorem ls_NAMES : Cond.laysStatic "DirtPress" "NAMES" "[C" ∈ lw_tbl := List.mem_of_getElem? (i := 488) (by decide +kernel)
theorem ls_BODIES : Cond.laysStatic "DirtPress" "BODIES" "[I" ∈ lw_tbl := List.mem_of_getElem? (i := 679) (by decide +kernel)
theorem ini_dp : Cond.initialized "DirtPress" ∈ lw_tbl := List.mem_of_getElem? (i := 67) (by decide +kernel)
theorem arr_int : Cond.arrayClass .int ∈ lw_tbl := List.mem_of_getElem? (i := 107) (by decide +kernel)
theorem st_ABOVE {args : Array Value} {s : State} (hs : ∀ c ∈ flatC (Jvm.Cond.and given_1 narrow_1), c.before args s = true) (hts : ∀ w ∈ lw_tbl, w.before args s = true) : ∃ t : Nat, va_Z "DirtPress" "ABOVE" "[I" (.ref t) (fun q => s.heap.size ≤ q) s s.heap ∧ va_T .int t 7 fAb (fun q => s.heap.size ≤ q) s s.heap := by
  obtain ⟨t, h1, h2⟩ := va_Tof (args := args) (s := s) (tm := (.static "DirtPress" "ABOVE" "[I")) (ty := .int) (N := 7) (f := fAb) (A := fun q => s.heap.size ≤ q) (by decide) (hs _ (by decide +kernel)) (va_eqt (z := 7) (hs _ (by decide +kernel))) (fun j hj => match j, hj with
    | 0, _ => va_eqt (z := (-1)) (hs (.eq (.elem (.static "DirtPress" "ABOVE" "[I") (.int 0)) (.int (-1))) (by decide +kernel))
    | 1, _ => va_eqt (z := 0) (hs (.eq (.elem (.static "DirtPress" "ABOVE" "[I") (.int 1)) (.int 0)) (by decide +kernel))
    | 2, _ => va_eqt (z := 0) (hs (.eq (.elem (.static "DirtPress" "ABOVE" "[I") (.int 2)) (.int 0)) (by decide +kernel))
    | 3, _ => va_eqt (z := 0) (hs (.eq (.elem (.static "DirtPress" "ABOVE" "[I") (.int 3)) (.int 0)) (by decide +kernel))
    | 4, _ => va_eqt (z := 1) (hs (.eq (.elem (.static "DirtPress" "ABOVE" "[I") (.int 4)) (.int 1)) (by decide +kernel))
    | 5, _ => va_eqt (z := 2) (hs (.eq (.elem (.static "DirtPress" "ABOVE" "[I") (.int 5)) (.int 2)) (by decide +kernel))
    | 6, _ => va_eqt (z := 0) (hs (.eq (.elem (.static "DirtPress" "ABOVE" "[I") (.int 6)) (.int 0)) (by decide +kernel))
    | k + 7, hj => absurd hj (by omega)) (fun a h => Nat.not_le.mpr h)
  exact ⟨t, va_Zof (hts _ ls_ABOVE) (hts _ ini_dp) h1 (fun a h => Nat.not_le.mpr h), h2⟩
theorem st_NAMES {args : Array Value} {s : State} (hs : ∀ c ∈ flatC (Jvm.Cond.and given_1 narrow_1), c.before args s = true) (hts : ∀ w ∈ lw_tbl, w.before args s = true) : ∃ t : Nat, va_Z "DirtPress" "NAMES" "[C" (.ref t) (fun q => s.heap.size ≤ q) s s.heap ∧ va_T .char t 6 fNa (fun q => s.heap.size ≤ q) s s.heap := by
  obtain ⟨t, h1, h2⟩ := va_Tof (args := args) (s := s) (tm := (.static "DirtPress" "NAMES" "[C")) (ty := .char) (N := 6) (f := fNa) (A := fun q => s.heap.size ≤ q) (by decide) (hs _ (by decide +kernel)) (va_eqt (z := 6) (hs _ (by decide +kernel))) (fun j hj => match j, hj with
    | 0, _ => va_eqt (z := 119) (hs (.eq (.elem (.static "DirtPress" "NAMES" "[C") (.int 0)) (.int 119)) (by decide +kernel))
    | 1, _ => va_eqt (z := 115) (hs (.eq (.elem (.static "DirtPress" "NAMES" "[C") (.int 1)) (.int 115)) (by decide +kernel))
    | 2, _ => va_eqt (z := 121) (hs (.eq (.elem (.static "DirtPress" "NAMES" "[C") (.int 2)) (.int 121)) (by decide +kernel))
    | 3, _ => va_eqt (z := 118) (hs (.eq (.elem (.static "DirtPress" "NAMES" "[C") (.int 3)) (.int 118)) (by decide +kernel))
    | 4, _ => va_eqt (z := 115) (hs (.eq (.elem (.static "DirtPress" "NAMES" "[C") (.int 4)) (.int 115)) (by decide +kernel))
    | 5, _ => va_eqt (z := 110) (hs (.eq (.elem (.static "DirtPress" "NAMES" "[C") (.int 5)) (.int 110)) (by decide +kernel))
    | k + 6, hj => absurd hj (by omega)) (fun a h => Nat.not_le.mpr h)
  exact ⟨t, va_Zof (hts _ ls_NAMES) (hts _ ini_dp) h1 (fun a h => Nat.not_le.mpr h), h2⟩
theorem st_BODIES {args : Array Value} {s : State} (hs : ∀ c ∈ flatC (Jvm.Cond.and given_1 narrow_1), c.before args s = true) (hts : ∀ w ∈ lw_tbl, w.before args s = true) : ∃ t : Nat, va_Z "DirtPress" "BODIES" "[I" (.ref t) (fun q => s.heap.size ≤ q) s s.heap ∧ va_T .int t 28 fBo (fun q => s.heap.size ≤ q) s s.heap := by
  obtain ⟨t, h1, h2⟩ := va_Tof (args := args) (s := s) (tm := (.static "DirtPress" "BODIES" "[I")) (ty := .int) (N := 28) (f := fBo) (A := fun q => s.heap.size ≤ q) (by decide) (hs _ (by decide +kernel)) (va_eqt (z := 28) (hs _ (by decide +kernel))) (fun j hj => match j, hj with
    | 0, _ => va_eqt (z := 10) (hs (.eq (.elem (.static "DirtPress" "BODIES" "[I") (.int 0)) (.int 10)) (by decide +kernel))
    | 1, _ => va_eqt (z := 11) (hs (.eq (.elem (.static "DirtPress" "BODIES" "[I") (.int 1)) (.int 11)) (by decide +kernel))
    | 2, _ => va_eqt (z := 12) (hs (.eq (.elem (.static "DirtPress" "BODIES" "[I") (.int 2)) (.int 12)) (by decide +kernel))
    | 3, _ => va_eqt (z := 13) (hs (.eq (.elem (.static "DirtPress" "BODIES" "[I") (.int 3)) (.int 13)) (by decide +kernel))
    | 4, _ => va_eqt (z := 20) (hs (.eq (.elem (.static "DirtPress" "BODIES" "[I") (.int 4)) (.int 20)) (by decide +kernel))
    | 5, _ => va_eqt (z := 0) (hs (.eq (.elem (.static "DirtPress" "BODIES" "[I") (.int 5)) (.int 0)) (by decide +kernel))
    | 6, _ => va_eqt (z := 0) (hs (.eq (.elem (.static "DirtPress" "BODIES" "[I") (.int 6)) (.int 0)) (by decide +kernel))
    | 7, _ => va_eqt (z := 21) (hs (.eq (.elem (.static "DirtPress" "BODIES" "[I") (.int 7)) (.int 21)) (by decide +kernel))
    | 8, _ => va_eqt (z := 0) (hs (.eq (.elem (.static "DirtPress" "BODIES" "[I") (.int 8)) (.int 0)) (by decide +kernel))
    | 9, _ => va_eqt (z := 30) (hs (.eq (.elem (.static "DirtPress" "BODIES" "[I") (.int 9)) (.int 30)) (by decide +kernel))
    | 10, _ => va_eqt (z := 0) (hs (.eq (.elem (.static "DirtPress" "BODIES" "[I") (.int 10)) (.int 0)) (by decide +kernel))
    | 11, _ => va_eqt (z := 0) (hs (.eq (.elem (.static "DirtPress" "BODIES" "[I") (.int 11)) (.int 0)) (by decide +kernel))
    | 12, _ => va_eqt (z := 0) (hs (.eq (.elem (.static "DirtPress" "BODIES" "[I") (.int 12)) (.int 0)) (by decide +kernel))
    | 13, _ => va_eqt (z := 0) (hs (.eq (.elem (.static "DirtPress" "BODIES" "[I") (.int 13)) (.int 0)) (by decide +kernel))
    | 14, _ => va_eqt (z := 40) (hs (.eq (.elem (.static "DirtPress" "BODIES" "[I") (.int 14)) (.int 40)) (by decide +kernel))
    | 15, _ => va_eqt (z := 0) (hs (.eq (.elem (.static "DirtPress" "BODIES" "[I") (.int 15)) (.int 0)) (by decide +kernel))
    | 16, _ => va_eqt (z := 50) (hs (.eq (.elem (.static "DirtPress" "BODIES" "[I") (.int 16)) (.int 50)) (by decide +kernel))
    | 17, _ => va_eqt (z := 0) (hs (.eq (.elem (.static "DirtPress" "BODIES" "[I") (.int 17)) (.int 0)) (by decide +kernel))
    | 18, _ => va_eqt (z := 51) (hs (.eq (.elem (.static "DirtPress" "BODIES" "[I") (.int 18)) (.int 51)) (by decide +kernel))
    | 19, _ => va_eqt (z := 0) (hs (.eq (.elem (.static "DirtPress" "BODIES" "[I") (.int 19)) (.int 0)) (by decide +kernel))
    | 20, _ => va_eqt (z := 0) (hs (.eq (.elem (.static "DirtPress" "BODIES" "[I") (.int 20)) (.int 0)) (by decide +kernel))
    | 21, _ => va_eqt (z := 60) (hs (.eq (.elem (.static "DirtPress" "BODIES" "[I") (.int 21)) (.int 60)) (by decide +kernel))
    | 22, _ => va_eqt (z := 0) (hs (.eq (.elem (.static "DirtPress" "BODIES" "[I") (.int 22)) (.int 0)) (by decide +kernel))
    | 23, _ => va_eqt (z := 0) (hs (.eq (.elem (.static "DirtPress" "BODIES" "[I") (.int 23)) (.int 0)) (by decide +kernel))
    | 24, _ => va_eqt (z := 70) (hs (.eq (.elem (.static "DirtPress" "BODIES" "[I") (.int 24)) (.int 70)) (by decide +kernel))
    | 25, _ => va_eqt (z := 71) (hs (.eq (.elem (.static "DirtPress" "BODIES" "[I") (.int 25)) (.int 71)) (by decide +kernel))
    | 26, _ => va_eqt (z := 0) (hs (.eq (.elem (.static "DirtPress" "BODIES" "[I") (.int 26)) (.int 0)) (by decide +kernel))
    | 27, _ => va_eqt (z := 0) (hs (.eq (.elem (.static "DirtPress" "BODIES" "[I") (.int 27)) (.int 0)) (by decide +kernel))
    | k + 28, hj => absurd hj (by omega)) (fun a h => Nat.not_le.mpr h)
  exact ⟨t, va_Zof (hts _ ls_BODIES) (hts _ ini_dp) h1 (fun a h => Nat.not_le.mpr h), h2⟩
set_option maxRecDepth 100000 in
set_option maxHeartbeats 8000000 in
theorem start_open (hp : ∀ (xs : Nat → Int32) (Ln : Nat), Ln ≤ 3072 → wp_L_law (fun v => v = 1) xs Ln) {p : Program} {e : Env} {s : State} {m : MethodId} {below : List Frame} {meth : Method} {c : Code} (l : Launch) {b L : Nat} {xs : Nat → Int32} (hL : L ≤ 3072) (C0 : lw_At p s m meth c b L xs) : W p l e room_1 s m #[Value.ref b] below meth c s.heap [] 0 0 (lw_Z below #[Value.ref b] s) (entryFrame m ([Value.ref b] : List Value).toArray 4) := by
  obtain ⟨hx, hb, hr, hml, hown, hts, hX, hbl, hlocks, hgv⟩ := C0
  have hs := flat_of_before _ hgv
  obtain ⟨c0, iS0, hKn0⟩ := u_known (C := RX0) (T := TX0) (N := 6) (n := 6) hts (fun w h => GW_in w (inX0 w h)) (hts _ (GW_in _ wd_25))
  obtain ⟨c1, iS1, hKn1⟩ := u_known (C := RX1) (T := TX1) (N := 3) (n := 3) hts (fun w h => GW_in w (inX1 w h)) (hts _ (GW_in _ wd_22))
  obtain ⟨c2, iS2, hKn2⟩ := u_known (C := RX2) (T := TX2) (N := 6) (n := 6) hts (fun w h => GW_in w (inX2 w h)) (hts _ (GW_in _ wd_33))
  obtain ⟨c3, iS3, hKn3⟩ := u_known (C := RX3) (T := TX3) (N := 3) (n := 3) hts (fun w h => GW_in w (inX3 w h)) (hts _ (GW_in _ wd_48))
  obtain ⟨c4, iS4, hKn4⟩ := u_known (C := RX4) (T := TX4) (N := 3) (n := 3) hts (fun w h => GW_in w (inX4 w h)) (hts _ (GW_in _ wd_29))
  obtain ⟨c5, iS5, hKn5⟩ := u_known (C := RX5) (T := TX5) (N := 15) (n := 15) hts (fun w h => GW_in w (inX5 w h)) (hts _ (GW_in _ wd_14))
  obtain ⟨c6, iS6, hKn6⟩ := u_known (C := RX6) (T := TX6) (N := 8) (n := 8) hts (fun w h => GW_in w (inX6 w h)) (hts _ (GW_in _ wd_1))
  obtain ⟨c7, iS7, hKn7⟩ := u_known (C := RX7) (T := TX7) (N := 22) (n := 22) hts (fun w h => GW_in w (inX7 w h)) (hts _ (GW_in _ wd_4))
  obtain ⟨cI, kI, compI, i1, i2, i3⟩ := Cond.arrayClass_spec (hts _ arr_int)
  obtain ⟨compS, cS, kS, j1, j2, j3, j4, j5⟩ := Cond.arrayOver_spec (hts _ aom)
  obtain ⟨tA, zA, aA⟩ := st_ABOVE hs hts
  obtain ⟨tN, zN, aN⟩ := st_NAMES hs hts
  obtain ⟨tB, zB, aB⟩ := st_BODIES hs hts
  have hKc : ∀ (k : Nat) (q : vw_C), vwCl[k]? = some q → u_Kn s q.1 q.2.1 q.2.2 ((fun k => if k = 0 then c0 else if k = 1 then c1 else if k = 2 then c2 else if k = 3 then c3 else if k = 4 then c4 else if k = 5 then c5 else if k = 6 then c6 else c7) k) ((fun k => if k = 0 then iS0 else if k = 1 then iS1 else if k = 2 then iS2 else if k = 3 then iS3 else if k = 4 then iS4 else if k = 5 then iS5 else if k = 6 then iS6 else iS7) k) := by
    intro k q hq
    match k, hq with
    | 0, hq => cases hq; exact hKn0
    | 1, hq => cases hq; exact hKn1
    | 2, hq => cases hq; exact hKn2
    | 3, hq => cases hq; exact hKn3
    | 4, hq => cases hq; exact hKn4
    | 5, hq => cases hq; exact hKn5
    | 6, hq => cases hq; exact hKn6
    | 7, hq => cases hq; exact hKn7
    | k + 8, hq => simp [vwCl] at hq
  have hNW : hNW s := ⟨List.forall_mem_cons.mpr ⟨va_Nw.of rfl (hts _ nwm_0), List.forall_mem_cons.mpr ⟨va_Nw.of rfl (hts _ nwm_1), List.forall_mem_cons.mpr ⟨va_Nw.of rfl (hts _ nwm_2), List.forall_mem_cons.mpr ⟨va_Nw.of rfl (hts _ nwm_3), List.forall_mem_cons.mpr ⟨va_Nw.of rfl (hts _ nwm_4), List.forall_mem_cons.mpr ⟨va_Nw.of rfl (hts _ nwm_5), List.forall_mem_cons.mpr ⟨va_Nw.of rfl (hts _ nwm_6), List.forall_mem_cons.mpr ⟨va_Nw.of rfl (hts _ nwm_7), List.forall_mem_cons.mpr ⟨va_Nw.of rfl (hts _ nwm_8), List.forall_mem_cons.mpr ⟨va_Nw.of rfl (hts _ nwm_9), List.forall_mem_cons.mpr ⟨va_Nw.of rfl (hts _ nwm_10), List.forall_mem_cons.mpr ⟨va_Nw.of rfl (hts _ nwm_11), List.forall_mem_cons.mpr ⟨va_Nw.of rfl (hts _ nwm_12), List.forall_mem_cons.mpr ⟨va_Nw.of rfl (hts _ nwm_13), List.forall_mem_cons.mpr ⟨va_Nw.of rfl (hts _ nwm_14), List.forall_mem_cons.mpr ⟨va_Nw.of rfl (hts _ nwm_15), fun _ h => absurd h List.not_mem_nil⟩⟩⟩⟩⟩⟩⟩⟩⟩⟩⟩⟩⟩⟩⟩⟩, List.forall_mem_cons.mpr ⟨va_Nw.of rfl (hts _ nfm_0), List.forall_mem_cons.mpr ⟨va_Nw.of rfl (hts _ nfm_1), List.forall_mem_cons.mpr ⟨va_Nw.of rfl (hts _ nfm_2), fun _ h => absurd h List.not_mem_nil⟩⟩⟩, va_AO.of (hts _ aom)⟩
  have hR : RETL ((p, l, e, room_1, s, m), (#[Value.ref b], below, meth, c, lw_Z below #[Value.ref b] s, fun q => s.heap.size ≤ q), ((fun k => if k = 0 then c0 else if k = 1 then c1 else if k = 2 then c2 else if k = 3 then c3 else if k = 4 then c4 else if k = 5 then c5 else if k = 6 then c6 else c7, fun k => if k = 0 then iS0 else if k = 1 then iS1 else if k = 2 then iS2 else if k = 3 then iS3 else if k = 4 then iS4 else if k = 5 then iS5 else if k = 6 then iS6 else iS7), ((cI, cS), (tA, tN, tB)), 4)) 67 3978 (fun v => v = 1) := by
    intro pc L' v w hd hq H locs ls hP hD hS hl
    subst hq
    refine va_forget (fun q hq => hS.2.2 q hq) ?_
    refine W.widen (k := 600000) (n := 7302250) (Nat.le_of_ble_eq_true rfl) (Nat.le_of_ble_eq_true rfl) ?_
    exact lw_ret hx hb hr hlocks hd
  have hl := lv_entry ([.ref b]) (n := 4) (Nat.le_of_ble_eq_true rfl)
  rw [lg_entry_eq]
  refine b_L_law_e (g := ((p, l, e, room_1, s, m), (#[Value.ref b], below, meth, c, lw_Z below #[Value.ref b] s, fun q => s.heap.size ≤ q), ((fun k => if k = 0 then c0 else if k = 1 then c1 else if k = 2 then c2 else if k = 3 then c3 else if k = 4 then c4 else if k = 5 then c5 else if k = 6 then c6 else c7, fun k => if k = 0 then iS0 else if k = 1 then iS1 else if k = 2 then iS2 else if k = 3 then iS3 else if k = 4 then iS4 else if k = 5 then iS5 else if k = 6 then iS6 else iS7), ((cI, cS), (tA, tN, tB)), 4))) ⟨⟨hx, hb, hml, rfl, hown⟩, fun w hw => hts w (GW_in w hw), ⟨hKc, ?_⟩, fun q h => h, hNW, ⟨⟨zA, aA⟩, ⟨zN, aN⟩, ⟨zB, aB⟩⟩, rfl, hlocks⟩ hR hX hbl (Nat.not_le.mpr hbl) (hp xs L hL) s.heap [] _ (fun k q h => by simp at h) ⟨fun i j p q h => by simp at h, fun k q h => by simp at h⟩ va_S.rf hl
  intro k q hq
  match k, hq with
  | 0, hq => cases hq; exact ⟨fun n z => ⟨fun k h => (by cases h), kI, i2, compI, i3⟩, i1⟩
  | 1, hq => cases hq; exact ⟨fun n z => ⟨fun k h => (by cases h), kS, j3, compS, j4⟩, kS, compS, j3, j4, j1, j5⟩
  | k + 2, hq => simp [TY] at hq
