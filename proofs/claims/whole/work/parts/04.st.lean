/-! MY OWN LAYER: an abstract state judgement over the kit's W. Γ holds what is fixed in a method's run; ST says: from any heap that holds the cells ws, with the locals L and the stack S at pc, the run comes to Γ's end. -/
def XT : Type := (ClassId × ClassId) × (Nat × Nat × Nat)
def XT.cI (x : XT) : ClassId := x.1.1
def XT.cS (x : XT) : ClassId := x.1.2
def XT.tA (x : XT) : Nat := x.2.1
def XT.tN (x : XT) : Nat := x.2.2.1
def XT.tB (x : XT) : Nat := x.2.2.2
def GT : Type := (Program × Launch × Env × Room × State × MethodId) × (Array Value × List Frame × Method × Code × (State → Prop) × (Nat → Prop)) × (va_G × XT × Nat)
def GT.p (g : GT) : Program := g.1.1
def GT.l (g : GT) : Launch := g.1.2.1
def GT.e (g : GT) : Env := g.1.2.2.1
def GT.R (g : GT) : Room := g.1.2.2.2.1
def GT.s (g : GT) : State := g.1.2.2.2.2.1
def GT.m (g : GT) : MethodId := g.1.2.2.2.2.2
def GT.args (g : GT) : Array Value := g.2.1.1
def GT.below (g : GT) : List Frame := g.2.1.2.1
def GT.meth (g : GT) : Method := g.2.1.2.2.1
def GT.c (g : GT) : Code := g.2.1.2.2.2.1
def GT.Q (g : GT) : State → Prop := g.2.1.2.2.2.2.1
def GT.A (g : GT) : Nat → Prop := g.2.1.2.2.2.2.2
def GT.D (g : GT) : va_G := g.2.2.1
def GT.X (g : GT) : XT := g.2.2.2.1
def GT.nL (g : GT) : Nat := g.2.2.2.2
def TY (x : XT) : List (ClassId × FieldType) := [(x.cI, .int), (x.cS, .object "DirtPress$Sheet")]
def fAb : Nat → Value := fun k => .int (([-1, 0, 0, 0, 1, 2, 0] : List Int32).getD k 0)
def fNa : Nat → Value := fun k => .int (([119, 115, 121, 118, 115, 110] : List Int32).getD k 0)
def fBo : Nat → Value := fun k => .int (([10, 11, 12, 13, 20, 0, 0, 21, 0, 30, 0, 0, 0, 0, 40, 0, 50, 0, 51, 0, 0, 60, 0, 0, 70, 71, 0, 0] : List Int32).getD k 0)
/-- the three static arrays, that nobody writes -/
def SE (x : XT) (A : Nat → Prop) (U : State) (H : Heap) : Prop :=
  (va_Z "DirtPress" "ABOVE" "[I" (.ref x.tA) A U H ∧ va_T .int x.tA 7 fAb A U H) ∧
  (va_Z "DirtPress" "NAMES" "[C" (.ref x.tN) A U H ∧ va_T .char x.tN 6 fNa A U H) ∧
  (va_Z "DirtPress" "BODIES" "[I" (.ref x.tB) A U H ∧ va_T .int x.tB 28 fBo A U H)
theorem SE.moved {x : XT} {A : Nat → Prop} {u U : State} {H : Heap} (hvm : u.vm.Alike U.vm) (h : SE x A u H) : SE x A U H :=
  ⟨⟨h.1.1.moved hvm, h.1.2.moved hvm⟩, ⟨h.2.1.1.moved hvm, h.2.1.2.moved hvm⟩, ⟨h.2.2.1.moved hvm, h.2.2.2.moved hvm⟩⟩
theorem SE.kept {x : XT} {A : Nat → Prop} {U : State} {H H1 : Heap} (h : SE x A U H) (hq : ∀ a : Nat, a < H.size → ¬ A a → H1[a]? = H[a]?) : SE x A U H1 :=
  ⟨⟨h.1.1.kept hq, h.1.2.kept hq⟩, ⟨h.2.1.1.kept hq, h.2.1.2.kept hq⟩, ⟨h.2.2.1.kept hq, h.2.2.2.kept hq⟩⟩
theorem SE.narrow {x : XT} {A B : Nat → Prop} {U : State} {H : Heap} (h : SE x A U H) (hAB : ∀ q, B q → A q) : SE x B U H :=
  ⟨⟨h.1.1.narrow hAB, h.1.2.narrow hAB⟩, ⟨h.2.1.1.narrow hAB, h.2.1.2.narrow hAB⟩, ⟨h.2.2.1.narrow hAB, h.2.2.2.narrow hAB⟩⟩
/-- the links between nest mates -/
def NWs : List (String × Nat × MethodName × String) := [("DirtPress", 11, yX5_init, "DirtPress"), ("DirtPress$World", 39, yX3_init, "DirtPress"), ("DirtPress", 29, yX1_init, "DirtPress"), ("DirtPress", 32, yX0_init, "DirtPress"), ("DirtPress$Reader", 11, yX3_init, "DirtPress"), ("DirtPress", 39, yX4_init, "DirtPress"), ("DirtPress", 46, yX2_init, "DirtPress"), ("DirtPress$World", 79, yX6_cell, "DirtPress"), ("DirtPress$Text", 32, yX6_truth, "DirtPress"), ("DirtPress$World", 106, yX6_held, "DirtPress"), ("DirtPress$Thought", 26, yX6_cell, "DirtPress"), ("DirtPress$Thought", 38, yX6_held, "DirtPress"), ("DirtPress$Thought", 55, yX6_together, "DirtPress"), ("DirtPress$Thought", 66, yX6_truth, "DirtPress"), ("DirtPress$Thought", 70, yX6_pair, "DirtPress"), ("DirtPress$World", 87, yX6_pair, "DirtPress")]
def NFs : List (String × Nat × String × String × String) := [("DirtPress$Reader", 77, "DirtPress", "NAMES", "[C"), ("DirtPress$Speech", 45, "DirtPress", "BODIES", "[I"), ("DirtPress$Speech", 48, "DirtPress", "ABOVE", "[I")]
def hNW (U : State) : Prop := (∀ q ∈ NWs, va_Nw (.methodLinkNest q.1 q.2.1 q.2.2.1 q.2.2.2) U) ∧ (∀ q ∈ NFs, va_Nw (.fieldLinkNest q.1 q.2.1 q.2.2.1 q.2.2.2.1 q.2.2.2.2 "DirtPress") U) ∧ va_AO "DirtPress$Sheet" U
theorem hNW.warm {s U : State} (hW : s.WarmedH U.vm) (h : hNW s) : hNW U := ⟨fun q hq => va_Nw.warmM hW (h.1 q hq), fun q hq => va_Nw.warmF hW (h.2.1 q hq), va_AO.moved hW.alike h.2.2⟩
theorem hNW.same {s U : State} (e : s.vm = U.vm) (h : hNW s) : hNW U := ⟨fun q hq => va_Nw.same rfl e (h.1 q hq), fun q hq => va_Nw.same rfl e (h.2.1 q hq), va_AO.moved (by rw [e]; exact Vm.Alike.refl _) h.2.2⟩
def ST (g : GT) (kc ks pc : Nat) (L : List (Nat × Value)) (S : List Value) (ws : va_W) : Prop :=
  ∀ (H : Heap) (locs : List Loc) (ls : Array Slot), va_P g.D vwCl ws H → va_D g.A ws → va_S g.A g.s.heap H locs → lv_has ls g.nL L → W g.p g.l g.e g.R g.s g.m g.args g.below g.meth g.c H locs kc ks g.Q (F0 g.m pc ls S)
def GOOD (g : GT) (own : String) (cc : ByteArray) (nL : Nat) (rm : Room) : Prop :=
  (g.p.tables.exec = Jvm.exec ∧ g.c.code = cc ∧ g.c.maxLocals = nL ∧ g.nL = nL ∧ g.s.vm.findClass own = some g.m.cls) ∧
  (∀ w ∈ GW, w.before g.args g.s = true) ∧ va_K g.D vwCl (TY g.X) g.s ∧ (∀ q, g.s.heap.size ≤ q → g.A q) ∧ hNW g.s ∧ SE g.X g.A g.s g.s.heap ∧ g.R = rm ∧ g.meth.locks = false
section GD
variable {g : GT} {own : String} {cc : ByteArray} {nL : Nat} {rm : Room}
theorem GOOD.hx (G : GOOD g own cc nL rm) : g.p.tables.exec = Jvm.exec := G.1.1
theorem GOOD.hb (G : GOOD g own cc nL rm) : g.c.code = cc := G.1.2.1
theorem GOOD.hml (G : GOOD g own cc nL rm) : g.c.maxLocals = nL := G.1.2.2.1
theorem GOOD.hnL (G : GOOD g own cc nL rm) : g.nL = nL := G.1.2.2.2.1
theorem GOOD.hown (G : GOOD g own cc nL rm) : g.s.vm.findClass own = some g.m.cls := G.1.2.2.2.2
theorem GOOD.hts (G : GOOD g own cc nL rm) : ∀ w ∈ GW, w.before g.args g.s = true := G.2.1
theorem GOOD.hK (G : GOOD g own cc nL rm) : va_K g.D vwCl (TY g.X) g.s := G.2.2.1
theorem GOOD.hA (G : GOOD g own cc nL rm) : ∀ q, g.s.heap.size ≤ q → g.A q := G.2.2.2.1
theorem GOOD.hN (G : GOOD g own cc nL rm) : hNW g.s := G.2.2.2.2.1
theorem GOOD.hSE (G : GOOD g own cc nL rm) : SE g.X g.A g.s g.s.heap := G.2.2.2.2.2.1
theorem GOOD.hR (G : GOOD g own cc nL rm) : g.R = rm := G.2.2.2.2.2.2.1
theorem GOOD.hlk (G : GOOD g own cc nL rm) : g.meth.locks = false := G.2.2.2.2.2.2.2
end GD
section ROWS
variable {g : GT} {own : String} {cc : ByteArray} {nL : Nat} {rm : Room} {kc ks pc : Nat} {L L' : List (Nat × Value)} {S : List Value} {ws ws' : va_W}
theorem st_ws (e : ws = ws') (k : ST g kc ks pc L S ws') : ST g kc ks pc L S ws := e ▸ k
theorem st_S {S' : List Value} (e : S = S') (k : ST g kc ks pc L S' ws) : ST g kc ks pc L S ws := e ▸ k
theorem st_L (is : List Nat) (e : lv_pick L is = L') (k : ST g kc ks pc L' S ws) : ST g kc ks pc L S ws :=
  fun H locs ls hP hD hS hl => k H locs ls hP hD hS (lv_sub hl is e)
theorem st_perm (is : List Nat) (hn : va_nd is = true) (e : is.map (fun i => ws[i]?) = ws'.map some) (k : ST g kc ks pc L S ws') : ST g kc ks pc L S ws :=
  fun H locs ls hP hD hS hl => k H locs ls (hP.sub is (by
    have h1 : is.filterMap (fun i => ws[i]?) = (is.map (fun i => ws[i]?)).filterMap id := by rw [List.filterMap_map]; rfl
    rw [h1, e, List.filterMap_map]; simp)) (hD.sub is hn e) hS hl
theorem st_widen {kc' ks' : Nat} (h1 : kc ≤ kc') (h2 : ks ≤ ks') (k : ST g kc' ks' pc L S ws) : ST g kc ks pc L S ws :=
  fun H locs ls hP hD hS hl => W.widen h1 h2 (k H locs ls hP hD hS hl)
theorem st_topi {x : Int32} (k : ∀ y : Int32, y = x → ST g kc ks pc L (.int y :: S) ws) : ST g kc ks pc L (.int x :: S) ws := k x rfl
theorem st_topl {x : Int64} (k : ∀ y : Int64, y = x → ST g kc ks pc L (.long y :: S) ws) : ST g kc ks pc L (.long x :: S) ws := k x rfl
theorem st_iload_n (G : GOOD g own cc nL rm) (pc' : Nat) (hp : pc + 1 = pc') {j : Fin 4} {i : Nat} {x : Int32} (k : Nat) (hk : L[k]? = some (i, .int x)) (hd : decode cc pc = .ok (.iload_n j, 1)) (hi : (j : Nat) = i) (n : ST g kc ks pc' L (.int x :: S) ws) : ST g kc ks pc L S ws := by
  subst hp; exact fun H locs ls hP hD hS hl => lv_iload_n G.hx G.hb hd hi (lv_at hl k hk) (n H locs ls hP hD hS hl)
theorem st_iload (G : GOOD g own cc nL rm) (pc' : Nat) (hp : pc + 2 = pc') {i : Nat} {x : Int32} (k : Nat) (hk : L[k]? = some (i, .int x)) (hd : decode cc pc = .ok (.iload i, 2)) (n : ST g kc ks pc' L (.int x :: S) ws) : ST g kc ks pc L S ws := by
  subst hp; exact fun H locs ls hP hD hS hl => lv_iload G.hx G.hb hd (lv_at hl k hk) (n H locs ls hP hD hS hl)
theorem st_lload_n (G : GOOD g own cc nL rm) (pc' : Nat) (hp : pc + 1 = pc') {j : Fin 4} {i : Nat} {x : Int64} (k : Nat) (hk : L[k]? = some (i, .long x)) (hd : decode cc pc = .ok (.lload_n j, 1)) (hi : (j : Nat) = i) (n : ST g kc ks pc' L (.long x :: S) ws) : ST g kc ks pc L S ws := by
  subst hp; exact fun H locs ls hP hD hS hl => lv_lload_n G.hx G.hb hd hi (lv_at hl k hk) (n H locs ls hP hD hS hl)
theorem st_aload_n (G : GOOD g own cc nL rm) (pc' : Nat) (hp : pc + 1 = pc') {j : Fin 4} {i x : Nat} (k : Nat) (hk : L[k]? = some (i, .ref x)) (hd : decode cc pc = .ok (.aload_n j, 1)) (hi : (j : Nat) = i) (n : ST g kc ks pc' L (.ref x :: S) ws) : ST g kc ks pc L S ws := by
  subst hp; exact fun H locs ls hP hD hS hl => lv_aload_n G.hx G.hb hd hi (lv_at hl k hk) (n H locs ls hP hD hS hl)
theorem st_aload (G : GOOD g own cc nL rm) (pc' : Nat) (hp : pc + 2 = pc') {i x : Nat} (k : Nat) (hk : L[k]? = some (i, .ref x)) (hd : decode cc pc = .ok (.aload i, 2)) (n : ST g kc ks pc' L (.ref x :: S) ws) : ST g kc ks pc L S ws := by
  subst hp; exact fun H locs ls hP hD hS hl => lv_aload G.hx G.hb hd (lv_at hl k hk) (n H locs ls hP hD hS hl)
theorem st_iconst (G : GOOD g own cc nL rm) (pc' : Nat) (hp : pc + 1 = pc') {n : Int} (v : Int32) (hv : Int32.ofInt n = v) (hd : decode cc pc = .ok (.iconst n, 1)) (k : ST g kc ks pc' L (.int v :: S) ws) : ST g kc ks pc L S ws := by
  subst hp; exact fun H locs ls hP hD hS hl => lv_iconst G.hx G.hb hd hv (k H locs ls hP hD hS hl)
theorem st_bipush (G : GOOD g own cc nL rm) (pc' : Nat) (hp : pc + 2 = pc') {n : Int} (v : Int32) (hv : (Int8.ofInt n).toInt32 = v) (hd : decode cc pc = .ok (.bipush n, 2)) (k : ST g kc ks pc' L (.int v :: S) ws) : ST g kc ks pc L S ws := by
  subst hp; exact fun H locs ls hP hD hS hl => lv_bipush G.hx G.hb hd hv (k H locs ls hP hD hS hl)
theorem st_sipush (G : GOOD g own cc nL rm) (pc' : Nat) (hp : pc + 3 = pc') {n : Int} (v : Int32) (hv : (Int16.ofInt n).toInt32 = v) (hd : decode cc pc = .ok (.sipush n, 3)) (k : ST g kc ks pc' L (.int v :: S) ws) : ST g kc ks pc L S ws := by
  subst hp; exact fun H locs ls hP hD hS hl => lv_sipush G.hx G.hb hd hv (k H locs ls hP hD hS hl)
theorem st_ldc (G : GOOD g own cc nL rm) (pc' : Nat) (hp : pc + 2 = pc') {i : Nat} {v : Int32} (hw : Cond.constant own i v ∈ GW) (hd : decode cc pc = .ok (.ldc i, 2)) (k : ST g kc ks pc' L (.int v :: S) ws) : ST g kc ks pc L S ws := by
  subst hp; exact fun H locs ls hP hD hS hl => lv_ldc G.hx G.hb G.hown (G.hts _ hw) hd (k H locs ls hP hD hS hl)
theorem st_ldcw (G : GOOD g own cc nL rm) (pc' : Nat) (hp : pc + 3 = pc') {i : Nat} {v : Int32} (hw : Cond.constant own i v ∈ GW) (hd : decode cc pc = .ok (.ldc_w i, 3)) (k : ST g kc ks pc' L (.int v :: S) ws) : ST g kc ks pc L S ws := by
  subst hp; exact fun H locs ls hP hD hS hl => lv_ldcw G.hx G.hb G.hown (G.hts _ hw) hd (k H locs ls hP hD hS hl)
theorem st_ldc2 (G : GOOD g own cc nL rm) (pc' : Nat) (hp : pc + 3 = pc') {i : Nat} {v : Int64} (hw : Cond.constantLong own i v ∈ GW) (hd : decode cc pc = .ok (.ldc2_w i, 3)) (k : ST g kc ks pc' L (.long v :: S) ws) : ST g kc ks pc L S ws := by
  subst hp; exact fun H locs ls hP hD hS hl => lv_ldc2 G.hx G.hb G.hown (G.hts _ hw) hd (k H locs ls hP hD hS hl)
theorem st_istore_n (G : GOOD g own cc nL rm) (pc' : Nat) (hp : pc + 1 = pc') (L' : List (Nat × Value)) {j : Fin 4} {i : Nat} {x : Int32} (hd : decode cc pc = .ok (.istore_n j, 1)) (hi : (j : Nat) = i) (hn : i < nL) (hL : (i, Value.int x) :: L.filter (fun q => !(q.1 == i) && !(q.1 + 1 == i && q.2.category == 2)) = L') (n : ST g kc ks pc' L' S ws) : ST g kc ks pc L (.int x :: S) ws := by
  subst hp; exact fun H locs ls hP hD hS hl => lv_istore_n G.hx G.hb hd hi hl (by rw [G.hnL]; exact hn) hL (fun ls' hl' => n H locs ls' hP hD hS hl')
theorem st_istore (G : GOOD g own cc nL rm) (pc' : Nat) (hp : pc + 2 = pc') (L' : List (Nat × Value)) {i : Nat} {x : Int32} (hd : decode cc pc = .ok (.istore i, 2)) (hn : i < nL) (hL : (i, Value.int x) :: L.filter (fun q => !(q.1 == i) && !(q.1 + 1 == i && q.2.category == 2)) = L') (n : ST g kc ks pc' L' S ws) : ST g kc ks pc L (.int x :: S) ws := by
  subst hp; exact fun H locs ls hP hD hS hl => lv_istore G.hx G.hb hd hl (by rw [G.hnL]; exact hn) hL (fun ls' hl' => n H locs ls' hP hD hS hl')
theorem st_astore_n (G : GOOD g own cc nL rm) (pc' : Nat) (hp : pc + 1 = pc') (L' : List (Nat × Value)) {j : Fin 4} {i x : Nat} (hd : decode cc pc = .ok (.astore_n j, 1)) (hi : (j : Nat) = i) (hn : i < nL) (hL : (i, Value.ref x) :: L.filter (fun q => !(q.1 == i) && !(q.1 + 1 == i && q.2.category == 2)) = L') (n : ST g kc ks pc' L' S ws) : ST g kc ks pc L (.ref x :: S) ws := by
  subst hp; exact fun H locs ls hP hD hS hl => lv_astore_n G.hx G.hb hd hi hl (by rw [G.hnL]; exact hn) hL (fun ls' hl' => n H locs ls' hP hD hS hl')
theorem st_astore (G : GOOD g own cc nL rm) (pc' : Nat) (hp : pc + 2 = pc') (L' : List (Nat × Value)) {i x : Nat} (hd : decode cc pc = .ok (.astore i, 2)) (hn : i < nL) (hL : (i, Value.ref x) :: L.filter (fun q => !(q.1 == i) && !(q.1 + 1 == i && q.2.category == 2)) = L') (n : ST g kc ks pc' L' S ws) : ST g kc ks pc L (.ref x :: S) ws := by
  subst hp; exact fun H locs ls hP hD hS hl => lv_astore G.hx G.hb hd hl (by rw [G.hnL]; exact hn) hL (fun ls' hl' => n H locs ls' hP hD hS hl')
theorem st_iinc (G : GOOD g own cc nL rm) (pc' : Nat) (hp : pc + 3 = pc') (L' : List (Nat × Value)) {i : Nat} {n : Int} {x : Int32} (v : Int32) (k : Nat) (hk : L[k]? = some (i, .int x)) (hv : x + Int32.ofInt n = v) (hd : decode cc pc = .ok (.iinc i n, 3)) (hn : i < nL) (hL : (i, Value.int v) :: L.filter (fun q => !(q.1 == i) && !(q.1 + 1 == i && q.2.category == 2)) = L') (kk : ST g kc ks pc' L' S ws) : ST g kc ks pc L S ws := by
  subst hp; exact fun H locs ls hP hD hS hl => lv_iinc G.hx G.hb hd hl hk hv (by rw [G.hnL]; exact hn) hL (fun ls' hl' => kk H locs ls' hP hD hS hl')
theorem st_iadd (G : GOOD g own cc nL rm) (pc' : Nat) (hp : pc + 1 = pc') {x y : Int32} (hd : decode cc pc = .ok (.iadd, 1)) (k : ST g kc ks pc' L (.int (x + y) :: S) ws) : ST g kc ks pc L (.int y :: .int x :: S) ws := by
  subst hp; exact fun H locs ls hP hD hS hl => lv_iadd G.hx G.hb hd (k H locs ls hP hD hS hl)
theorem st_isub (G : GOOD g own cc nL rm) (pc' : Nat) (hp : pc + 1 = pc') {x y : Int32} (hd : decode cc pc = .ok (.isub, 1)) (k : ST g kc ks pc' L (.int (x - y) :: S) ws) : ST g kc ks pc L (.int y :: .int x :: S) ws := by
  subst hp; exact fun H locs ls hP hD hS hl => lv_isub G.hx G.hb hd (k H locs ls hP hD hS hl)
theorem st_imul (G : GOOD g own cc nL rm) (pc' : Nat) (hp : pc + 1 = pc') {x y : Int32} (hd : decode cc pc = .ok (.imul, 1)) (k : ST g kc ks pc' L (.int (x * y) :: S) ws) : ST g kc ks pc L (.int y :: .int x :: S) ws := by
  subst hp; exact fun H locs ls hP hD hS hl => lv_imul G.hx G.hb hd (k H locs ls hP hD hS hl)
theorem st_iand (G : GOOD g own cc nL rm) (pc' : Nat) (hp : pc + 1 = pc') {x y : Int32} (hd : decode cc pc = .ok (.iand, 1)) (k : ST g kc ks pc' L (.int (x &&& y) :: S) ws) : ST g kc ks pc L (.int y :: .int x :: S) ws := by
  subst hp; exact fun H locs ls hP hD hS hl => lv_iand G.hx G.hb hd (k H locs ls hP hD hS hl)
theorem st_ior (G : GOOD g own cc nL rm) (pc' : Nat) (hp : pc + 1 = pc') {x y : Int32} (hd : decode cc pc = .ok (.ior, 1)) (k : ST g kc ks pc' L (.int (x ||| y) :: S) ws) : ST g kc ks pc L (.int y :: .int x :: S) ws := by
  subst hp; exact fun H locs ls hP hD hS hl => lv_ior G.hx G.hb hd (k H locs ls hP hD hS hl)
theorem st_ixor (G : GOOD g own cc nL rm) (pc' : Nat) (hp : pc + 1 = pc') {x y : Int32} (hd : decode cc pc = .ok (.ixor, 1)) (k : ST g kc ks pc' L (.int (x ^^^ y) :: S) ws) : ST g kc ks pc L (.int y :: .int x :: S) ws := by
  subst hp; exact fun H locs ls hP hD hS hl => lv_ixor G.hx G.hb hd (k H locs ls hP hD hS hl)
theorem st_ishl (G : GOOD g own cc nL rm) (pc' : Nat) (hp : pc + 1 = pc') {x y : Int32} (hd : decode cc pc = .ok (.ishl, 1)) (k : ST g kc ks pc' L (.int (x <<< (y &&& 31)) :: S) ws) : ST g kc ks pc L (.int y :: .int x :: S) ws := by
  subst hp; exact fun H locs ls hP hD hS hl => lv_ishl G.hx G.hb hd (k H locs ls hP hD hS hl)
theorem st_ishr (G : GOOD g own cc nL rm) (pc' : Nat) (hp : pc + 1 = pc') {x y : Int32} (hd : decode cc pc = .ok (.ishr, 1)) (k : ST g kc ks pc' L (.int (x >>> (y &&& 31)) :: S) ws) : ST g kc ks pc L (.int y :: .int x :: S) ws := by
  subst hp; exact fun H locs ls hP hD hS hl => lv_ishr G.hx G.hb hd (k H locs ls hP hD hS hl)
theorem st_idiv (G : GOOD g own cc nL rm) (pc' : Nat) (hp : pc + 1 = pc') {x y : Int32} (hne : ¬ y = 0) (hd : decode cc pc = .ok (.idiv, 1)) (k : ST g kc ks pc' L (.int (x / y) :: S) ws) : ST g kc ks pc L (.int y :: .int x :: S) ws := by
  subst hp; exact fun H locs ls hP hD hS hl => lv_idiv G.hx G.hb hd hne (k H locs ls hP hD hS hl)
theorem st_irem (G : GOOD g own cc nL rm) (pc' : Nat) (hp : pc + 1 = pc') {x y : Int32} (hne : ¬ y = 0) (hd : decode cc pc = .ok (.irem, 1)) (k : ST g kc ks pc' L (.int (x - x / y * y) :: S) ws) : ST g kc ks pc L (.int y :: .int x :: S) ws := by
  subst hp; exact fun H locs ls hP hD hS hl => lv_irem G.hx G.hb hd hne (k H locs ls hP hD hS hl)
theorem st_iushr (G : GOOD g own cc nL rm) (pc' : Nat) (hp : pc + 1 = pc') {x y : Int32} (hd : decode cc pc = .ok (.iushr, 1)) (k : ST g kc ks pc' L (.int ((x.toUInt32 >>> (y.toUInt32 &&& Int32.toUInt32 31)).toInt32) :: S) ws) : ST g kc ks pc L (.int y :: .int x :: S) ws := by
  subst hp; exact fun H locs ls hP hD hS hl => lv_iushr G.hx G.hb hd rfl (k H locs ls hP hD hS hl)
theorem st_land (G : GOOD g own cc nL rm) (pc' : Nat) (hp : pc + 1 = pc') {x y : Int64} (hd : decode cc pc = .ok (.land, 1)) (k : ST g kc ks pc' L (.long (x &&& y) :: S) ws) : ST g kc ks pc L (.long y :: .long x :: S) ws := by
  subst hp; exact fun H locs ls hP hD hS hl => lv_land G.hx G.hb hd (k H locs ls hP hD hS hl)
theorem st_lor (G : GOOD g own cc nL rm) (pc' : Nat) (hp : pc + 1 = pc') {x y : Int64} (hd : decode cc pc = .ok (.lor, 1)) (k : ST g kc ks pc' L (.long (x ||| y) :: S) ws) : ST g kc ks pc L (.long y :: .long x :: S) ws := by
  subst hp; exact fun H locs ls hP hD hS hl => lv_lor G.hx G.hb hd (k H locs ls hP hD hS hl)
theorem st_lshl (G : GOOD g own cc nL rm) (pc' : Nat) (hp : pc + 1 = pc') {x : Int64} {y : Int32} (hd : decode cc pc = .ok (.lshl, 1)) (k : ST g kc ks pc' L (.long (x <<< (y.toInt64 &&& 63)) :: S) ws) : ST g kc ks pc L (.int y :: .long x :: S) ws := by
  subst hp; exact fun H locs ls hP hD hS hl => lv_lshl G.hx G.hb hd rfl (k H locs ls hP hD hS hl)
theorem st_lshr (G : GOOD g own cc nL rm) (pc' : Nat) (hp : pc + 1 = pc') {x : Int64} {y : Int32} (hd : decode cc pc = .ok (.lshr, 1)) (k : ST g kc ks pc' L (.long (x >>> (y.toInt64 &&& 63)) :: S) ws) : ST g kc ks pc L (.int y :: .long x :: S) ws := by
  subst hp; exact fun H locs ls hP hD hS hl => lv_lshr G.hx G.hb hd rfl (k H locs ls hP hD hS hl)
theorem st_lushr (G : GOOD g own cc nL rm) (pc' : Nat) (hp : pc + 1 = pc') {x : Int64} {y : Int32} (hd : decode cc pc = .ok (.lushr, 1)) (k : ST g kc ks pc' L (.long ((x.toUInt64 >>> (y.toInt64.toUInt64 &&& Int64.toUInt64 63)).toInt64) :: S) ws) : ST g kc ks pc L (.int y :: .long x :: S) ws := by
  subst hp; exact fun H locs ls hP hD hS hl => lv_lushr G.hx G.hb hd rfl (k H locs ls hP hD hS hl)
theorem st_ineg (G : GOOD g own cc nL rm) (pc' : Nat) (hp : pc + 1 = pc') {x : Int32} (hd : decode cc pc = .ok (.ineg, 1)) (k : ST g kc ks pc' L (.int (-x) :: S) ws) : ST g kc ks pc L (.int x :: S) ws := by
  subst hp; exact fun H locs ls hP hD hS hl => lv_ineg G.hx G.hb hd (k H locs ls hP hD hS hl)
theorem st_i2b (G : GOOD g own cc nL rm) (pc' : Nat) (hp : pc + 1 = pc') {x : Int32} (hd : decode cc pc = .ok (.i2b, 1)) (k : ST g kc ks pc' L (.int (x.toInt8.toInt32) :: S) ws) : ST g kc ks pc L (.int x :: S) ws := by
  subst hp; exact fun H locs ls hP hD hS hl => lv_i2b G.hx G.hb hd rfl (k H locs ls hP hD hS hl)
theorem st_i2s (G : GOOD g own cc nL rm) (pc' : Nat) (hp : pc + 1 = pc') {x : Int32} (hd : decode cc pc = .ok (.i2s, 1)) (k : ST g kc ks pc' L (.int (x.toInt16.toInt32) :: S) ws) : ST g kc ks pc L (.int x :: S) ws := by
  subst hp; exact fun H locs ls hP hD hS hl => lv_i2s G.hx G.hb hd rfl (k H locs ls hP hD hS hl)
theorem st_i2l (G : GOOD g own cc nL rm) (pc' : Nat) (hp : pc + 1 = pc') {x : Int32} (hd : decode cc pc = .ok (.i2l, 1)) (k : ST g kc ks pc' L (.long (x.toInt64) :: S) ws) : ST g kc ks pc L (.int x :: S) ws := by
  subst hp; exact fun H locs ls hP hD hS hl => lv_i2l G.hx G.hb hd rfl (k H locs ls hP hD hS hl)
theorem st_l2i (G : GOOD g own cc nL rm) (pc' : Nat) (hp : pc + 1 = pc') {x : Int64} (hd : decode cc pc = .ok (.l2i, 1)) (k : ST g kc ks pc' L (.int (x.toInt32) :: S) ws) : ST g kc ks pc L (.long x :: S) ws := by
  subst hp; exact fun H locs ls hP hD hS hl => lv_l2i G.hx G.hb hd rfl (k H locs ls hP hD hS hl)
theorem st_if_eq (G : GOOD g own cc nL rm) (tgt : Nat) (pc' : Nat) (hp : pc + 3 = pc') {x : Int32} {off : Int} (hd : decode cc pc = .ok (.ifCond .eq off, 3)) (ht : (pc : Int) + off = (tgt : Int)) (kt : x = 0 → ST g kc ks tgt L S ws) (kf : ¬ x = 0 → ST g kc ks pc' L S ws) : ST g kc ks pc L (.int x :: S) ws := by
  subst hp; exact fun H locs ls hP hD hS hl => lv_if_eq G.hx G.hb hd ht (fun c => kt c H locs ls hP hD hS hl) (fun c => kf c H locs ls hP hD hS hl)
theorem st_icmp_eq (G : GOOD g own cc nL rm) (tgt : Nat) (pc' : Nat) (hp : pc + 3 = pc') {x y : Int32} {off : Int} (hd : decode cc pc = .ok (.if_icmp .eq off, 3)) (ht : (pc : Int) + off = (tgt : Int)) (kt : x = y → ST g kc ks tgt L S ws) (kf : ¬ x = y → ST g kc ks pc' L S ws) : ST g kc ks pc L (.int y :: .int x :: S) ws := by
  subst hp; exact fun H locs ls hP hD hS hl => lv_icmp_eq G.hx G.hb hd ht (fun c => kt c H locs ls hP hD hS hl) (fun c => kf c H locs ls hP hD hS hl)
theorem st_if_ne (G : GOOD g own cc nL rm) (tgt : Nat) (pc' : Nat) (hp : pc + 3 = pc') {x : Int32} {off : Int} (hd : decode cc pc = .ok (.ifCond .ne off, 3)) (ht : (pc : Int) + off = (tgt : Int)) (kt : ¬ x = 0 → ST g kc ks tgt L S ws) (kf : x = 0 → ST g kc ks pc' L S ws) : ST g kc ks pc L (.int x :: S) ws := by
  subst hp; exact fun H locs ls hP hD hS hl => lv_if_ne G.hx G.hb hd ht (fun c => kt c H locs ls hP hD hS hl) (fun c => kf c H locs ls hP hD hS hl)
theorem st_icmp_ne (G : GOOD g own cc nL rm) (tgt : Nat) (pc' : Nat) (hp : pc + 3 = pc') {x y : Int32} {off : Int} (hd : decode cc pc = .ok (.if_icmp .ne off, 3)) (ht : (pc : Int) + off = (tgt : Int)) (kt : ¬ x = y → ST g kc ks tgt L S ws) (kf : x = y → ST g kc ks pc' L S ws) : ST g kc ks pc L (.int y :: .int x :: S) ws := by
  subst hp; exact fun H locs ls hP hD hS hl => lv_icmp_ne G.hx G.hb hd ht (fun c => kt c H locs ls hP hD hS hl) (fun c => kf c H locs ls hP hD hS hl)
theorem st_if_lt (G : GOOD g own cc nL rm) (tgt : Nat) (pc' : Nat) (hp : pc + 3 = pc') {x : Int32} {off : Int} (hd : decode cc pc = .ok (.ifCond .lt off, 3)) (ht : (pc : Int) + off = (tgt : Int)) (kt : x < 0 → ST g kc ks tgt L S ws) (kf : ¬ x < 0 → ST g kc ks pc' L S ws) : ST g kc ks pc L (.int x :: S) ws := by
  subst hp; exact fun H locs ls hP hD hS hl => lv_if_lt G.hx G.hb hd ht (fun c => kt c H locs ls hP hD hS hl) (fun c => kf c H locs ls hP hD hS hl)
theorem st_icmp_lt (G : GOOD g own cc nL rm) (tgt : Nat) (pc' : Nat) (hp : pc + 3 = pc') {x y : Int32} {off : Int} (hd : decode cc pc = .ok (.if_icmp .lt off, 3)) (ht : (pc : Int) + off = (tgt : Int)) (kt : x < y → ST g kc ks tgt L S ws) (kf : ¬ x < y → ST g kc ks pc' L S ws) : ST g kc ks pc L (.int y :: .int x :: S) ws := by
  subst hp; exact fun H locs ls hP hD hS hl => lv_icmp_lt G.hx G.hb hd ht (fun c => kt c H locs ls hP hD hS hl) (fun c => kf c H locs ls hP hD hS hl)
theorem st_if_ge (G : GOOD g own cc nL rm) (tgt : Nat) (pc' : Nat) (hp : pc + 3 = pc') {x : Int32} {off : Int} (hd : decode cc pc = .ok (.ifCond .ge off, 3)) (ht : (pc : Int) + off = (tgt : Int)) (kt : 0 ≤ x → ST g kc ks tgt L S ws) (kf : ¬ 0 ≤ x → ST g kc ks pc' L S ws) : ST g kc ks pc L (.int x :: S) ws := by
  subst hp; exact fun H locs ls hP hD hS hl => lv_if_ge G.hx G.hb hd ht (fun c => kt c H locs ls hP hD hS hl) (fun c => kf c H locs ls hP hD hS hl)
theorem st_icmp_ge (G : GOOD g own cc nL rm) (tgt : Nat) (pc' : Nat) (hp : pc + 3 = pc') {x y : Int32} {off : Int} (hd : decode cc pc = .ok (.if_icmp .ge off, 3)) (ht : (pc : Int) + off = (tgt : Int)) (kt : y ≤ x → ST g kc ks tgt L S ws) (kf : ¬ y ≤ x → ST g kc ks pc' L S ws) : ST g kc ks pc L (.int y :: .int x :: S) ws := by
  subst hp; exact fun H locs ls hP hD hS hl => lv_icmp_ge G.hx G.hb hd ht (fun c => kt c H locs ls hP hD hS hl) (fun c => kf c H locs ls hP hD hS hl)
theorem st_if_gt (G : GOOD g own cc nL rm) (tgt : Nat) (pc' : Nat) (hp : pc + 3 = pc') {x : Int32} {off : Int} (hd : decode cc pc = .ok (.ifCond .gt off, 3)) (ht : (pc : Int) + off = (tgt : Int)) (kt : 0 < x → ST g kc ks tgt L S ws) (kf : ¬ 0 < x → ST g kc ks pc' L S ws) : ST g kc ks pc L (.int x :: S) ws := by
  subst hp; exact fun H locs ls hP hD hS hl => lv_if_gt G.hx G.hb hd ht (fun c => kt c H locs ls hP hD hS hl) (fun c => kf c H locs ls hP hD hS hl)
theorem st_icmp_gt (G : GOOD g own cc nL rm) (tgt : Nat) (pc' : Nat) (hp : pc + 3 = pc') {x y : Int32} {off : Int} (hd : decode cc pc = .ok (.if_icmp .gt off, 3)) (ht : (pc : Int) + off = (tgt : Int)) (kt : y < x → ST g kc ks tgt L S ws) (kf : ¬ y < x → ST g kc ks pc' L S ws) : ST g kc ks pc L (.int y :: .int x :: S) ws := by
  subst hp; exact fun H locs ls hP hD hS hl => lv_icmp_gt G.hx G.hb hd ht (fun c => kt c H locs ls hP hD hS hl) (fun c => kf c H locs ls hP hD hS hl)
theorem st_if_le (G : GOOD g own cc nL rm) (tgt : Nat) (pc' : Nat) (hp : pc + 3 = pc') {x : Int32} {off : Int} (hd : decode cc pc = .ok (.ifCond .le off, 3)) (ht : (pc : Int) + off = (tgt : Int)) (kt : x ≤ 0 → ST g kc ks tgt L S ws) (kf : ¬ x ≤ 0 → ST g kc ks pc' L S ws) : ST g kc ks pc L (.int x :: S) ws := by
  subst hp; exact fun H locs ls hP hD hS hl => lv_if_le G.hx G.hb hd ht (fun c => kt c H locs ls hP hD hS hl) (fun c => kf c H locs ls hP hD hS hl)
theorem st_icmp_le (G : GOOD g own cc nL rm) (tgt : Nat) (pc' : Nat) (hp : pc + 3 = pc') {x y : Int32} {off : Int} (hd : decode cc pc = .ok (.if_icmp .le off, 3)) (ht : (pc : Int) + off = (tgt : Int)) (kt : x ≤ y → ST g kc ks tgt L S ws) (kf : ¬ x ≤ y → ST g kc ks pc' L S ws) : ST g kc ks pc L (.int y :: .int x :: S) ws := by
  subst hp; exact fun H locs ls hP hD hS hl => lv_icmp_le G.hx G.hb hd ht (fun c => kt c H locs ls hP hD hS hl) (fun c => kf c H locs ls hP hD hS hl)
theorem st_goto (G : GOOD g own cc nL rm) (tgt : Nat) {off : Int} (hd : decode cc pc = .ok (.goto off, 3)) (ht : (pc : Int) + off = (tgt : Int)) (n : ST g kc ks tgt L S ws) : ST g kc ks pc L S ws :=
  fun H locs ls hP hD hS hl => lv_goto G.hx G.hb hd ht (n H locs ls hP hD hS hl)
theorem st_tableIn (G : GOOD g own cc nL rm) (tgt : Nat) {dflt lo hi : Int} {offs : Array Int} {len : Nat} {x : Int32} {off : Int} (hd : decode cc pc = .ok (.tableswitch dflt lo hi offs, len)) (h1 : ¬ x.toInt < lo) (h2 : ¬ hi < x.toInt) (ho : offs[(x.toInt - lo).toNat]? = some off) (ht : (pc : Int) + off = (tgt : Int)) (n : ST g kc ks tgt L S ws) : ST g kc ks pc L (.int x :: S) ws :=
  fun H locs ls hP hD hS hl => lv_tableIn G.hx G.hb hd h1 h2 ho ht (n H locs ls hP hD hS hl)
theorem st_tableOut (G : GOOD g own cc nL rm) (tgt : Nat) {dflt lo hi : Int} {offs : Array Int} {len : Nat} {x : Int32} (hd : decode cc pc = .ok (.tableswitch dflt lo hi offs, len)) (h : x.toInt < lo ∨ hi < x.toInt) (ht : (pc : Int) + dflt = (tgt : Int)) (n : ST g kc ks tgt L S ws) : ST g kc ks pc L (.int x :: S) ws :=
  fun H locs ls hP hD hS hl => lv_tableOut G.hx G.hb hd h ht (n H locs ls hP hD hS hl)
theorem st_lookup (G : GOOD g own cc nL rm) (tgt : Nat) {dflt : Int} {ps : Array (Int × Int)} {len : Nat} {x : Int32} {off : Int} (hd : decode cc pc = .ok (.lookupswitch dflt ps, len)) (hp : (ps.toList.zip (ps.toList.drop 1)).all (fun (a, next) => a.1 < next.1) = true) (ho : Op.lookupswitch.offset ps.toList dflt x.toInt = off) (ht : (pc : Int) + off = (tgt : Int)) (n : ST g kc ks tgt L S ws) : ST g kc ks pc L (.int x :: S) ws :=
  fun H locs ls hP hD hS hl => lv_lookup G.hx G.hb hd hp ho ht (n H locs ls hP hD hS hl)
theorem st_dup (G : GOOD g own cc nL rm) (pc' : Nat) (hp : pc + 1 = pc') {v : Value} (hd : decode cc pc = .ok (.dup, 1)) (hc : v.category = 1) (n : ST g kc ks pc' L (v :: v :: S) ws) : ST g kc ks pc L (v :: S) ws := by
  subst hp; exact fun H locs ls hP hD hS hl => lv_dup G.hx G.hb hd hc (n H locs ls hP hD hS hl)
theorem st_dup2 (G : GOOD g own cc nL rm) (pc' : Nat) (hp : pc + 1 = pc') {v u : Value} (hd : decode cc pc = .ok (.dup2, 1)) (hc : v.category = 1) (hc2 : u.category = 1) (n : ST g kc ks pc' L (v :: u :: v :: u :: S) ws) : ST g kc ks pc L (v :: u :: S) ws := by
  subst hp; exact fun H locs ls hP hD hS hl => lv_dup2_11 G.hx G.hb hd hc hc2 (n H locs ls hP hD hS hl)
/-- a field: hin, hw by its class -/
theorem st_get {C : String} {T : u_T} {N ci idx : Nat} (G : GOOD g own cc nL rm) (hin : ∀ w ∈ u_ws C T N, w ∈ GW) (hc : vwCl[ci]? = some (C, T, N)) (k : Nat) (hk : k < N) (hw : Cond.fieldLink own idx (T k).1 (T k).2.1 (T k).2.2.1 ∈ GW) (pc' : Nat) (hp : pc + 3 = pc') (q0 : Nat) {a : Nat} {fs : List Value} (he : ws[q0]? = some (a, .inr (ci, fs))) {v : Value} (hv : fs[k]? = some v) (hd : decode cc pc = .ok (.getfield idx, 3)) (n : ST g kc ks pc' L (v :: S) ws) : ST g kc ks pc L (.ref a :: S) ws := by
  subst hp; exact fun H locs ls hP hD hS hl => va_get (D := g.D) (cl := vwCl) G.hx G.hb G.hts hin G.hown G.hK hP q0 he hc k hk (G.hts _ hw) (fun _ h => h) hv hd (n H locs ls hP hD hS hl)
theorem st_put {C : String} {T : u_T} {N ci idx : Nat} (G : GOOD g own cc nL rm) (hin : ∀ w ∈ u_ws C T N, w ∈ GW) (ty0 : Nat → FieldType) (hty : ∀ k, k < N → parseFieldDescriptor (T k).2.2.1 = some (ty0 k)) (hnm : ∀ a, a < N → ∀ b, b < N → a ≠ b → (T a).2.1 ≠ (T b).2.1) (hc : vwCl[ci]? = some (C, T, N)) (k : Nat) (hk : k < N) (hw : Cond.fieldLink own idx (T k).1 (T k).2.1 (T k).2.2.1 ∈ GW) (hfin : (T k).2.2.2 = false) (ws' : va_W) (pc' : Nat) (hp : pc + 3 = pc') (q0 : Nat) {a : Nat} {fs : List Value} (he : ws[q0]? = some (a, .inr (ci, fs))) {v : Value} (hn : narrow (ty0 k) v = v) (hfit : fits (ty0 k) v = true) (hl0 : k < fs.length) (hws : ws.set q0 (a, .inr (ci, fs.set k v)) = ws') (hd : decode cc pc = .ok (.putfield idx, 3)) (n : ST g kc ks pc' L S ws') : ST g kc ks pc L (v :: .ref a :: S) ws := by
  subst hp; subst hws; exact fun H locs ls hP hD hS hl => va_put (D := g.D) (cl := vwCl) G.hx G.hb G.hts hin ty0 hty hnm G.hown G.hK hP hD hS q0 he hc k hk (G.hts _ hw) (fun _ h => h) hfin (hty k hk) hn hfit hl0 hd (fun H1 locs1 hP1 hD1 hS1 => n H1 locs1 ls hP1 hD1 hS1 hl)
/-- a final field in its constructor -/
theorem st_putF {C : String} {T : u_T} {N ci idx : Nat} (G : GOOD g own cc nL rm) (hini : g.meth.name = "<init>") (hin : ∀ w ∈ u_ws C T N, w ∈ GW) (ty0 : Nat → FieldType) (hty : ∀ k, k < N → parseFieldDescriptor (T k).2.2.1 = some (ty0 k)) (hnm : ∀ a, a < N → ∀ b, b < N → a ≠ b → (T a).2.1 ≠ (T b).2.1) (hc : vwCl[ci]? = some (C, T, N)) (k : Nat) (hk : k < N) (hw : Cond.fieldLink own idx (T k).1 (T k).2.1 (T k).2.2.1 ∈ GW) (hfin : (T k).2.2.2 = true) (hdecl : (T k).1 = own) (ws' : va_W) (pc' : Nat) (hp : pc + 3 = pc') (q0 : Nat) {a : Nat} {fs : List Value} (he : ws[q0]? = some (a, .inr (ci, fs))) {v : Value} (hn : narrow (ty0 k) v = v) (hfit : fits (ty0 k) v = true) (hl0 : k < fs.length) (hws : ws.set q0 (a, .inr (ci, fs.set k v)) = ws') (hd : decode cc pc = .ok (.putfield idx, 3)) (n : ST g kc ks pc' L S ws') : ST g kc ks pc L (v :: .ref a :: S) ws := by
  subst hp; subst hws; exact fun H locs ls hP hD hS hl => va_putF (D := g.D) (cl := vwCl) G.hx G.hb G.hts hin ty0 hty hnm G.hown G.hK hP hD hS q0 he hc k hk (G.hts _ hw) (fun _ h => h) hfin hini hdecl (hty k hk) hn hfit hl0 hd (fun H1 locs1 hP1 hD1 hS1 => n H1 locs1 ls hP1 hD1 hS1 hl)
theorem st_iald (G : GOOD g own cc nL rm) (pc' : Nat) (hp : pc + 1 = pc') (q0 : Nat) {a n : Nat} {f : Nat → Int32} (ha : ws[q0]? = some (a, .inl (g.X.cI, n, .inl f))) {i : Int32} (hin : vp_in i n) (hd : decode cc pc = .ok (.iaload, 1)) (k : ST g kc ks pc' L (.int (f i.toNatClampNeg) :: S) ws) : ST g kc ks pc L (.int i :: .ref a :: S) ws := by
  subst hp; exact fun H locs ls hP hD hS hl => va_iald (D := g.D) (cl := vwCl) G.hx G.hb G.hK hP q0 0 ha rfl hin hd (k H locs ls hP hD hS hl)
theorem st_iast (G : GOOD g own cc nL rm) (ws' : va_W) (pc' : Nat) (hp : pc + 1 = pc') (q0 : Nat) {a n : Nat} {f : Nat → Int32} (ha : ws[q0]? = some (a, .inl (g.X.cI, n, .inl f))) {i x : Int32} (hin : vp_in i n) (hws : ws.set q0 (a, .inl (g.X.cI, n, .inl (upd f i.toNatClampNeg x))) = ws') (hd : decode cc pc = .ok (.iastore, 1)) (k : ST g kc ks pc' L S ws') : ST g kc ks pc L (.int x :: .int i :: .ref a :: S) ws := by
  subst hp; subst hws; exact fun H locs ls hP hD hS hl => va_iast (D := g.D) (cl := vwCl) G.hx G.hb G.hK hP hD hS q0 0 ha rfl hin hd (fun H1 locs1 hP1 hD1 hS1 => k H1 locs1 ls hP1 hD1 hS1 hl)
theorem st_aald (G : GOOD g own cc nL rm) (pc' : Nat) (hp : pc + 1 = pc') (q0 : Nat) {a n : Nat} {f : Nat → Option Nat} (ha : ws[q0]? = some (a, .inl (g.X.cS, n, .inr (.inr (.inr (.inr f)))))) {i : Int32} (hin : vp_in i n) {v : Value} (hv : va_rf (f i.toNatClampNeg) = v) (hd : decode cc pc = .ok (.aaload, 1)) (k : ST g kc ks pc' L (v :: S) ws) : ST g kc ks pc L (.int i :: .ref a :: S) ws := by
  subst hp; subst hv; exact fun H locs ls hP hD hS hl => va_aldq (D := g.D) (cl := vwCl) (C := "DirtPress$Sheet") G.hx G.hb G.hK hP q0 1 ha rfl hin hd (k H locs ls hP hD hS hl)
theorem st_aast (G : GOOD g own cc nL rm) (ws' : va_W) (pc' : Nat) (hp : pc + 1 = pc') (q0 qk : Nat) {a n v : Nat} {vs : List Value} {f : Nat → Option Nat} (ha : ws[q0]? = some (a, .inl (g.X.cS, n, .inr (.inr (.inr (.inr f)))))) (hv : ws[qk]? = some (v, .inr (1, vs))) {i : Int32} (hin : vp_in i n) (hws : ws.set q0 (a, .inl (g.X.cS, n, .inr (.inr (.inr (.inr (va_up f i.toNatClampNeg (some v))))))) = ws') (hd : decode cc pc = .ok (.aastore, 1)) (k : ST g kc ks pc' L S ws') : ST g kc ks pc L (.ref v :: .int i :: .ref a :: S) ws := by
  subst hp; subst hws; exact fun H locs ls hP hD hS hl => va_astq (D := g.D) (cl := vwCl) (r := (RX1, TX1, 3)) G.hx G.hb G.hK hP hD hS q0 1 qk 1 ha rfl hv rfl hin hd (fun H1 locs1 hP1 hD1 hS1 => k H1 locs1 ls hP1 hD1 hS1 hl)
theorem st_alen (G : GOOD g own cc nL rm) (pc' : Nat) (hp : pc + 1 = pc') (q0 : Nat) {a n : Nat} {f : Nat → Int32} (ha : ws[q0]? = some (a, .inl (g.X.cI, n, .inl f))) (v : Int32) (hv : Int32.ofNat n = v) (hd : decode cc pc = .ok (.arraylength, 1)) (k : ST g kc ks pc' L (.int v :: S) ws) : ST g kc ks pc L (.ref a :: S) ws := by
  subst hp; exact fun H locs ls hP hD hS hl => va_alen (D := g.D) (cl := vwCl) G.hx G.hb G.hK hP q0 0 ha rfl hv hd (k H locs ls hP hD hS hl)
/-- the static arrays -/
theorem st_getA (G : GOOD g own cc nL rm) {idx : Nat} (hw : Cond.fieldLink own idx "DirtPress" "ABOVE" "[I" ∈ GW) (pc' : Nat) (hp : pc + 3 = pc') (hd : decode cc pc = .ok (.getstatic idx, 3)) (k : ST g kc ks pc' L (.ref g.X.tA :: S) ws) : ST g kc ks pc L S ws := by
  subst hp; exact fun H locs ls hP hD hS hl => va_gets G.hx G.hb G.hSE.1.1 hS G.hown (G.hts _ hw) (fun _ h => h) hd (k H locs ls hP hD hS hl)
theorem st_getAN (G : GOOD g own cc nL rm) {idx : Nat} (hw : (own, idx, "DirtPress", "ABOVE", "[I") ∈ NFs) (pc' : Nat) (hp : pc + 3 = pc') (hd : decode cc pc = .ok (.getstatic idx, 3)) (k : ST g kc ks pc' L (.ref g.X.tA :: S) ws) : ST g kc ks pc L S ws := by
  subst hp; exact fun H locs ls hP hD hS hl => va_getsN G.hx G.hb G.hSE.1.1 hS G.hown (va_Nw.use rfl (G.hN.2.1 _ hw)) (fun _ h => h) hd (k H locs ls hP hD hS hl)
theorem st_getNaN (G : GOOD g own cc nL rm) {idx : Nat} (hw : (own, idx, "DirtPress", "NAMES", "[C") ∈ NFs) (pc' : Nat) (hp : pc + 3 = pc') (hd : decode cc pc = .ok (.getstatic idx, 3)) (k : ST g kc ks pc' L (.ref g.X.tN :: S) ws) : ST g kc ks pc L S ws := by
  subst hp; exact fun H locs ls hP hD hS hl => va_getsN G.hx G.hb G.hSE.2.1.1 hS G.hown (va_Nw.use rfl (G.hN.2.1 _ hw)) (fun _ h => h) hd (k H locs ls hP hD hS hl)
theorem st_getBN (G : GOOD g own cc nL rm) {idx : Nat} (hw : (own, idx, "DirtPress", "BODIES", "[I") ∈ NFs) (pc' : Nat) (hp : pc + 3 = pc') (hd : decode cc pc = .ok (.getstatic idx, 3)) (k : ST g kc ks pc' L (.ref g.X.tB :: S) ws) : ST g kc ks pc L S ws := by
  subst hp; exact fun H locs ls hP hD hS hl => va_getsN G.hx G.hb G.hSE.2.2.1 hS G.hown (va_Nw.use rfl (G.hN.2.1 _ hw)) (fun _ h => h) hd (k H locs ls hP hD hS hl)
def cAb (i : Int32) : Int32 := ([-1, 0, 0, 0, 1, 2, 0] : List Int32).getD i.toNatClampNeg 0
def cNa (i : Int32) : Int32 := ([119, 115, 121, 118, 115, 110] : List Int32).getD i.toNatClampNeg 0
def cBo (i : Int32) : Int32 := ([10, 11, 12, 13, 20, 0, 0, 21, 0, 30, 0, 0, 0, 0, 40, 0, 50, 0, 51, 0, 0, 60, 0, 0, 70, 71, 0, 0] : List Int32).getD i.toNatClampNeg 0
theorem st_aldA (G : GOOD g own cc nL rm) (pc' : Nat) (hp : pc + 1 = pc') {i : Int32} (hin : vp_in i 7) (hd : decode cc pc = .ok (.iaload, 1)) (k : ST g kc ks pc' L (.int (cAb i) :: S) ws) : ST g kc ks pc L (.int i :: .ref g.X.tA :: S) ws := by
  subst hp; exact fun H locs ls hP hD hS hl => va_ti G.hx G.hb G.hSE.1.2 hS hin rfl hd (k H locs ls hP hD hS hl)
theorem st_aldN (G : GOOD g own cc nL rm) (pc' : Nat) (hp : pc + 1 = pc') {i : Int32} (hin : vp_in i 6) (hd : decode cc pc = .ok (.caload, 1)) (k : ST g kc ks pc' L (.int (cNa i) :: S) ws) : ST g kc ks pc L (.int i :: .ref g.X.tN :: S) ws := by
  subst hp; exact fun H locs ls hP hD hS hl => va_tc G.hx G.hb G.hSE.2.1.2 hS hin rfl hd (k H locs ls hP hD hS hl)
theorem st_aldB (G : GOOD g own cc nL rm) (pc' : Nat) (hp : pc + 1 = pc') {i : Int32} (hin : vp_in i 28) (hd : decode cc pc = .ok (.iaload, 1)) (k : ST g kc ks pc' L (.int (cBo i) :: S) ws) : ST g kc ks pc L (.int i :: .ref g.X.tB :: S) ws := by
  subst hp; exact fun H locs ls hP hD hS hl => va_ti G.hx G.hb G.hSE.2.2.2 hS hin rfl hd (k H locs ls hP hD hS hl)
end ROWS
/-! cells put back behind a call: at the places is the new ones, further new ones at the end -/
def wput : va_W → List Nat → va_W → va_W
  | ws, [], w => ws ++ w
  | ws, i :: is, c :: w => wput (ws.set i c) is w
  | ws, _ :: _, [] => ws
theorem wput_mem : ∀ (is : List Nat) (ws w : va_W) (k : Nat) (q : Nat × va_E), (wput ws is w)[k]? = some q → is.length ≤ w.length →
    (∃ j, w[j]? = some q ∧ (is[j]? = some k ∨ (is.length ≤ j ∧ k = ws.length + (j - is.length)))) ∨ (k ∉ is ∧ ws[k]? = some q)
  | [], ws, w, k, q, h, _ => by
    rw [wput] at h
    by_cases hk : k < ws.length
    · rw [List.getElem?_append_left hk] at h
      exact Or.inr ⟨List.not_mem_nil, h⟩
    · have hk : ws.length ≤ k := Nat.le_of_not_lt hk
      rw [List.getElem?_append_right hk] at h
      exact Or.inl ⟨k - ws.length, h, Or.inr ⟨Nat.zero_le _, by simp; omega⟩⟩
  | i :: is, ws, [], k, q, _, hl => by simp at hl
  | i :: is, ws, c :: w, k, q, h, hl => by
    rw [wput] at h
    rcases wput_mem is (ws.set i c) w k q h (by simpa using hl) with ⟨j, h1, h2⟩ | ⟨h1, h2⟩
    · refine Or.inl ⟨j + 1, by simpa using h1, ?_⟩
      rcases h2 with h2 | ⟨h2, h3⟩
      · exact Or.inl (by simpa using h2)
      · refine Or.inr ⟨by simpa using h2, ?_⟩
        rw [List.length_set] at h3
        simp only [List.length_cons]
        omega
    · by_cases hk : i = k
      · subst hk
        by_cases hi : i < ws.length
        · rw [List.getElem?_set_self hi] at h2
          exact Or.inl ⟨0, by simpa using h2, Or.inl (by simp)⟩
        · rw [List.getElem?_eq_none (by rw [List.length_set]; omega)] at h2
          cases h2
      · rw [List.getElem?_set_ne hk] at h2
        exact Or.inr ⟨by simp only [List.mem_cons, not_or]; exact ⟨fun e => hk e.symm, h1⟩, h2⟩
theorem wput_P {A0 : Nat → Prop} {D : va_G} {cl : List vw_C} {ws wc w1 : va_W} {H H1 : Heap} (hP : va_P D cl ws H) (hD : va_D A0 ws) (is : List Nat) (hC : is.map (fun i => ws[i]?) = wc.map some) (hle : wc.length ≤ w1.length)
    (hk : ∀ q : Nat, q < H.size → ¬ va_A wc H.size q → H1[q]? = H[q]?) (hF : ∀ q, va_A wc H.size q → A0 q) (hP1 : va_P D cl w1 H1) (hD1 : va_D (va_A wc H.size) w1) : va_P D cl (wput ws is w1) H1 ∧ va_D A0 (wput ws is w1) := by
  have hlen : is.length = wc.length := by have h := congrArg List.length hC; simpa using h
  have apart : ∀ (k : Nat) (q : Nat × va_E), k ∉ is → ws[k]? = some q → q.1 < H.size ∧ ¬ va_A wc H.size q.1 := by
    intro k q hn hq
    have hl := (hP k q hq).lt
    refine ⟨hl, fun h => ?_⟩
    rcases h with ⟨k2, e, h⟩ | h
    · have h1 : (is.map (fun i => ws[i]?))[k2]? = some (some (q.1, e)) := by rw [hC, List.getElem?_map, h]; rfl
      rw [List.getElem?_map] at h1
      cases hi : is[k2]? with
      | none => rw [hi] at h1; cases h1
      | some i =>
        rw [hi] at h1
        have h4 : ws[i]? = some (q.1, e) := Option.some.inj h1
        have hij := hD.1 k i q (q.1, e) hq h4 rfl
        subst hij
        exact hn (List.mem_of_getElem? hi)
    · omega
  refine ⟨fun k q hq => ?_, fun i j x y hx hy hxy => ?_, fun k q hq => ?_⟩
  · rcases wput_mem is ws w1 k q hq (by omega) with ⟨j, h1, -⟩ | ⟨h1, h2⟩
    · exact hP1 j q h1
    · obtain ⟨g1, g2⟩ := apart k q h1 h2
      exact (hP k q h2).kept (hk q.1 g1 g2)
  · rcases wput_mem is ws w1 i x hx (by omega) with ⟨a, h1, h2⟩ | ⟨h1, h2⟩ <;> rcases wput_mem is ws w1 j y hy (by omega) with ⟨b, h3, h4⟩ | ⟨h3, h4⟩
    · have hab := hD1.1 a b x y h1 h3 hxy
      subst hab
      rcases h2 with h2 | ⟨h2, h2'⟩ <;> rcases h4 with h4 | ⟨h4, h4'⟩
      · rw [h2] at h4; exact Option.some.inj h4
      · rw [List.getElem?_eq_none h4] at h2; cases h2
      · rw [List.getElem?_eq_none h2] at h4; cases h4
      · omega
    · exact absurd (by rw [← hxy]; exact hD1.2 a x h1) (apart j y h3 h4).2
    · exact absurd (by rw [hxy]; exact hD1.2 b y h3) (apart i x h1 h2).2
    · exact hD.1 i j x y h2 h4 hxy
  · rcases wput_mem is ws w1 k q hq (by omega) with ⟨j, h1, -⟩ | ⟨-, h2⟩
    · exact hF _ (hD1.2 j q h1)
    · exact hD.2 k q h2
theorem sub_of {D : va_G} {cl : List vw_C} {ws wc : va_W} {H : Heap} (hP : va_P D cl ws H) (is : List Nat) (e : is.map (fun i => ws[i]?) = wc.map some) : va_P D cl wc H :=
  hP.sub is (by
    have h1 : is.filterMap (fun i => ws[i]?) = (is.map (fun i => ws[i]?)).filterMap id := by rw [List.filterMap_map]; rfl
    rw [h1, e, List.filterMap_map]; simp)
/-! contracts -/
def PreW (D : va_G) (X : XT) (ws : va_W) (sz : Nat) (U : State) : Prop := U.heap.size = sz ∧ va_P D vwCl ws U.heap ∧ va_K D vwCl (TY X) U ∧ va_D (fun _ => True) ws ∧ hNW U ∧ SE X (va_A ws sz) U U.heap
def PostW (D : va_G) (ws : va_W) (sz : Nat) (w : va_W) (t : State) : Prop := va_P D vwCl w t.heap ∧ va_D (va_A ws sz) w ∧ ws.length ≤ w.length
def CTi (l : Launch) (D : va_G) (X : XT) (y : MethodName) (cc : ByteArray) (nL : Nat) (rt : FieldType) (rm : Room) (av : List Value) (ws : va_W) (post : Int32 → va_W → Prop) : Prop :=
  ∀ sz, Met l y (.code y cc nL (some rt) :: GW) rm (va_Pc av (PreW D X ws sz)) (va_Qi post (PostW D ws sz) (va_A ws sz)) 0 0 (va_A ws sz)
def CTv (l : Launch) (D : va_G) (X : XT) (y : MethodName) (cc : ByteArray) (nL : Nat) (rm : Room) (mc ms : Nat) (av : List Value) (ws : va_W) (post : va_W → Prop) : Prop :=
  ∀ sz, Met l y (.code y cc nL none :: GW) rm (va_Pc av (PreW D X ws sz)) (va_Qv post (PostW D ws sz) (va_A ws sz)) mc ms (va_A ws sz)
def CTa (l : Launch) (D : va_G) (X : XT) (y : MethodName) (cc : ByteArray) (nL : Nat) (rt : FieldType) (rm : Room) (av : List Value) (ws : va_W) (ad : Nat → Nat) (post : Nat → va_W → Prop) : Prop :=
  ∀ sz, Met l y (.code y cc nL (some rt) :: GW) rm (va_Pc av (PreW D X ws sz)) (va_Qr (fun u : Nat × va_W => post u.1 u.2) (fun u a t => a = ad u.1 ∧ PostW D ws sz u.2 t) (va_A ws sz)) 0 0 (va_A ws sz)
def RETi (g : GT) (cc : ByteArray) (n0 : Nat) (post : Int32 → va_W → Prop) : Prop := ∀ (pc : Nat) (L : List (Nat × Value)) (v : Int32) (w : va_W), decode cc pc = .ok (.ireturn, 1) → n0 ≤ w.length → post v w → ST g 0 0 pc L [.int v] w
def RETz (g : GT) (cc : ByteArray) (n0 : Nat) (post : Int32 → va_W → Prop) : Prop := ∀ (pc : Nat) (L : List (Nat × Value)) (v : Int32) (w : va_W), decode cc pc = .ok (.ireturn, 1) → n0 ≤ w.length → narrow .boolean (.int v) = .int v → post v w → ST g 0 0 pc L [.int v] w
def RETv (g : GT) (cc : ByteArray) (mc ms n0 : Nat) (post : va_W → Prop) : Prop := ∀ (pc : Nat) (L : List (Nat × Value)) (w : va_W), decode cc pc = .ok (.return_, 1) → n0 ≤ w.length → post w → ST g mc ms pc L [] w
def RETa (g : GT) (cc : ByteArray) (n0 : Nat) (ad : Nat → Nat) (post : Nat → va_W → Prop) : Prop := ∀ (pc : Nat) (L : List (Nat × Value)) (k : Nat) (w : va_W), decode cc pc = .ok (.areturn, 1) → n0 ≤ w.length → post k w → ST g 0 0 pc L [.ref (ad k)] w
section CTS
variable {l : Launch} {D : va_G} {X : XT} {y : MethodName} {cc : ByteArray} {nL mc ms : Nat} {rm : Room} {av : List Value} {ws : va_W}
theorem ct_i {post : Int32 → va_W → Prop} (hy : plainName y.cls = true) (hlen : (lg_sl av).length ≤ nL) (body : ∀ g : GT, g.l = l → g.D = D → g.X = X → GOOD g y.cls cc nL rm → RETi g cc ws.length post → ST g 0 0 0 (lv_args 0 av) [] ws) : CTi l D X y cc nL .int rm av ws post := by
  intro sz
  refine Met.ofW (cc := cc) (maxL := nL) (ret := some .int) hy rfl ?_
  intro p e s m args below meth c s₁ B hml hv
  obtain ⟨rfl, hsz, hP, hK, hD, hN, hSE⟩ := hv
  subst hsz
  have hts := atoms_spec (ws := .code y cc nL (some .int) :: GW) B.pre
  have hl := lv_entry av hlen
  rw [lg_entry_eq]
  refine body ((p, l, e, rm, s, m), (av.toArray, below, meth, c, MQ below (va_Qi post (PostW D ws s.heap.size) (va_A ws s.heap.size)) av.toArray s 0 0 (va_A ws s.heap.size), va_A ws s.heap.size), (D, X, nL)) rfl rfl rfl ⟨⟨B.exec, B.bytes, hml, rfl, findClass_of_methodNamed B.named⟩, fun w hw => hts w (List.mem_cons_of_mem _ hw), hK, fun q h => Or.inr h, hN, hSE, rfl, B.notSynchronized⟩ ?_ s.heap [] _ hP hD.self va_S.rf hl
  intro pc L v w hd hlen hq H locs ls hP hD hS hl
  exact W.iret B.exec B.bytes B.returns (fun t ht hW => ⟨⟨v, w, rfl, hq, by rw [ht]; exact hP, hD, hlen⟩, va_S.F hS ht⟩) hS.2.2 hd B.notSynchronized
theorem ct_z {post : Int32 → va_W → Prop} (hy : plainName y.cls = true) (hlen : (lg_sl av).length ≤ nL) (body : ∀ g : GT, g.l = l → g.D = D → g.X = X → GOOD g y.cls cc nL rm → RETz g cc ws.length post → ST g 0 0 0 (lv_args 0 av) [] ws) : CTi l D X y cc nL .boolean rm av ws post := by
  intro sz
  refine Met.ofW (cc := cc) (maxL := nL) (ret := some .boolean) hy rfl ?_
  intro p e s m args below meth c s₁ B hml hv
  obtain ⟨rfl, hsz, hP, hK, hD, hN, hSE⟩ := hv
  subst hsz
  have hts := atoms_spec (ws := .code y cc nL (some .boolean) :: GW) B.pre
  have hl := lv_entry av hlen
  rw [lg_entry_eq]
  refine body ((p, l, e, rm, s, m), (av.toArray, below, meth, c, MQ below (va_Qi post (PostW D ws s.heap.size) (va_A ws s.heap.size)) av.toArray s 0 0 (va_A ws s.heap.size), va_A ws s.heap.size), (D, X, nL)) rfl rfl rfl ⟨⟨B.exec, B.bytes, hml, rfl, findClass_of_methodNamed B.named⟩, fun w hw => hts w (List.mem_cons_of_mem _ hw), hK, fun q h => Or.inr h, hN, hSE, rfl, B.notSynchronized⟩ ?_ s.heap [] _ hP hD.self va_S.rf hl
  intro pc L v w hd hlen hn hq H locs ls hP hD hS hl
  exact W.zret B.exec B.bytes B.returns hn (fun t ht hW => ⟨⟨v, w, rfl, hq, by rw [ht]; exact hP, hD, hlen⟩, va_S.F hS ht⟩) hS.2.2 hd B.notSynchronized
theorem ct_v {post : va_W → Prop} (hy : plainName y.cls = true) (hlen : (lg_sl av).length ≤ nL) (body : ∀ g : GT, g.l = l → g.D = D → g.X = X → GOOD g y.cls cc nL rm → g.meth.name = y.name → RETv g cc mc ms ws.length post → ST g 0 0 0 (lv_args 0 av) [] ws) : CTv l D X y cc nL rm mc ms av ws post := by
  intro sz
  refine Met.ofW (cc := cc) (maxL := nL) (ret := none) hy rfl ?_
  intro p e s m args below meth c s₁ B hml hv
  obtain ⟨rfl, hsz, hP, hK, hD, hN, hSE⟩ := hv
  subst hsz
  have hts := atoms_spec (ws := .code y cc nL none :: GW) B.pre
  have hl := lv_entry av hlen
  rw [lg_entry_eq]
  refine body ((p, l, e, rm, s, m), (av.toArray, below, meth, c, MQ below (va_Qv post (PostW D ws s.heap.size) (va_A ws s.heap.size)) av.toArray s mc ms (va_A ws s.heap.size), va_A ws s.heap.size), (D, X, nL)) rfl rfl rfl ⟨⟨B.exec, B.bytes, hml, rfl, findClass_of_methodNamed B.named⟩, fun w hw => hts w (List.mem_cons_of_mem _ hw), hK, fun q h => Or.inr h, hN, hSE, rfl, B.notSynchronized⟩ (name_of_methodNamed B.named B.method).1 ?_ s.heap [] _ hP hD.self va_S.rf hl
  intro pc L w hd hlen hq H locs ls hP hD hS hl
  exact W.vret B.exec B.bytes B.returns (fun t ht hW => ⟨⟨w, rfl, hq, by rw [ht]; exact hP, hD, hlen⟩, va_S.F hS ht⟩) hS.2.2 hd B.notSynchronized
theorem ct_a {C : String} {ad : Nat → Nat} {post : Nat → va_W → Prop} (hy : plainName y.cls = true) (hlen : (lg_sl av).length ≤ nL) (body : ∀ g : GT, g.l = l → g.D = D → g.X = X → GOOD g y.cls cc nL rm → RETa g cc ws.length ad post → ST g 0 0 0 (lv_args 0 av) [] ws) : CTa l D X y cc nL (.object C) rm av ws ad post := by
  intro sz
  refine Met.ofW (cc := cc) (maxL := nL) (ret := some (.object C)) hy rfl ?_
  intro p e s m args below meth c s₁ B hml hv
  obtain ⟨rfl, hsz, hP, hK, hD, hN, hSE⟩ := hv
  subst hsz
  have hts := atoms_spec (ws := .code y cc nL (some (.object C)) :: GW) B.pre
  have hl := lv_entry av hlen
  rw [lg_entry_eq]
  refine body ((p, l, e, rm, s, m), (av.toArray, below, meth, c, MQ below (va_Qr (fun u : Nat × va_W => post u.1 u.2) (fun u a t => a = ad u.1 ∧ PostW D ws s.heap.size u.2 t) (va_A ws s.heap.size)) av.toArray s 0 0 (va_A ws s.heap.size), va_A ws s.heap.size), (D, X, nL)) rfl rfl rfl ⟨⟨B.exec, B.bytes, hml, rfl, findClass_of_methodNamed B.named⟩, fun w hw => hts w (List.mem_cons_of_mem _ hw), hK, fun q h => Or.inr h, hN, hSE, rfl, B.notSynchronized⟩ ?_ s.heap [] _ hP hD.self va_S.rf hl
  intro pc L k w hd hlen hq H locs ls hP hD hS hl
  exact W.aret B.exec B.bytes B.returns (Or.inl ⟨C, rfl⟩) (Or.inr ⟨_, rfl⟩) (fun t ht hW => ⟨⟨(k, w), ad k, rfl, hq, rfl, by rw [ht]; exact hP, hD, hlen⟩, va_S.F hS ht⟩) hS.2.2 hd B.notSynchronized
end CTS
/-! calls -/
theorem gd_of {ws : List Cond} (h : ∀ w ∈ ws, w ∈ GW) : GoodIn GW ws := fun w hw => gdS w (h w hw)
def LkV (own : String) (idx : Nat) (C : String) (y : MethodName) (bytes : ByteArray) (maxL : Nat) (ret : Option FieldType) (n : Nat) : Prop :=
  (y.cls = C ∧ y.cls ≠ "java/lang/invoke/MethodHandle" ∧ y.cls ≠ "java/lang/invoke/VarHandle" ∧ (parseMethodDescriptor y.desc).map (fun d => d.parameters.length) = some n) ∧
  Cond.methodLink own idx y ∈ GW ∧ Cond.instanceMethod y ∈ GW ∧ Cond.selects C y y ∈ GW ∧ Cond.initialized C ∈ GW ∧ Cond.code y bytes maxL ret ∈ GW
def LkS (own : String) (idx : Nat) (y : MethodName) (bytes : ByteArray) (maxL : Nat) (ret : Option FieldType) (n : Nat) : Prop :=
  (y.cls ≠ "java/lang/invoke/MethodHandle" ∧ y.cls ≠ "java/lang/invoke/VarHandle" ∧ (parseMethodDescriptor y.desc).map (fun d => d.parameters.length) = some n) ∧
  Cond.methodLink own idx y ∈ GW ∧ Cond.static y ∈ GW ∧ Cond.initialized y.cls ∈ GW ∧ Cond.code y bytes maxL ret ∈ GW
def LkN (own : String) (idx : Nat) (y : MethodName) (bytes : ByteArray) (maxL : Nat) (ret : Option FieldType) (n : Nat) : Prop :=
  (y.cls ≠ "java/lang/invoke/MethodHandle" ∧ y.cls ≠ "java/lang/invoke/VarHandle" ∧ (parseMethodDescriptor y.desc).map (fun d => d.parameters.length) = some n) ∧
  (own, idx, y, "DirtPress") ∈ NWs ∧ Cond.static y ∈ GW ∧ Cond.initialized y.cls ∈ GW ∧ Cond.code y bytes maxL ret ∈ GW
def LkI (own : String) (idx : Nat) (y : MethodName) (bytes : ByteArray) (maxL : Nat) (n : Nat) : Prop :=
  (y.name = "<init>" ∧ y.cls ≠ "java/lang/invoke/MethodHandle" ∧ y.cls ≠ "java/lang/invoke/VarHandle" ∧ (parseMethodDescriptor y.desc).map (fun d => d.parameters.length) = some n) ∧
  Cond.methodLink own idx y ∈ GW ∧ Cond.instanceMethod y ∈ GW ∧ Cond.initialized y.cls ∈ GW ∧ Cond.code y bytes maxL none ∈ GW
def LkIN (own : String) (idx : Nat) (y : MethodName) (bytes : ByteArray) (maxL : Nat) (n : Nat) : Prop :=
  (y.name = "<init>" ∧ y.cls ≠ "java/lang/invoke/MethodHandle" ∧ y.cls ≠ "java/lang/invoke/VarHandle" ∧ (parseMethodDescriptor y.desc).map (fun d => d.parameters.length) = some n) ∧
  (own, idx, y, "DirtPress") ∈ NWs ∧ Cond.instanceMethod y ∈ GW ∧ Cond.initialized y.cls ∈ GW ∧ Cond.code y bytes maxL none ∈ GW
theorem LkV.good {own C : String} {idx maxL n : Nat} {y : MethodName} {bytes : ByteArray} {ret : Option FieldType} (h : LkV own idx C y bytes maxL ret n) : GoodIn GW (wsV own idx C y (.code y bytes maxL ret :: GW)) := gd_of (by
  obtain ⟨-, h1, h2, h3, h4, h5⟩ := h
  intro w hw
  simp only [wsV, List.mem_append, List.mem_cons, List.not_mem_nil, or_false] at hw
  rcases hw with (rfl | rfl | rfl | rfl) | rfl | hw <;> assumption)
theorem LkS.good {own : String} {idx maxL n : Nat} {y : MethodName} {bytes : ByteArray} {ret : Option FieldType} (h : LkS own idx y bytes maxL ret n) : GoodIn GW (va_wsS own idx y (.code y bytes maxL ret :: GW)) := gd_of (by
  obtain ⟨-, h1, h2, h3, h4⟩ := h
  intro w hw
  simp only [va_wsS, List.mem_append, List.mem_cons, List.not_mem_nil, or_false] at hw
  rcases hw with (rfl | rfl | rfl) | rfl | hw <;> assumption)
theorem gd_code {y : MethodName} {bytes : ByteArray} {maxL : Nat} {ret : Option FieldType} (h : Cond.code y bytes maxL ret ∈ GW) : GoodIn GW (.code y bytes maxL ret :: GW) := gd_of (by
  intro w hw
  rcases List.mem_cons.mp hw with rfl | hw <;> assumption)
def RMok (rm rmc : Room) (maxL mc ms kc ks : Nat) : Prop := rmc.cells = mc ∧ rmc.slots = ms ∧ (rmc.frames + 1 ≤ rm.frames ∧ 8 + (maxL + 11) + rmc.locals ≤ rm.locals) ∧ kc + mc ≤ rm.cells ∧ ks + ms ≤ rm.slots
theorem wput_self : ∀ (is : List Nat) (ws wc : va_W), is.map (fun i => ws[i]?) = wc.map some → wput ws is wc = ws
  | [], ws, wc, h => by
    have : wc = [] := by cases wc with
      | nil => rfl
      | cons a l => simp at h
    subst this
    simp [wput]
  | i :: is, ws, [], h => by simp at h
  | i :: is, ws, c :: wc, h => by
    simp only [List.map_cons, List.cons.injEq] at h
    have hs : ws.set i c = ws := by
      apply List.ext_getElem?
      intro k
      by_cases hk : i = k
      · subst hk
        have hl := (List.getElem?_eq_some_iff.mp h.1).1
        rw [List.getElem?_set_self hl, h.1]
      · rw [List.getElem?_set_ne hk]
    rw [wput, hs]
    exact wput_self is ws wc h.2
theorem wput_len : ∀ (is : List Nat) (ws w : va_W), w.length = is.length → (wput ws is w).length = ws.length
  | [], ws, w, h => by
    have : w = [] := List.length_eq_zero_iff.mp (by simpa using h)
    subst this
    simp [wput]
  | i :: is, ws, [], h => by simp at h
  | i :: is, ws, c :: w, h => by
    rw [wput, wput_len is (ws.set i c) w (by simpa using h), List.length_set]
theorem wput_eq {ws w ws' : va_W} (n : Nat) (is isR : List Nat) (hc : (List.range n).all (fun k => is.contains k || isR.contains k) = true) (hn : ws.length = n) (hlen : ws'.length = n) (hw : is.map (fun i => ws'[i]?) = w.map some) {wR : va_W} (hR1 : isR.map (fun i => ws'[i]?) = wR.map some) (hR2 : isR.map (fun i => ws[i]?) = wR.map some) : wput ws is w = ws' := by
  have hR : isR.map (fun i => ws'[i]?) = isR.map (fun i => ws[i]?) := hR1.trans hR2.symm
  have hl : w.length = is.length := by have h := congrArg List.length hw; simpa using h.symm
  apply List.ext_getElem?
  intro k
  cases h : (wput ws is w)[k]? with
  | some q =>
    rcases wput_mem is ws w k q h (by omega) with ⟨j, h1, h2⟩ | ⟨h1, h2⟩
    · rcases h2 with h2 | ⟨h2, -⟩
      · have e : (is.map (fun i => ws'[i]?))[j]? = (w.map some)[j]? := by rw [hw]
        rw [List.getElem?_map, List.getElem?_map, h2, h1] at e
        exact (Option.some.inj e).symm
      · have := (List.getElem?_eq_some_iff.mp h1).1
        omega
    · have hk : k < n := by rw [← hn]; exact (List.getElem?_eq_some_iff.mp h2).1
      have hm := List.all_eq_true.mp hc k (List.mem_range.mpr hk)
      have hm2 : k ∈ isR := by
        rcases Bool.or_eq_true_iff.mp hm with q | q
        · exact absurd (List.contains_iff_mem.mp q) h1
        · exact List.contains_iff_mem.mp q
      obtain ⟨j, hj⟩ := List.getElem?_of_mem hm2
      have e : (isR.map (fun i => ws'[i]?))[j]? = (isR.map (fun i => ws[i]?))[j]? := by rw [hR]
      rw [List.getElem?_map, List.getElem?_map, hj] at e
      have e := Option.some.inj e
      exact (e.trans h2).symm
  | none =>
    have h1 := List.getElem?_eq_none_iff.mp h
    rw [wput_len is ws w hl] at h1
    exact (List.getElem?_eq_none (by omega)).symm
theorem st_wp {g : GT} {kc ks pc : Nat} {L : List (Nat × Value)} {S : List Value} {ws w ws' : va_W} {is : List Nat} (n : Nat) (isR : List Nat) (hc : (List.range n).all (fun k => is.contains k || isR.contains k) = true) (hn : ws.length = n) (hlen : ws'.length = n) (hw : is.map (fun i => ws'[i]?) = w.map some) (wR : va_W) (hR1 : isR.map (fun i => ws'[i]?) = wR.map some) (hR2 : isR.map (fun i => ws[i]?) = wR.map some) (k : ST g kc ks pc L S ws') : ST g kc ks pc L S (wput ws is w) := by
  rw [wput_eq n is isR hc hn hlen hw hR1 hR2]; exact k
def bz (v : Int32) : Prop := narrow .boolean (.int v) = .int v
theorem bz_0 : bz 0 := rfl
theorem bz_1 : bz 1 := rfl
def shf (a b c d : Nat) : Nat → Option Nat := va_up (va_up (va_up (va_up (fun _ => none) 0 (some a)) 1 (some b)) 2 (some c)) 3 (some d)
theorem ne_toInt {x : Int32} {n : Int} (h : ¬ x = Int32.ofInt n) : x.toInt ≠ n := fun e => h (by rw [← e]; exact (Int32.ofInt_toInt x).symm)
section CALLS
variable {g : GT} {own : String} {cc : ByteArray} {nL : Nat} {rm rmc : Room} {kc ks pc : Nat} {L : List (Nat × Value)} {S S0 : List Value} {ws wc : va_W} {C : String} {y : MethodName} {bytes : ByteArray} {maxL n idx mc ms : Nat} {rt : FieldType} {As : List Value} {b : Nat}
theorem pre_call (G : GOOD g own cc nL rm) {H : Heap} {locs : List Loc} (hP : va_P g.D vwCl ws H) (hD : va_D g.A ws) (hS : va_S g.A g.s.heap H locs) (is : List Nat) (hC : is.map (fun i => ws[i]?) = wc.map some) (hnd : va_nd is = true) (U : State) (hU : U.heap = H) (hW : g.s.WarmedH U.vm) : PreW g.D g.X wc H.size U := by
  refine ⟨by rw [hU], by rw [hU]; exact sub_of hP is hC, va_K.moved hW.alike G.hK, (hD.sub is hnd hC).weaken (fun _ _ _ _ => trivial), G.hN.warm hW, ?_⟩
  rw [hU]
  exact ((G.hSE.kept hS.2.1).narrow (va_free hD hS G.hA is hC)).moved hW.alike
theorem blind {av : List Value} {D : va_G} {X : XT} {sz : Nat} : FrameBlind (va_Pc av (PreW D X wc sz)) := fun a U g mk q => by
  obtain ⟨q0, q1, q2, q3, q4, q5, q6⟩ := q
  exact ⟨q0, q1, q2, va_K.moved (u := U) (U := U.calling g mk a) (Vm.Alike.refl U.vm) q3, q4, hNW.same rfl q5, SE.moved (u := U) (U := U.calling g mk a) (Vm.Alike.refl U.vm) q6⟩
theorem st_cVi (G : GOOD g own cc nL rm) (lk : LkV own idx C y bytes maxL (some rt) n) {post : Int32 → va_W → Prop} (hC : CTi g.l g.D g.X y bytes maxL rt rmc (.ref b :: As) wc post) (hrm : RMok rm rmc maxL 0 0 kc ks) (pc' : Nat) (hp : pc + 3 = pc') (is : List Nat) (hsub : is.map (fun i => ws[i]?) = wc.map some) (hnd : va_nd is = true) (q0 ci : Nat) {fs : List Value} {T : u_T} {N : Nat} (he : wc[q0]? = some (b, .inr (ci, fs))) (hc : vwCl[ci]? = some (C, T, N)) (hn : As.length = n) (hcat : (S.map fun v => v.category).sum ≤ 8) (hS0 : S0 = As.reverse ++ .ref b :: S) (hd : decode cc pc = .ok (.invokevirtual idx, 3))
    (k : ∀ (r : Int32) (w : va_W), post r w → ST g kc ks pc' L (.int r :: S) (wput ws is w)) : ST g kc ks pc L S0 ws := by
  subst hp; subst hS0
  intro H locs ls hP hD hS hl
  have hFc := va_free hD hS G.hA is hsub
  obtain ⟨r1, r2, r3, r4, r5⟩ := hrm
  refine va_calli (va_runV (As := As) (rest := S) ⟨G.hx, G.hb, G.hml, G.hown, G.hts⟩ (hC H.size) (cwV n G.hts lk.good rfl r1 r2 lk.1 (by rw [G.hR]; exact r3)) ⟨blind, va_recv G.hK (sub_of hP is hsub) hc he, fun U hU hW => ⟨rfl, pre_call G hP hD hS is hsub hnd U hU hW⟩⟩ rfl hn (hl.1.trans G.hnL) rfl (lv_room hcat) hd (by rw [G.hR]; exact ⟨r4, r5⟩)) hS (fun q _ h => hFc q h) hFc (fun r w t H1 locs1 ht hvm hw hB hz1 hk1 hS1 => ?_)
  obtain ⟨hP1, hD1, hle⟩ := hB
  rw [ht] at hP1
  obtain ⟨hP', hD'⟩ := wput_P hP hD is hsub hle hk1 hFc hP1 hD1
  exact k r w hw H1 locs1 ls hP' hD' hS1 hl
theorem st_cVv (G : GOOD g own cc nL rm) (lk : LkV own idx C y bytes maxL none n) {post : va_W → Prop} (hC : CTv g.l g.D g.X y bytes maxL rmc 0 0 (.ref b :: As) wc post) (hrm : RMok rm rmc maxL 0 0 kc ks) (pc' : Nat) (hp : pc + 3 = pc') (is : List Nat) (hsub : is.map (fun i => ws[i]?) = wc.map some) (hnd : va_nd is = true) (q0 ci : Nat) {fs : List Value} {T : u_T} {N : Nat} (he : wc[q0]? = some (b, .inr (ci, fs))) (hc : vwCl[ci]? = some (C, T, N)) (hn : As.length = n) (hcat : (S.map fun v => v.category).sum ≤ 8) (hS0 : S0 = As.reverse ++ .ref b :: S) (hd : decode cc pc = .ok (.invokevirtual idx, 3))
    (k : ∀ (w : va_W), post w → ST g kc ks pc' L S (wput ws is w)) : ST g kc ks pc L S0 ws := by
  subst hp; subst hS0
  intro H locs ls hP hD hS hl
  have hFc := va_free hD hS G.hA is hsub
  obtain ⟨r1, r2, r3, r4, r5⟩ := hrm
  refine va_callv (va_runV (As := As) (rest := S) ⟨G.hx, G.hb, G.hml, G.hown, G.hts⟩ (hC H.size) (cwV n G.hts lk.good rfl r1 r2 lk.1 (by rw [G.hR]; exact r3)) ⟨blind, va_recv G.hK (sub_of hP is hsub) hc he, fun U hU hW => ⟨rfl, pre_call G hP hD hS is hsub hnd U hU hW⟩⟩ rfl hn (hl.1.trans G.hnL) rfl (lv_room hcat) hd (by rw [G.hR]; exact ⟨r4, r5⟩)) hS (fun q _ h => hFc q h) hFc (fun w t H1 locs1 ht hvm hw hB hz1 hk1 hS1 => ?_)
  obtain ⟨hP1, hD1, hle⟩ := hB
  rw [ht] at hP1
  obtain ⟨hP', hD'⟩ := wput_P hP hD is hsub hle hk1 hFc hP1 hD1
  exact k w hw H1 locs1 ls hP' hD' hS1 hl
theorem st_cVa (G : GOOD g own cc nL rm) (lk : LkV own idx C y bytes maxL (some rt) n) {ad : Nat → Nat} {post : Nat → va_W → Prop} (hC : CTa g.l g.D g.X y bytes maxL rt rmc (.ref b :: As) wc ad post) (hrm : RMok rm rmc maxL 0 0 kc ks) (pc' : Nat) (hp : pc + 3 = pc') (is : List Nat) (hsub : is.map (fun i => ws[i]?) = wc.map some) (hnd : va_nd is = true) (q0 ci : Nat) {fs : List Value} {T : u_T} {N : Nat} (he : wc[q0]? = some (b, .inr (ci, fs))) (hc : vwCl[ci]? = some (C, T, N)) (hn : As.length = n) (hcat : (S.map fun v => v.category).sum ≤ 8) (hS0 : S0 = As.reverse ++ .ref b :: S) (hd : decode cc pc = .ok (.invokevirtual idx, 3))
    (k : ∀ (r : Nat) (w : va_W), post r w → ST g kc ks pc' L (.ref (ad r) :: S) (wput ws is w)) : ST g kc ks pc L S0 ws := by
  subst hp; subst hS0
  intro H locs ls hP hD hS hl
  have hFc := va_free hD hS G.hA is hsub
  obtain ⟨r1, r2, r3, r4, r5⟩ := hrm
  refine va_callr (va_runV (As := As) (rest := S) ⟨G.hx, G.hb, G.hml, G.hown, G.hts⟩ (hC H.size) (cwV n G.hts lk.good rfl r1 r2 lk.1 (by rw [G.hR]; exact r3)) ⟨blind, va_recv G.hK (sub_of hP is hsub) hc he, fun U hU hW => ⟨rfl, pre_call G hP hD hS is hsub hnd U hU hW⟩⟩ rfl hn (hl.1.trans G.hnL) rfl (lv_room hcat) hd (by rw [G.hR]; exact ⟨r4, r5⟩)) hS (fun q _ h => hFc q h) hFc (fun u ra t H1 locs1 ht hvm hw hB hz1 hk1 hS1 => ?_)
  obtain ⟨rfl, hP1, hD1, hle⟩ := hB
  rw [ht] at hP1
  obtain ⟨hP', hD'⟩ := wput_P hP hD is hsub hle hk1 hFc hP1 hD1
  exact k u.1 u.2 hw H1 locs1 ls hP' hD' hS1 hl
theorem st_cSi (G : GOOD g own cc nL rm) (lk : LkS own idx y bytes maxL (some rt) n) {post : Int32 → va_W → Prop} (hC : CTi g.l g.D g.X y bytes maxL rt rmc As wc post) (hrm : RMok rm rmc maxL 0 0 kc ks) (pc' : Nat) (hp : pc + 3 = pc') (is : List Nat) (hsub : is.map (fun i => ws[i]?) = wc.map some) (hnd : va_nd is = true) (hn : As.length = n) (hcat : (S.map fun v => v.category).sum ≤ 8) (hS0 : S0 = As.reverse ++ S) (hd : decode cc pc = .ok (.invokestatic idx, 3))
    (k : ∀ (r : Int32) (w : va_W), post r w → ST g kc ks pc' L (.int r :: S) (wput ws is w)) : ST g kc ks pc L S0 ws := by
  subst hp; subst hS0
  intro H locs ls hP hD hS hl
  have hFc := va_free hD hS G.hA is hsub
  obtain ⟨r1, r2, r3, r4, r5⟩ := hrm
  refine va_calli (va_runS (As := As) (rest := S) ⟨G.hx, G.hb, G.hml, G.hown, G.hts⟩ (hC H.size) (va_cwS n G.hts lk.good rfl r1 r2 lk.1 (by rw [G.hR]; exact r3)) ⟨blind, fun U hU hW => ⟨rfl, pre_call G hP hD hS is hsub hnd U hU hW⟩⟩ rfl hn (hl.1.trans G.hnL) rfl (lv_room hcat) hd (by rw [G.hR]; exact ⟨r4, r5⟩)) hS (fun q _ h => hFc q h) hFc (fun r w t H1 locs1 ht hvm hw hB hz1 hk1 hS1 => ?_)
  obtain ⟨hP1, hD1, hle⟩ := hB
  rw [ht] at hP1
  obtain ⟨hP', hD'⟩ := wput_P hP hD is hsub hle hk1 hFc hP1 hD1
  exact k r w hw H1 locs1 ls hP' hD' hS1 hl
theorem st_cSv (G : GOOD g own cc nL rm) (lk : LkS own idx y bytes maxL none n) {post : va_W → Prop} (hC : CTv g.l g.D g.X y bytes maxL rmc 0 0 As wc post) (hrm : RMok rm rmc maxL 0 0 kc ks) (pc' : Nat) (hp : pc + 3 = pc') (is : List Nat) (hsub : is.map (fun i => ws[i]?) = wc.map some) (hnd : va_nd is = true) (hn : As.length = n) (hcat : (S.map fun v => v.category).sum ≤ 8) (hS0 : S0 = As.reverse ++ S) (hd : decode cc pc = .ok (.invokestatic idx, 3))
    (k : ∀ (w : va_W), post w → ST g kc ks pc' L S (wput ws is w)) : ST g kc ks pc L S0 ws := by
  subst hp; subst hS0
  intro H locs ls hP hD hS hl
  have hFc := va_free hD hS G.hA is hsub
  obtain ⟨r1, r2, r3, r4, r5⟩ := hrm
  refine va_callv (va_runS (As := As) (rest := S) ⟨G.hx, G.hb, G.hml, G.hown, G.hts⟩ (hC H.size) (va_cwS n G.hts lk.good rfl r1 r2 lk.1 (by rw [G.hR]; exact r3)) ⟨blind, fun U hU hW => ⟨rfl, pre_call G hP hD hS is hsub hnd U hU hW⟩⟩ rfl hn (hl.1.trans G.hnL) rfl (lv_room hcat) hd (by rw [G.hR]; exact ⟨r4, r5⟩)) hS (fun q _ h => hFc q h) hFc (fun w t H1 locs1 ht hvm hw hB hz1 hk1 hS1 => ?_)
  obtain ⟨hP1, hD1, hle⟩ := hB
  rw [ht] at hP1
  obtain ⟨hP', hD'⟩ := wput_P hP hD is hsub hle hk1 hFc hP1 hD1
  exact k w hw H1 locs1 ls hP' hD' hS1 hl
theorem st_cNi (G : GOOD g own cc nL rm) (lk : LkN own idx y bytes maxL (some rt) n) {post : Int32 → va_W → Prop} (hC : CTi g.l g.D g.X y bytes maxL rt rmc As wc post) (hrm : RMok rm rmc maxL 0 0 kc ks) (pc' : Nat) (hp : pc + 3 = pc') (is : List Nat) (hsub : is.map (fun i => ws[i]?) = wc.map some) (hnd : va_nd is = true) (hn : As.length = n) (hcat : (S.map fun v => v.category).sum ≤ 8) (hS0 : S0 = As.reverse ++ S) (hd : decode cc pc = .ok (.invokestatic idx, 3))
    (k : ∀ (r : Int32) (w : va_W), post r w → ST g kc ks pc' L (.int r :: S) (wput ws is w)) : ST g kc ks pc L S0 ws := by
  subst hp; subst hS0
  intro H locs ls hP hD hS hl
  have hFc := va_free hD hS G.hA is hsub
  obtain ⟨r1, r2, r3, r4, r5⟩ := hrm
  obtain ⟨l1, l2, l3, l4, l5⟩ := lk
  refine va_calli (va_runSN (host := "DirtPress") (As := As) (rest := S) ⟨G.hx, G.hb, G.hml, G.hown, G.hts⟩ (hC H.size) ⟨va_cnB n G.hts (gd_code l5) rfl r1 r2 (G.hN.1 _ l2) (G.hts _ l4) l1 (by rw [G.hR]; exact r3), G.hts _ l3, trivial⟩ ⟨blind, fun U hU hW => ⟨rfl, pre_call G hP hD hS is hsub hnd U hU hW⟩⟩ rfl hn (hl.1.trans G.hnL) rfl (lv_room hcat) hd (by rw [G.hR]; exact ⟨r4, r5⟩)) hS (fun q _ h => hFc q h) hFc (fun r w t H1 locs1 ht hvm hw hB hz1 hk1 hS1 => ?_)
  obtain ⟨hP1, hD1, hle⟩ := hB
  rw [ht] at hP1
  obtain ⟨hP', hD'⟩ := wput_P hP hD is hsub hle hk1 hFc hP1 hD1
  exact k r w hw H1 locs1 ls hP' hD' hS1 hl
theorem st_cI (G : GOOD g own cc nL rm) (lk : LkI own idx y bytes maxL n) {post : va_W → Prop} (hC : CTv g.l g.D g.X y bytes maxL rmc mc ms (.ref b :: As) wc post) (hrm : RMok rm rmc maxL mc ms kc ks) (pc' : Nat) (hp : pc + 3 = pc') (is : List Nat) (hsub : is.map (fun i => ws[i]?) = wc.map some) (hnd : va_nd is = true) (hn : As.length = n) (hcat : (S.map fun v => v.category).sum ≤ 8) (hS0 : S0 = As.reverse ++ .ref b :: S) (hd : decode cc pc = .ok (.invokespecial idx, 3))
    (k : ∀ (w : va_W), post w → ST g (kc + mc) (ks + ms) pc' L S (wput ws is w)) : ST g kc ks pc L S0 ws := by
  subst hp; subst hS0
  intro H locs ls hP hD hS hl
  have hFc := va_free hD hS G.hA is hsub
  obtain ⟨r1, r2, r3, r4, r5⟩ := hrm
  obtain ⟨l1, l2, l3, l4, l5⟩ := lk
  refine va_callv (va_runI (As := As) (rest := S) ⟨G.hx, G.hb, G.hml, G.hown, G.hts⟩ (hC H.size) (cwI n G.hts (gd_code l5) rfl r1 r2 (G.hts _ l4) (G.hts _ l2) (G.hts _ l3) l1.1 l1.2 (by rw [G.hR]; exact r3)) ⟨blind, fun U hU hW => ⟨rfl, pre_call G hP hD hS is hsub hnd U hU hW⟩⟩ rfl hn (hl.1.trans G.hnL) rfl (lv_room hcat) hd (by rw [G.hR]; exact ⟨r4, r5⟩)) hS (fun q _ h => hFc q h) hFc (fun w t H1 locs1 ht hvm hw hB hz1 hk1 hS1 => ?_)
  obtain ⟨hP1, hD1, hle⟩ := hB
  rw [ht] at hP1
  obtain ⟨hP', hD'⟩ := wput_P hP hD is hsub hle hk1 hFc hP1 hD1
  exact k w hw H1 locs1 ls hP' hD' hS1 hl
theorem st_cIN (G : GOOD g own cc nL rm) (lk : LkIN own idx y bytes maxL n) {post : va_W → Prop} (hC : CTv g.l g.D g.X y bytes maxL rmc mc ms (.ref b :: As) wc post) (hrm : RMok rm rmc maxL mc ms kc ks) (pc' : Nat) (hp : pc + 3 = pc') (is : List Nat) (hsub : is.map (fun i => ws[i]?) = wc.map some) (hnd : va_nd is = true) (hn : As.length = n) (hcat : (S.map fun v => v.category).sum ≤ 8) (hS0 : S0 = As.reverse ++ .ref b :: S) (hd : decode cc pc = .ok (.invokespecial idx, 3))
    (k : ∀ (w : va_W), post w → ST g (kc + mc) (ks + ms) pc' L S (wput ws is w)) : ST g kc ks pc L S0 ws := by
  subst hp; subst hS0
  intro H locs ls hP hD hS hl
  have hFc := va_free hD hS G.hA is hsub
  obtain ⟨r1, r2, r3, r4, r5⟩ := hrm
  obtain ⟨l1, l2, l3, l4, l5⟩ := lk
  refine va_callv (va_runIN (host := "DirtPress") (As := As) (rest := S) ⟨G.hx, G.hb, G.hml, G.hown, G.hts⟩ (hC H.size) ⟨va_cnB n G.hts (gd_code l5) rfl r1 r2 (G.hN.1 _ l2) (G.hts _ l4) l1.2 (by rw [G.hR]; exact r3), l1.1, G.hts _ l3⟩ ⟨blind, fun U hU hW => ⟨rfl, pre_call G hP hD hS is hsub hnd U hU hW⟩⟩ rfl hn (hl.1.trans G.hnL) rfl (lv_room hcat) hd (by rw [G.hR]; exact ⟨r4, r5⟩)) hS (fun q _ h => hFc q h) hFc (fun w t H1 locs1 ht hvm hw hB hz1 hk1 hS1 => ?_)
  obtain ⟨hP1, hD1, hle⟩ := hB
  rw [ht] at hP1
  obtain ⟨hP', hD'⟩ := wput_P hP hD is hsub hle hk1 hFc hP1 hD1
  exact k w hw H1 locs1 ls hP' hD' hS1 hl
theorem st_objInit (G : GOOD g own cc nL rm) (hw : Cond.methodLink own idx objectInit ∈ GW) (hi : Cond.instanceMethod objectInit ∈ GW) (hco : Cond.code objectInit ⟨#[0xb1]⟩ 1 none ∈ GW) (pc' : Nat) (hp : pc + 3 = pc') (hf : 1 ≤ rm.frames) (hlo : (S.map fun v => v.category).sum + 12 ≤ rm.locals) (hd : decode cc pc = .ok (.invokespecial idx, 3)) (k : ST g kc ks pc' L S ws) : ST g kc ks pc L (.ref b :: S) ws := by
  subst hp
  intro H locs ls hP hD hS hl
  refine W.objInit G.hx G.hb G.hown (G.hts _ hw) (G.hts _ hi) (G.hts _ hco) rfl (by rw [G.hml, ← G.hnL]; exact hl.1) rfl hd (by rw [G.hR]; exact hf) ?_ ?_
  · rw [G.hR]
    have : (2 * (F0 g.m pc ls (.ref b :: S)).monitorRoom) = 0 := rfl
    rw [this]; simpa using hlo
  · exact k H locs ls hP hD hS hl
theorem st_mmax (G : GOOD g own cc nL rm) (hw : Cond.methodLink own idx Lib.Math.max.name ∈ GW) (hs : Cond.static Lib.Math.max.name ∈ GW) (hi : Cond.initialized "java/lang/Math" ∈ GW) (hco : Cond.code Lib.Math.max.name Lib.Math.max.code 2 (some .int) ∈ GW) (hrm : 1 ≤ rm.frames ∧ (S.map fun v => v.category).sum + 13 ≤ rm.locals ∧ kc ≤ rm.cells ∧ ks ≤ rm.slots) (pc' : Nat) (hp : pc + 3 = pc') {x y : Int32} (hd : decode cc pc = .ok (.invokestatic idx, 3)) (k : ST g kc ks pc' L (.int (if x < y then y else x) :: S) ws) : ST g kc ks pc L (.int y :: .int x :: S) ws := by
  subst hp
  intro H locs ls hP hD hS hl
  obtain ⟨r1, r2, r3, r4⟩ := hrm
  exact va_mmax G.hx G.hb (by rw [G.hml, ← G.hnL]; exact hl.1.symm) G.hown (G.hts _ hw) (G.hts _ hs) (G.hts _ hi) (G.hts _ hco) (by rw [G.hR]; exact r1) (by rw [G.hR]; exact r2) (by rw [G.hR]; exact r3) (by rw [G.hR]; exact r4) hd (k H locs ls hP hD hS hl)
theorem st_mmin (G : GOOD g own cc nL rm) (hw : Cond.methodLink own idx Lib.Math.min.name ∈ GW) (hs : Cond.static Lib.Math.min.name ∈ GW) (hi : Cond.initialized "java/lang/Math" ∈ GW) (hco : Cond.code Lib.Math.min.name Lib.Math.min.code 2 (some .int) ∈ GW) (hrm : 1 ≤ rm.frames ∧ (S.map fun v => v.category).sum + 13 ≤ rm.locals ∧ kc ≤ rm.cells ∧ ks ≤ rm.slots) (pc' : Nat) (hp : pc + 3 = pc') {x y : Int32} (hd : decode cc pc = .ok (.invokestatic idx, 3)) (k : ST g kc ks pc' L (.int (if y < x then y else x) :: S) ws) : ST g kc ks pc L (.int y :: .int x :: S) ws := by
  subst hp
  intro H locs ls hP hD hS hl
  obtain ⟨r1, r2, r3, r4⟩ := hrm
  exact va_mmin G.hx G.hb (by rw [G.hml, ← G.hnL]; exact hl.1.symm) G.hown (G.hts _ hw) (G.hts _ hs) (G.hts _ hi) (G.hts _ hco) (by rw [G.hR]; exact r1) (by rw [G.hR]; exact r2) (by rw [G.hR]; exact r3) (by rw [G.hR]; exact r4) hd (k H locs ls hP hD hS hl)
/-- System.arraycopy of int rows -/
theorem st_copy (G : GOOD g own cc nL rm) (hw : Cond.methodLink own idx arraycopyName ∈ GW) (hna : Cond.native arraycopyName ∈ GW) (hs : Cond.static arraycopyName ∈ GW) (hi : Cond.initialized "java/lang/System" ∈ GW) (hrm : 1 ≤ rm.frames ∧ (S.map fun v => v.category).sum + (nativeFrameWords "java/lang/System" "arraycopy" 5 + 11) ≤ rm.locals) (ws' : va_W) (pc' : Nat) (hp : pc + 3 = pc') (q0 q1 : Nat) {a0 a1 n0 n1 : Nat} {f f1 : Nat → Int32} (ha0 : ws[q0]? = some (a0, .inl (g.X.cI, n0, .inl f))) (ha1 : ws[q1]? = some (a1, .inl (g.X.cI, n1, .inl f1))) {sp dp nn : Int32} (h1 : ¬ sp < 0) (h2 : ¬ dp < 0) (h3 : ¬ nn < 0) (h4 : sp.toNatClampNeg + nn.toNatClampNeg ≤ n0) (h5 : dp.toNatClampNeg + nn.toNatClampNeg ≤ n1) (hws : ws.set q1 (a1, .inl (g.X.cI, n1, .inl (va_cpy f f1 sp.toNatClampNeg dp.toNatClampNeg nn.toNatClampNeg))) = ws') (hd : decode cc pc = .ok (.invokestatic idx, 3)) (k : ST g kc ks pc' L S ws') : ST g kc ks pc L (.int nn :: .int dp :: .ref a1 :: .int sp :: .ref a0 :: S) ws := by
  subst hp; subst hws
  intro H locs ls hP hD hS hl
  obtain ⟨r1, r2⟩ := hrm
  exact va_copyi (ty := .int) (D := g.D) (cl := vwCl) G.hx G.hb (by rw [G.hml, ← G.hnL]; exact hl.1.symm) G.hown (G.hts _ hw) (G.hts _ hna) (G.hts _ hs) (G.hts _ hi) G.hK hP hD hS q0 q1 0 0 ha0 ha1 rfl rfl rfl h1 h2 h3 h4 h5 (fun _ _ => rfl) (by rw [G.hR]; exact r1) (by rw [G.hR]; exact r2) hd (fun H1 locs1 hP1 hD1 hS1 => k H1 locs1 ls hP1 hD1 hS1 hl)
/-- a new row of ints, of the class that the tables name -/
theorem st_newa (G : GOOD g own cc nL rm) (harr : Cond.arrayClass .int ∈ GW) (pc' : Nat) (hp : pc + 2 = pc') {nn : Int32} (N : Nat) (hn : ¬ nn < 0) (hN : nn.toNatClampNeg = N) (hb : N * componentBytes .int ≤ 536870912) (hf : kc + 1 ≤ rm.cells ∧ ks + N ≤ rm.slots) (hd : decode cc pc = .ok (.newarray .int, 2)) (k : ∀ q : Nat, ST g (kc + 1) (ks + N) pc' L (.ref q :: S) (ws ++ [(q, .inl (g.X.cI, N, .inl (fun _ => 0)))])) : ST g kc ks pc L (.int nn :: S) ws := by
  subst hp
  intro H locs ls hP hD hS hl
  refine va_newa (atype := .int) (D := g.D) (cl := vwCl) (a0 := (N, .inl (fun _ => 0))) G.hx G.hb (G.hts _ harr) rfl G.hK hP hD hS G.hA (fun cA => rfl) hn hN hb (by rw [G.hR]; exact hf.1) (by rw [G.hR]; exact hf.2) hd (fun q cA H1 hK1 hP1 hD1 hS1 => ?_)
  have e : cA = g.X.cI := by
    have h1 := (hK1.2 2 _ rfl).2
    have h2 := (G.hK.2 0 _ rfl).2
    have h3 := h1.symm.trans h2
    exact Option.some.inj h3
  subst e
  exact k q H1 locs ls hP1 hD1 hS1 hl
theorem st_new {T : u_T} {N ci : Nat} (G : GOOD g own cc nL rm) (hin : ∀ w ∈ u_ws C T N, w ∈ GW) (ty : Nat → FieldType) (hty : ∀ k, k < N → parseFieldDescriptor (T k).2.2.1 = some (ty k)) (hcl : Cond.classLink own idx C ∈ GW) (hinst : Cond.instantiable C N ∈ GW) (hini : Cond.initialized C ∈ GW) (hc : vwCl[ci]? = some (C, T, N)) (fs : List Value) (hfs : ∀ j, j < N → defaultValue (ty j) = vp_V fs j) (pc' : Nat) (hp : pc + 3 = pc') (hf : kc + 1 ≤ rm.cells ∧ ks + N ≤ rm.slots) (hd : decode cc pc = .ok (.new idx, 3)) (k : ∀ q : Nat, ST g (kc + 1) (ks + N) pc' L (.ref q :: S) (ws ++ [(q, .inr (ci, fs))])) : ST g kc ks pc L S ws := by
  subst hp
  intro H locs ls hP hD hS hl
  exact va_new (D := g.D) (cl := vwCl) G.hx G.hb G.hts hin ty hty G.hown (G.hts _ hcl) (G.hts _ hinst) (G.hts _ hini) G.hK hP hD hS G.hA hc hfs (by rw [G.hR]; exact hf.1) (by rw [G.hR]; exact hf.2) hd (fun q H1 hP1 hD1 hS1 => k q H1 locs ls hP1 hD1 hS1 hl)
theorem st_cVio (G : GOOD g own cc nL rm) (lk : LkV own idx C y bytes maxL (some rt) n) {post : Int32 → Prop} (hC : CTi g.l g.D g.X y bytes maxL rt rmc (.ref b :: As) wc (fun r w => post r ∧ w = wc)) (hrm : RMok rm rmc maxL 0 0 kc ks) (pc' : Nat) (hp : pc + 3 = pc') (is : List Nat) (hsub : is.map (fun i => ws[i]?) = wc.map some) (hnd : va_nd is = true) (q0 ci : Nat) {fs : List Value} {T : u_T} {N : Nat} (he : wc[q0]? = some (b, .inr (ci, fs))) (hc : vwCl[ci]? = some (C, T, N)) (hn : As.length = n) (hcat : (S.map fun v => v.category).sum ≤ 8) (hS0 : S0 = As.reverse ++ .ref b :: S) (hd : decode cc pc = .ok (.invokevirtual idx, 3))
    (k : ∀ (r : Int32), post r → ST g kc ks pc' L (.int r :: S) ws) : ST g kc ks pc L S0 ws :=
  st_cVi G lk hC hrm pc' hp is hsub hnd q0 ci he hc hn hcat hS0 hd (fun r w hq => by obtain ⟨h1, rfl⟩ := hq; rw [wput_self is ws _ hsub]; exact k r h1)
theorem st_cSio (G : GOOD g own cc nL rm) (lk : LkS own idx y bytes maxL (some rt) n) {post : Int32 → Prop} (hC : CTi g.l g.D g.X y bytes maxL rt rmc As wc (fun r w => post r ∧ w = wc)) (hrm : RMok rm rmc maxL 0 0 kc ks) (pc' : Nat) (hp : pc + 3 = pc') (is : List Nat) (hsub : is.map (fun i => ws[i]?) = wc.map some) (hnd : va_nd is = true) (hn : As.length = n) (hcat : (S.map fun v => v.category).sum ≤ 8) (hS0 : S0 = As.reverse ++ S) (hd : decode cc pc = .ok (.invokestatic idx, 3))
    (k : ∀ (r : Int32), post r → ST g kc ks pc' L (.int r :: S) ws) : ST g kc ks pc L S0 ws :=
  st_cSi G lk hC hrm pc' hp is hsub hnd hn hcat hS0 hd (fun r w hq => by obtain ⟨h1, rfl⟩ := hq; rw [wput_self is ws _ hsub]; exact k r h1)
theorem st_cNio (G : GOOD g own cc nL rm) (lk : LkN own idx y bytes maxL (some rt) n) {post : Int32 → Prop} (hC : CTi g.l g.D g.X y bytes maxL rt rmc As wc (fun r w => post r ∧ w = wc)) (hrm : RMok rm rmc maxL 0 0 kc ks) (pc' : Nat) (hp : pc + 3 = pc') (is : List Nat) (hsub : is.map (fun i => ws[i]?) = wc.map some) (hnd : va_nd is = true) (hn : As.length = n) (hcat : (S.map fun v => v.category).sum ≤ 8) (hS0 : S0 = As.reverse ++ S) (hd : decode cc pc = .ok (.invokestatic idx, 3))
    (k : ∀ (r : Int32), post r → ST g kc ks pc' L (.int r :: S) ws) : ST g kc ks pc L S0 ws :=
  st_cNi G lk hC hrm pc' hp is hsub hnd hn hcat hS0 hd (fun r w hq => by obtain ⟨h1, rfl⟩ := hq; rw [wput_self is ws _ hsub]; exact k r h1)
theorem st_cVao (G : GOOD g own cc nL rm) (lk : LkV own idx C y bytes maxL (some rt) n) {ad : Nat → Nat} {post : Nat → Prop} (hC : CTa g.l g.D g.X y bytes maxL rt rmc (.ref b :: As) wc ad (fun r w => post r ∧ w = wc)) (hrm : RMok rm rmc maxL 0 0 kc ks) (pc' : Nat) (hp : pc + 3 = pc') (is : List Nat) (hsub : is.map (fun i => ws[i]?) = wc.map some) (hnd : va_nd is = true) (q0 ci : Nat) {fs : List Value} {T : u_T} {N : Nat} (he : wc[q0]? = some (b, .inr (ci, fs))) (hc : vwCl[ci]? = some (C, T, N)) (hn : As.length = n) (hcat : (S.map fun v => v.category).sum ≤ 8) (hS0 : S0 = As.reverse ++ .ref b :: S) (hd : decode cc pc = .ok (.invokevirtual idx, 3))
    (k : ∀ (r : Nat), post r → ST g kc ks pc' L (.ref (ad r) :: S) ws) : ST g kc ks pc L S0 ws :=
  st_cVa G lk hC hrm pc' hp is hsub hnd q0 ci he hc hn hcat hS0 hd (fun r w hq => by obtain ⟨h1, rfl⟩ := hq; rw [wput_self is ws _ hsub]; exact k r h1)
theorem st_newq (G : GOOD g own cc nL rm) (hcl : Cond.classLink own idx "DirtPress$Sheet" ∈ GW) (pc' : Nat) (hp : pc + 3 = pc') {nn : Int32} (N : Nat) (hn : ¬ nn < 0) (hN : nn.toNatClampNeg = N) (hb : N * 4 ≤ 536870912) (hf : kc + 1 ≤ rm.cells ∧ ks + N ≤ rm.slots) (hd : decode cc pc = .ok (.anewarray idx, 3)) (k : ∀ q : Nat, ST g (kc + 1) (ks + N) pc' L (.ref q :: S) (ws ++ [(q, .inl (g.X.cS, N, .inr (.inr (.inr (.inr (fun _ => none))))))])) : ST g kc ks pc L (.int nn :: S) ws := by
  subst hp
  intro H locs ls hP hD hS hl
  refine va_newq (D := g.D) (cl := vwCl) (C := "DirtPress$Sheet") G.hx G.hb G.hown (G.hts _ hcl) G.hN.2.2 G.hK hP hD hS G.hA hn hN hb (by rw [G.hR]; exact hf.1) (by rw [G.hR]; exact hf.2) hd (fun q cA H1 hK1 hP1 hD1 hS1 => ?_)
  have e : cA = g.X.cS := by
    obtain ⟨_, _, _, _, _, h1⟩ := (hK1.2 2 _ rfl).2
    obtain ⟨_, _, _, _, _, h2⟩ := (G.hK.2 1 _ rfl).2
    exact Option.some.inj (h1.symm.trans h2)
  subst e
  exact k q H1 locs ls hP1 hD1 hS1 hl
end CALLS
