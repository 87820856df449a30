/-! texts: chains by their signs -/
def lk (tape : V) (B a : Nat) : Int32 := if B ≤ a then -1 else tape a
theorem lk_e {tape : V} {B a : Nat} (h : B ≤ a) : lk tape B a = -1 := if_pos h
theorem lk_i {tape : V} {B a : Nat} (h : a < B) : lk tape B a = tape a := if_neg (by omega)
theorem w7_look {tape s : V} {B a : Nat} (hB : B ≤ 60) (ha : a ≤ 60) (h2 : s 2 = nI B) (ht : ∀ i, i < 60 → s (392 + i) = tape i) {Q : Int32 → Prop} (h : Q (lk tape B a)) : wp_X7_look (nI a) s Q := by
  unfold wp_X7_look
  rw [show ((2 : Int32).toNatClampNeg) = 2 from rfl, h2, show (392 : Int32) = nI 392 from rfl, ad, cl (by omega)]
  refine ⟨vi (n := 2) (by omega) (by omega), fun c => ?_, fun c => ?_⟩
  · have := (le_n (by omega) (by omega)).mp c
    rw [lk_e this] at h; exact h
  · have hlt : a < B := by
      rcases Nat.lt_or_ge a B with q | q
      · exact q
      · exact absurd ((le_n (by omega) (by omega)).mpr q) c
    rw [lk_i hlt] at h
    rw [ht a (by omega)]
    exact ⟨(vi (by omega) (by omega)), h⟩
section CHAIN
variable {tape s : V} {B u o d : Nat} {ML1 : MLt}
abbrev CCt (tape : V) (B u d l o : Nat) : CLt := fun p n q Q => wp_X0_readChain d (nI l) (nI o) (nI B) p (nI u) 0 n q tape Q
/-- what follows a first part, at a level that goes on and on -/
theorem tl {l : Nat} (hB : B ≤ 60) (hT : ∀ i, i < 60 → Bd 255 (tape i)) (hl : l < 5) (h2 : l ≠ 2) (h : ∀ a, a ≤ B → RD 0 o B u (CCt tape B u d (l + 1) o) ML1 a a) (MB : (Int32 → Int32 → Int32 → Int32 → V → Prop) → Nat → Int32 → Int32 → Int32 → V → Prop) (mstop : ∀ (Q : Int32 → Int32 → Int32 → Int32 → V → Prop) (f a : Nat) (n : Int32) (st : V), a ≤ B → ¬ lvf (lk tape B a) = nI l → Q 1 (nI a) (nI o) n st → MB Q (f + 1) (nI a) (nI o) n st) (mgo : ∀ (Q : Int32 → Int32 → Int32 → Int32 → V → Prop) (f a : Nat) (n : Int32) (st : V), a < B → lvf (tape a) = nI l → ML1 (nI a + 1) n st (fun r p o' n' st' => (¬ r = 0 → wp_X7_step1 3 (tape a) n' st' (fun n'' st'' => MB Q f p o' n'' st'')) ∧ (r = 0 → Q 0 p o' n' st')) → MB Q (f + 1) (nI a) (nI o) n st) : ∀ f a, a ≤ B → B < a + f → RD 1 o B u (fun p n q Q => wp_X0_readChain_b19 (wp_X0_readChain d) (wp_X0_readUnit d) Q (nI B) (nI u) tape f (nI l) (nI o) p 0 n q) (fun p n st Q => MB Q f p (nI o) n st) a a := by
  intro f
  induction f with
  | zero => intro a h1 h3; omega
  | succ f ih =>
    intro a ha hf
    have n2 : ¬ nI l = 2 := fun c => h2 ((eq_n (b := 2) (by omega) (by omega)).mp c)
    by_cases go : a < B ∧ lvf (tape a) = nI l
    · obtain ⟨g1, g2⟩ := go
      obtain ⟨g, hg, eg⟩ := hT a (by omega)
      have op := lv_op hg eg hl g2
      refine RD.mono (lo := a + 1) (RD.seq (RD.ops hB op eg (h (a + 1) (by omega))) (fun a1 l1 l2 => ih a1 l2 (by omega)) (fun Q p ff n q => ((¬ nI l = 2 → wp_X0_readChain_b19 (wp_X0_readChain d) (wp_X0_readUnit d) Q (nI B) (nI u) tape f (nI l) (nI o) p ff n q) ∧ (nI l = 2 → Q p ff n q))) (fun Q r p o' n st => if r = 0 then Q 0 p o' n st else MB Q f p o' n st) (fun n q Q hc => ?_) (fun Q p n q hc => ⟨fun _ => hc, fun c => absurd c n2⟩) (fun Q p n q hc => ⟨fun _ => ?_, fun c => absurd c n2⟩) (fun n st Q hc => mgo Q f a (nI n) st g1 g2 hc) (fun Q p n st hc => ?_) (fun Q p o' n st hc => ?_)) (by omega)
      · unfold wp_X0_readChain_b19
        rw [cl (by omega)]
        refine ⟨fun c => absurd rfl c, fun _ => ⟨fun c => absurd c (nle g1 (by omega)), fun _ => ⟨(vi (by omega) (by omega)), w0_levelOf ⟨fun c => absurd g2 c, fun _ => ⟨(vi (by omega) (by omega)), fun x3 e3 p ep => ?_⟩⟩⟩⟩⟩
        rw [e3, ep, show nI l + 1 = nI (l + 1) from i1 l]
        exact hc
      · obtain ⟨f', rfl⟩ : ∃ f', f = f' + 1 := ⟨f - 1, by omega⟩
        unfold wp_X0_readChain_b19
        exact ⟨fun _ => hc, fun c => absurd c (by decide)⟩
      · show (if (1 : Int32) = 0 then _ else _)
        rw [if_neg (by decide)]; exact hc
      · show (if (0 : Int32) = 0 then _ else _)
        rw [if_pos rfl]; exact hc
    · refine RD.stop ha (fun n q Q hc => ?_) (fun n st Q hc => mstop Q f a (nI n) st ha ?_ hc)
      · unfold wp_X0_readChain_b19
        refine ⟨fun c => absurd rfl c, fun _ => ⟨fun _ => hc, fun c => ?_⟩⟩
        have hlt : a < B := by
          rcases Nat.lt_or_ge a B with q | q
          · exact q
          · exact absurd ((le_n (by omega) (by omega)).mpr q) c
        rw [cl (by omega)]
        exact ⟨(vi (by omega) (by omega)), w0_levelOf ⟨fun _ => hc, fun c2 => absurd ⟨hlt, c2⟩ go⟩⟩
      · intro c
        rcases Nat.lt_or_ge a B with q | q
        · rw [lk_i q] at c; exact go ⟨q, c⟩
        · rw [lk_e q] at c
          exact absurd c (nm1 (by omega))
/-- a level's sentence: its first part, and what follows -/
theorem chain {l : Nat} (hB : B ≤ 60) (hl : l < 5) {a : Nat} (ha : a ≤ B) (h1 : RD 0 o B u (CCt tape B u d (l + 1) o) ML1 a a) {ML ML2 : MLt} (hf : ∀ a, a ≤ B → RD 1 o B u (fun p n q Q => wp_X0_readChain_b19 (wp_X0_readChain d) (wp_X0_readUnit d) Q (nI B) (nI u) tape (B + 1) (nI l) (nI o) p 0 n q) ML2 a a) (KM : (Int32 → Int32 → Int32 → Int32 → V → Prop) → Int32 → Int32 → Int32 → Int32 → V → Prop) (hM : ∀ (n : Nat) (st : V) (Q : Int32 → Int32 → Int32 → Int32 → V → Prop), ML1 (nI a) (nI n) st (KM Q) → ML (nI a) (nI n) st Q) (km1 : ∀ Q p n st, ML2 p n st Q → KM Q 1 p (nI o) n st) (km0 : ∀ (Q : Int32 → Int32 → Int32 → Int32 → V → Prop) p o' n st, Q 0 p o' n st → KM Q 0 p o' n st) : RD 0 o B u (CCt tape B u (d + 1) l o) ML a a := by
  refine RD.seq h1 (fun a1 _ l2 => hf a1 l2) (fun Q p ff n q => ∃ j19, wp_X0_readChain_b19 (wp_X0_readChain d) (wp_X0_readUnit d) Q (nI B) (nI u) tape j19 (nI l) (nI o) p ff n q) KM (fun n q Q hc => ?_) (fun Q p n q hc => ⟨B + 1, hc⟩) (fun Q p n q hc => ⟨1, ?_⟩) hM km1 km0
  · show wp_X0_readChain (d + 1) (nI l) (nI o) (nI B) (nI a) (nI u) 0 (nI n) q tape Q
    rw [wp_X0_readChain_s]
    unfold ws_X0_readChain
    rw [show nI l + 1 = nI (l + 1) from i1 l]
    exact ⟨fun _ => hc, fun c => absurd ((le_n (b := 4) (by omega) (by omega)).mpr (by omega)) c⟩
  · unfold wp_X0_readChain_b19
    exact ⟨fun _ => hc, fun c => absurd c (by decide)⟩
theorem chain5 {a : Nat} {ML : MLt} (h : RD 0 o B u (fun p n q Q => wp_X0_readUnit d (nI o) (nI B) p (nI u) 0 n q tape Q) ML a a) : RD 0 o B u (CCt tape B u (d + 1) 5 o) ML a a := by
  refine h.map (fun n q Q hc => ?_) (fun n st Q hc => hc)
  show wp_X0_readChain (d + 1) (nI 5) (nI o) (nI B) (nI a) (nI u) 0 (nI n) q tape Q
  rw [wp_X0_readChain_s]
  unfold ws_X0_readChain
  exact ⟨fun c => absurd c (by decide), fun _ => hc⟩
end CHAIN
section LEVELS
variable {tape s : V} {B u o dc d : Nat}
abbrev M5t (s : V) (u d o : Nat) : MLt := fun p n st Q => wp_X7_one d p (nI o) n (nI u) s st Q
abbrev M4t (s : V) (u d o : Nat) : MLt := fun p n st Q => wp_X7_product d p (nI o) n (nI u) s st Q
abbrev M3t (s : V) (u d o : Nat) : MLt := fun p n st Q => wp_X7_sum d p (nI o) n (nI u) s st Q
abbrev M2t (s : V) (u d o : Nat) : MLt := fun p n st Q => wp_X7_compared d p (nI o) n (nI u) s st Q
abbrev M1t (s : V) (u d o : Nat) : MLt := fun p n st Q => wp_X7_both d p (nI o) n (nI u) s st Q
abbrev M0t (s : V) (u d o : Nat) : MLt := fun p n st Q => wp_X7_whole d p (nI o) n (nI u) s st Q
theorem lv_product (hB : B ≤ 60) (hT : ∀ i, i < 60 → Bd 255 (tape i)) (h2 : s 2 = nI B) (ht : ∀ i, i < 60 → s (392 + i) = tape i) (h : ∀ a, a ≤ B → RD 0 o B u (CCt tape B u dc 5 o) (M5t s u d o) a a) : ∀ a, a ≤ B → RD 0 o B u (CCt tape B u (dc + 1) 4 o) (M4t s u (d + 1) o) a a := by
  intro a ha
  refine chain hB (by omega) ha (h a ha) (ML2 := fun p n st Q => wp_X7_product_b9 (wp_X7_whole d) (wp_X7_both d) (wp_X7_compared d) (wp_X7_sum d) (wp_X7_product d) (wp_X7_one d) Q (nI u) s (B + 1) p (nI o) n st) (fun a1 h1 => tl hB hT (by omega) (by omega) h (fun Q f p o' n st => wp_X7_product_b9 (wp_X7_whole d) (wp_X7_both d) (wp_X7_compared d) (wp_X7_sum d) (wp_X7_product d) (wp_X7_one d) Q (nI u) s f p o' n st) ?_ ?_ (B + 1) a1 h1 (by omega)) (fun Q r p o' n st => (¬ r = 0 → ∃ j9, wp_X7_product_b9 (wp_X7_whole d) (wp_X7_both d) (wp_X7_compared d) (wp_X7_sum d) (wp_X7_product d) (wp_X7_one d) Q (nI u) s j9 p o' n st) ∧ (r = 0 → Q 0 p o' n st)) (fun n st Q hc => ?_) (fun Q p n st hc => ⟨fun _ => ⟨_, hc⟩, fun c => absurd c (by decide)⟩) (fun Q p o' n st hc => ⟨fun c => absurd rfl c, fun _ => hc⟩)
  · intro Q f a n st h1 h3 hq
    show wp_X7_product_b9 (wp_X7_whole d) (wp_X7_both d) (wp_X7_compared d) (wp_X7_sum d) (wp_X7_product d) (wp_X7_one d) Q (nI u) s (f + 1) (nI a) (nI o) n st
    unfold wp_X7_product_b9
    exact w7_look hB (by omega) h2 ht ⟨fun c => absurd (by rw [c]; rfl) h3, fun _ => w7_look hB (by omega) h2 ht ⟨fun c => absurd (by rw [c]; rfl) h3, fun _ => w7_look hB (by omega) h2 ht ⟨fun _ => hq, fun c => absurd (by rw [c]; rfl) h3⟩⟩⟩
  · intro Q f a n st h1 h3 hq
    show wp_X7_product_b9 (wp_X7_whole d) (wp_X7_both d) (wp_X7_compared d) (wp_X7_sum d) (wp_X7_product d) (wp_X7_one d) Q (nI u) s (f + 1) (nI a) (nI o) n st
    have b36 : wp_X7_product_b36 (wp_X7_whole d) (wp_X7_both d) (wp_X7_compared d) (wp_X7_sum d) (wp_X7_product d) (wp_X7_one d) Q (wp_X7_product_b9 (wp_X7_whole d) (wp_X7_both d) (wp_X7_compared d) (wp_X7_sum d) (wp_X7_product d) (wp_X7_one d) Q (nI u) s f) (nI u) s (nI a) (nI o) n st := by
      unfold wp_X7_product_b36
      refine w7_look hB (by omega) h2 ht (fun p ep => ?_)
      rw [ep, lk_i h1]; exact hq
    unfold wp_X7_product_b9
    refine w7_look hB (by omega) h2 ht ⟨fun _ => b36, fun c1 => w7_look hB (by omega) h2 ht ⟨fun _ => b36, fun c2 => w7_look hB (by omega) h2 ht ⟨fun c3 => ?_, fun _ => b36⟩⟩⟩
    rw [lk_i h1] at c1 c2 c3
    rcases lv_4 h3 with k | k | k
    · exact absurd k c1
    · exact absurd k c2
    · exact absurd k c3
  · show wp_X7_product (d + 1) (nI a) (nI o) (nI n) (nI u) s st Q
    rw [wp_X7_product_s]
    unfold ws_X7_product
    exact hc
theorem lv_sum (hB : B ≤ 60) (hT : ∀ i, i < 60 → Bd 255 (tape i)) (h2 : s 2 = nI B) (ht : ∀ i, i < 60 → s (392 + i) = tape i) (h : ∀ a, a ≤ B → RD 0 o B u (CCt tape B u dc 4 o) (M4t s u d o) a a) : ∀ a, a ≤ B → RD 0 o B u (CCt tape B u (dc + 1) 3 o) (M3t s u (d + 1) o) a a := by
  intro a ha
  refine chain hB (by omega) ha (h a ha) (ML2 := fun p n st Q => wp_X7_sum_b9 (wp_X7_whole d) (wp_X7_both d) (wp_X7_compared d) (wp_X7_sum d) (wp_X7_product d) (wp_X7_one d) Q (nI u) s (B + 1) p (nI o) n st) (fun a1 h1 => tl hB hT (by omega) (by omega) h (fun Q f p o' n st => wp_X7_sum_b9 (wp_X7_whole d) (wp_X7_both d) (wp_X7_compared d) (wp_X7_sum d) (wp_X7_product d) (wp_X7_one d) Q (nI u) s f p o' n st) ?_ ?_ (B + 1) a1 h1 (by omega)) (fun Q r p o' n st => (¬ r = 0 → ∃ j9, wp_X7_sum_b9 (wp_X7_whole d) (wp_X7_both d) (wp_X7_compared d) (wp_X7_sum d) (wp_X7_product d) (wp_X7_one d) Q (nI u) s j9 p o' n st) ∧ (r = 0 → Q 0 p o' n st)) (fun n st Q hc => ?_) (fun Q p n st hc => ⟨fun _ => ⟨_, hc⟩, fun c => absurd c (by decide)⟩) (fun Q p o' n st hc => ⟨fun c => absurd rfl c, fun _ => hc⟩)
  · intro Q f a n st h1 h3 hq
    show wp_X7_sum_b9 (wp_X7_whole d) (wp_X7_both d) (wp_X7_compared d) (wp_X7_sum d) (wp_X7_product d) (wp_X7_one d) Q (nI u) s (f + 1) (nI a) (nI o) n st
    unfold wp_X7_sum_b9
    exact w7_look hB (by omega) h2 ht ⟨fun c => absurd (by rw [c]; rfl) h3, fun _ => w7_look hB (by omega) h2 ht ⟨fun _ => hq, fun c => absurd (by rw [c]; rfl) h3⟩⟩
  · intro Q f a n st h1 h3 hq
    show wp_X7_sum_b9 (wp_X7_whole d) (wp_X7_both d) (wp_X7_compared d) (wp_X7_sum d) (wp_X7_product d) (wp_X7_one d) Q (nI u) s (f + 1) (nI a) (nI o) n st
    have b27 : wp_X7_sum_b27 (wp_X7_whole d) (wp_X7_both d) (wp_X7_compared d) (wp_X7_sum d) (wp_X7_product d) (wp_X7_one d) Q (wp_X7_sum_b9 (wp_X7_whole d) (wp_X7_both d) (wp_X7_compared d) (wp_X7_sum d) (wp_X7_product d) (wp_X7_one d) Q (nI u) s f) (nI u) s (nI a) (nI o) n st := by
      unfold wp_X7_sum_b27
      refine w7_look hB (by omega) h2 ht (fun p ep => ?_)
      rw [ep, lk_i h1]; exact hq
    unfold wp_X7_sum_b9
    refine w7_look hB (by omega) h2 ht ⟨fun _ => b27, fun c1 => w7_look hB (by omega) h2 ht ⟨fun c2 => ?_, fun _ => b27⟩⟩
    rw [lk_i h1] at c1 c2
    rcases lv_3 h3 with k | k
    · exact absurd k c1
    · exact absurd k c2
  · show wp_X7_sum (d + 1) (nI a) (nI o) (nI n) (nI u) s st Q
    rw [wp_X7_sum_s]
    unfold ws_X7_sum
    exact hc
theorem lv_both (hB : B ≤ 60) (hT : ∀ i, i < 60 → Bd 255 (tape i)) (h2 : s 2 = nI B) (ht : ∀ i, i < 60 → s (392 + i) = tape i) (h : ∀ a, a ≤ B → RD 0 o B u (CCt tape B u dc 2 o) (M2t s u d o) a a) : ∀ a, a ≤ B → RD 0 o B u (CCt tape B u (dc + 1) 1 o) (M1t s u (d + 1) o) a a := by
  intro a ha
  refine chain hB (by omega) ha (h a ha) (ML2 := fun p n st Q => wp_X7_both_b9 (wp_X7_whole d) (wp_X7_both d) (wp_X7_compared d) (wp_X7_sum d) (wp_X7_product d) (wp_X7_one d) Q (nI u) s (B + 1) p (nI o) n st) (fun a1 h1 => tl hB hT (by omega) (by omega) h (fun Q f p o' n st => wp_X7_both_b9 (wp_X7_whole d) (wp_X7_both d) (wp_X7_compared d) (wp_X7_sum d) (wp_X7_product d) (wp_X7_one d) Q (nI u) s f p o' n st) ?_ ?_ (B + 1) a1 h1 (by omega)) (fun Q r p o' n st => (¬ r = 0 → ∃ j9, wp_X7_both_b9 (wp_X7_whole d) (wp_X7_both d) (wp_X7_compared d) (wp_X7_sum d) (wp_X7_product d) (wp_X7_one d) Q (nI u) s j9 p o' n st) ∧ (r = 0 → Q 0 p o' n st)) (fun n st Q hc => ?_) (fun Q p n st hc => ⟨fun _ => ⟨_, hc⟩, fun c => absurd c (by decide)⟩) (fun Q p o' n st hc => ⟨fun c => absurd rfl c, fun _ => hc⟩)
  · intro Q f a n st h1 h3 hq
    show wp_X7_both_b9 (wp_X7_whole d) (wp_X7_both d) (wp_X7_compared d) (wp_X7_sum d) (wp_X7_product d) (wp_X7_one d) Q (nI u) s (f + 1) (nI a) (nI o) n st
    unfold wp_X7_both_b9
    exact w7_look hB (by omega) h2 ht ⟨fun _ => hq, fun c => absurd (by rw [c]; rfl) h3⟩
  · intro Q f a n st h1 h3 hq
    show wp_X7_both_b9 (wp_X7_whole d) (wp_X7_both d) (wp_X7_compared d) (wp_X7_sum d) (wp_X7_product d) (wp_X7_one d) Q (nI u) s (f + 1) (nI a) (nI o) n st
    unfold wp_X7_both_b9
    refine w7_look hB (by omega) h2 ht ⟨fun c1 => ?_, fun c1 p ep => ?_⟩
    · rw [lk_i h1] at c1
      exact absurd (lv_1 h3) c1
    · rw [lv_1 h3] at hq
      rw [ep]; exact hq
  · show wp_X7_both (d + 1) (nI a) (nI o) (nI n) (nI u) s st Q
    rw [wp_X7_both_s]
    unfold ws_X7_both
    exact hc
theorem lv_whole (hB : B ≤ 60) (hT : ∀ i, i < 60 → Bd 255 (tape i)) (h2 : s 2 = nI B) (ht : ∀ i, i < 60 → s (392 + i) = tape i) (h : ∀ a, a ≤ B → RD 0 o B u (CCt tape B u dc 1 o) (M1t s u d o) a a) : ∀ a, a ≤ B → RD 0 o B u (CCt tape B u (dc + 1) 0 o) (M0t s u (d + 1) o) a a := by
  intro a ha
  refine chain hB (by omega) ha (h a ha) (ML2 := fun p n st Q => wp_X7_whole_b9 (wp_X7_whole d) (wp_X7_both d) (wp_X7_compared d) (wp_X7_sum d) (wp_X7_product d) (wp_X7_one d) Q (nI u) s (B + 1) p (nI o) n st) (fun a1 h1 => tl hB hT (by omega) (by omega) h (fun Q f p o' n st => wp_X7_whole_b9 (wp_X7_whole d) (wp_X7_both d) (wp_X7_compared d) (wp_X7_sum d) (wp_X7_product d) (wp_X7_one d) Q (nI u) s f p o' n st) ?_ ?_ (B + 1) a1 h1 (by omega)) (fun Q r p o' n st => (¬ r = 0 → ∃ j9, wp_X7_whole_b9 (wp_X7_whole d) (wp_X7_both d) (wp_X7_compared d) (wp_X7_sum d) (wp_X7_product d) (wp_X7_one d) Q (nI u) s j9 p o' n st) ∧ (r = 0 → Q 0 p o' n st)) (fun n st Q hc => ?_) (fun Q p n st hc => ⟨fun _ => ⟨_, hc⟩, fun c => absurd c (by decide)⟩) (fun Q p o' n st hc => ⟨fun c => absurd rfl c, fun _ => hc⟩)
  · intro Q f a n st h1 h3 hq
    show wp_X7_whole_b9 (wp_X7_whole d) (wp_X7_both d) (wp_X7_compared d) (wp_X7_sum d) (wp_X7_product d) (wp_X7_one d) Q (nI u) s (f + 1) (nI a) (nI o) n st
    unfold wp_X7_whole_b9
    exact w7_look hB (by omega) h2 ht ⟨fun _ => hq, fun c => absurd (by rw [c]; rfl) h3⟩
  · intro Q f a n st h1 h3 hq
    show wp_X7_whole_b9 (wp_X7_whole d) (wp_X7_both d) (wp_X7_compared d) (wp_X7_sum d) (wp_X7_product d) (wp_X7_one d) Q (nI u) s (f + 1) (nI a) (nI o) n st
    unfold wp_X7_whole_b9
    refine w7_look hB (by omega) h2 ht ⟨fun c1 => ?_, fun c1 p ep => ?_⟩
    · rw [lk_i h1] at c1
      exact absurd (lv_0 h3) c1
    · rw [lv_0 h3] at hq
      rw [ep]; exact hq
  · show wp_X7_whole (d + 1) (nI a) (nI o) (nI n) (nI u) s st Q
    rw [wp_X7_whole_s]
    unfold ws_X7_whole
    exact hc
/-- the level that compares once -/
theorem lv_compared (hB : B ≤ 60) (hT : ∀ i, i < 60 → Bd 255 (tape i)) (h2 : s 2 = nI B) (ht : ∀ i, i < 60 → s (392 + i) = tape i) (h : ∀ a, a ≤ B → RD 0 o B u (CCt tape B u dc 3 o) (M3t s u d o) a a) : ∀ a, a ≤ B → RD 0 o B u (CCt tape B u (dc + 1) 2 o) (M2t s u (d + 1) o) a a := by
  intro a ha
  refine chain hB (by omega) ha (h a ha) (ML2 := fun p n st Q => wp_X7_look p s (fun r_10 => ((r_10 = (60 : Int32)) → wp_X7_compared_b34 (wp_X7_whole d) (wp_X7_both d) (wp_X7_compared d) (wp_X7_sum d) (wp_X7_product d) (wp_X7_one d) Q (nI u) s r_10 p (nI o) n st) ∧ ((¬ r_10 = (60 : Int32)) → ((r_10 = (61 : Int32)) → wp_X7_compared_b34 (wp_X7_whole d) (wp_X7_both d) (wp_X7_compared d) (wp_X7_sum d) (wp_X7_product d) (wp_X7_one d) Q (nI u) s r_10 p (nI o) n st) ∧ ((¬ r_10 = (61 : Int32)) → ((r_10 = (62 : Int32)) → wp_X7_compared_b34 (wp_X7_whole d) (wp_X7_both d) (wp_X7_compared d) (wp_X7_sum d) (wp_X7_product d) (wp_X7_one d) Q (nI u) s r_10 p (nI o) n st) ∧ ((¬ r_10 = (62 : Int32)) → Q (1 : Int32) p (nI o) n st))))) (fun a1 h1 => ?_) (fun Q r p o' n st => ((¬ r = 0) → wp_X7_look p s (fun r_10 => ((r_10 = (60 : Int32)) → wp_X7_compared_b34 (wp_X7_whole d) (wp_X7_both d) (wp_X7_compared d) (wp_X7_sum d) (wp_X7_product d) (wp_X7_one d) Q (nI u) s r_10 p o' n st) ∧ ((¬ r_10 = (60 : Int32)) → ((r_10 = (61 : Int32)) → wp_X7_compared_b34 (wp_X7_whole d) (wp_X7_both d) (wp_X7_compared d) (wp_X7_sum d) (wp_X7_product d) (wp_X7_one d) Q (nI u) s r_10 p o' n st) ∧ ((¬ r_10 = (61 : Int32)) → ((r_10 = (62 : Int32)) → wp_X7_compared_b34 (wp_X7_whole d) (wp_X7_both d) (wp_X7_compared d) (wp_X7_sum d) (wp_X7_product d) (wp_X7_one d) Q (nI u) s r_10 p o' n st) ∧ ((¬ r_10 = (62 : Int32)) → Q (1 : Int32) p o' n st))))) ∧ ((r = 0) → Q (0 : Int32) p o' n st)) (fun n st Q hc => ?_) (fun Q p n st hc => ⟨fun _ => hc, fun c => absurd c (by decide)⟩) (fun Q p o' n st hc => ⟨fun c => absurd rfl c, fun _ => hc⟩)
  · by_cases go : a1 < B ∧ lvf (tape a1) = nI 2
    · obtain ⟨g1, g2⟩ := go
      obtain ⟨g, hg, eg⟩ := hT a1 (by omega)
      have op := lv_op hg eg (by omega) g2
      refine RD.mono (lo := a1 + 1) (RD.map (RD.ops hB op eg (h (a1 + 1) (by omega))) (fun n q Q hc => ?_) (fun n st Q hc => ?_)) (by omega)
      · unfold wp_X0_readChain_b19
        rw [cl (by omega)]
        refine ⟨fun c => absurd rfl c, fun _ => ⟨fun c => absurd c (nle g1 (by omega)), fun _ => ⟨(vi (by omega) (by omega)), w0_levelOf ⟨fun c => absurd g2 c, fun _ => ⟨(vi (by omega) (by omega)), fun x3 e3 p ep => ?_⟩⟩⟩⟩⟩
        rw [e3, ep, show nI 2 + 1 = nI (2 + 1) from i1 2]
        have ek : (fun (p f n' : Int32) (q' : V) => wp_X3_add (-tape a1) n' q' (fun n'' q'' => (¬ nI 2 = (2 : Int32) → wp_X0_readChain_b19 (wp_X0_readChain dc) (wp_X0_readUnit dc) Q (nI B) (nI u) tape B (nI 2) (nI o) p f n'' q'') ∧ (nI 2 = (2 : Int32) → Q p f n'' q''))) = (fun (p f n' : Int32) (q' : V) => wp_X3_add (-tape a1) n' q' (fun n'' q'' => Q p f n'' q'')) := by
          funext p f n' q'
          congr 1
          funext n'' q''
          exact propext ⟨fun r => r.2 rfl, fun r => ⟨fun c => absurd rfl c, fun _ => r⟩⟩
        rw [← ek] at hc
        exact hc
      · have b34 : wp_X7_compared_b34 (wp_X7_whole d) (wp_X7_both d) (wp_X7_compared d) (wp_X7_sum d) (wp_X7_product d) (wp_X7_one d) Q (nI u) s (tape a1) (nI a1) (nI o) (nI n) st := by
          unfold wp_X7_compared_b34
          intro p ep
          rw [ep]; exact hc
        refine w7_look hB (by omega) h2 ht ?_
        rw [lk_i g1]
        refine ⟨fun _ => b34, fun c1 => ⟨fun _ => b34, fun c2 => ⟨fun _ => b34, fun c3 => ?_⟩⟩⟩
        rcases lv_2 g2 with k | k | k
        · exact absurd k c1
        · exact absurd k c2
        · exact absurd k c3
    · refine RD.stop h1 (fun n q Q hc => ?_) (fun n st Q hc => ?_)
      · unfold wp_X0_readChain_b19
        refine ⟨fun c => absurd rfl c, fun _ => ⟨fun _ => hc, fun c => ?_⟩⟩
        have hlt : a1 < B := by
          rcases Nat.lt_or_ge a1 B with q | q
          · exact q
          · exact absurd ((le_n (by omega) (by omega)).mpr q) c
        rw [cl (by omega)]
        exact ⟨(vi (by omega) (by omega)), w0_levelOf ⟨fun _ => hc, fun c2 => absurd ⟨hlt, c2⟩ go⟩⟩
      · have h3 : ¬ lvf (lk tape B a1) = nI 2 := by
          intro c
          rcases Nat.lt_or_ge a1 B with q | q
          · rw [lk_i q] at c; exact go ⟨q, c⟩
          · rw [lk_e q] at c
            exact absurd c (nm1 (by omega))
        exact w7_look hB (by omega) h2 ht ⟨fun c => absurd (by rw [c]; rfl) h3, fun _ => ⟨fun c => absurd (by rw [c]; rfl) h3, fun _ => ⟨fun c => absurd (by rw [c]; rfl) h3, fun _ => hc⟩⟩⟩
  · show wp_X7_compared (d + 1) (nI a) (nI o) (nI n) (nI u) s st Q
    rw [wp_X7_compared_s]
    unfold ws_X7_compared
    exact hc
end LEVELS
