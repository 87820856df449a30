/-! bytes that come to the tape; numbers that are moved; images -/
theorem c255a : ∀ j, j < 32 → (255 : Int32).toBitVec.getLsbD j = decide (j < 8) := by decide +kernel
theorem c255b : ∀ j, j < 32 → (255 : Int64).toBitVec.getLsbD j = decide (j < 8) := by decide +kernel
theorem fd_e (x : Int64) {k : Nat} {S : UInt64} {T : Int64} (hk : k ≤ 56) (hS : (S.toBitVec % 64).toNat = k) (hT : (T.toBitVec.smod 64).toNat = k) : ((x.toUInt64 >>> S).toInt64.toInt32 &&& 255) = ((x >>> T) &&& (255 : Int64)).toInt32 := by
  apply Int32.toBitVec_inj.mp
  apply BitVec.eq_of_getLsbD_eq
  intro j hj
  have e1 : (x.toUInt64 >>> S).toInt64.toInt32.toBitVec.getLsbD j = (decide (j < 32) && x.toBitVec.getLsbD (k + j)) := by
    rw [Int64.toBitVec_toInt32, BitVec.getLsbD_signExtend, if_pos (show j < 64 by omega)]
    show (decide (j < 32) && (x.toUInt64 >>> S).toBitVec.getLsbD j) = _
    rw [UInt64.toBitVec_shiftRight]
    show (decide (j < 32) && (x.toUInt64.toBitVec >>> (S.toBitVec % 64).toNat).getLsbD j) = _
    rw [hS, BitVec.getLsbD_ushiftRight]
    rfl
  have e2 : (x >>> T).toBitVec.getLsbD j = if k + j < 64 then x.toBitVec.getLsbD (k + j) else x.toBitVec.msb := by
    rw [Int64.toBitVec_shiftRight]
    show (x.toBitVec.sshiftRight (T.toBitVec.smod 64).toNat).getLsbD j = _
    rw [hT, BitVec.getLsbD_sshiftRight]
    simp [show ¬ 64 ≤ j by omega]
  rw [Int32.toBitVec_and, BitVec.getLsbD_and, e1, c255a j hj, Int64.toBitVec_toInt32, BitVec.getLsbD_signExtend, if_pos (show j < 64 by omega), Int64.toBitVec_and, BitVec.getLsbD_and, e2, c255b j hj]
  by_cases c : j < 8
  · rw [if_pos (by omega), decide_eq_true c]
    cases decide (j < 32) <;> cases x.toBitVec.getLsbD (k + j) <;> rfl
  · rw [decide_eq_false c, Bool.and_false, Bool.and_false, Bool.and_false]
theorem fd_S : ∀ i, i < 8 → (((((8 : Int32) * nI i).toInt64.toUInt64 &&& Int64.toUInt64 63)).toBitVec % 64).toNat = 8 * i := by decide +kernel
theorem fd_T : ∀ i, i < 8 → (((((8 : Int32) * nI i).toInt64 &&& 63)).toBitVec.smod 64).toNat = 8 * i := by decide +kernel
/-- byte i of a word -/
def fby (x : Int64) (i : Nat) : Int32 := ((x >>> (((8 : Int32) * nI i).toInt64 &&& 63)) &&& (255 : Int64)).toInt32
theorem fd_i (x : Int64) {i : Nat} (hi : i < 8) : (((x.toUInt64 >>> (((8 : Int32) * nI i).toInt64.toUInt64 &&& Int64.toUInt64 63)).toInt64).toInt32) &&& (255 : Int32) = fby x i := fd_e x (by omega) (fd_S i hi) (fd_T i hi)
theorem fby_bd (x : Int64) {i : Nat} (hi : i < 8) : Bd 255 (fby x i) := by
  rw [← fd_i x hi]
  obtain ⟨j, hj, e⟩ := pk_andE (((x.toUInt64 >>> (((8 : Int32) * nI i).toInt64.toUInt64 &&& Int64.toUInt64 63)).toInt64).toInt32) (m := 255) 8 (by decide)
  exact ⟨j, by omega, e⟩
section OPS
variable {P Y B w : Nat} {z : Int32} {km fa mo fr sp ow tp tn : V} {tq tk : Nat → V} {wt s e : V}
theorem WR.tap (h : WR P Y B w z km fa mo fr sp ow tp tn tq wt s) {B' : Nat} (hB : B' ≤ 60) {tp' s' : V} (ht : Rt tp' s') (h2 : s' 2 = nI B') (ho : ∀ i, i ≠ 2 → (i < 392 ∨ 452 ≤ i) → s' i = s i) : WR P Y B' w z km fa mo fr sp ow tp' tn tq wt s' := by
  obtain ⟨⟨a1, a2, a3, a4⟩, ⟨b1, b2, b3, b4, b5⟩, c1, c2, c3, c4, c5, c6, c7, c8, c9⟩ := h
  exact ⟨⟨a1, a2, hB, a4⟩, ⟨by rw [ho _ (by omega) (by omega)]; exact b1, by rw [ho _ (by omega) (by omega)]; exact b2, h2, by rw [ho _ (by omega) (by omega)]; exact b4, by rw [ho _ (by omega) (by omega)]; exact b5⟩, c1.fr a1 (fun i h1 h2 => ho i (by omega) (by omega)), c2.fr a1 (fun i h1 h2 => ho i (by omega) (by omega)), c3, c4.fr a1 (fun i h1 h2 => ho i (by omega) (by omega)), c5.fr a1 (fun i h1 h2 => ho i (by omega) (by omega)), ht, c7.fr (fun i h1 h2 => ho i (by omega) (by omega)), c8.fr (by omega) (fun i h1 h2 => ho i (by omega) (by omega)), c9.fr (by omega) (fun i h1 h2 => ho i (by omega) (by omega))⟩
theorem op_feed (h : WR P Y B w z km fa mo fr sp ow tp tn tq wt s) (x1 : Int64) (x3 : Int32) (C : Int32 → Int32 → V → V → Int32 → V → V → Prop) (hC : ∀ r B' tp' e' s', WR P Y B' w z km fa mo fr sp ow tp' tn tq wt s' → C r (nI B') tp' e' r s' e') : wp_X6_feed x1 x3 (nI B) tp e (fun r b' tp' e' => wp_X7_feed x1 x3 s e (fun r' s' e'' => C r b' tp' e' r' s' e'')) := by
  obtain ⟨⟨a1, a2, a3, a4⟩, ⟨b1, b2, b3, b4, b5⟩, c1, c2, c3, c4, c5, c6, c7, c8, c9⟩ := id h
  unfold wp_X6_feed wp_X7_feed
  rcases oneTo x3 (M := 8) (by omega) with ⟨n, hn1, hn, rfl⟩ | hx
  · rw [show ((2 : Int32).toNatClampNeg) = 2 from rfl, b3]
    refine w6_within_in (lo := 1) (hi := 8) (by omega) (by omega) (by omega) (tB ⟨fun c => ?_, fun c => w6_e4 (w7_in_in (lo := 1) (hi := 8) (by omega) (by omega) (by omega) (tC ⟨vi (n := 2) (by omega) (by omega), fun q => absurd q c, fun _ => w7_e4 (hC _ _ _ _ _ h)⟩))⟩)
    have hY := (nsum (c := 60) (by omega) (by omega) (by omega)).mp c
    refine loop_0 (fun f i (t : V) => wp_X6_feed_b39 _ f x1 (nI n) (nI i) (nI B) t e) (fun i t => (∀ j, j < i → t (B + j) = fby x1 j) ∧ ∀ j, (j < B ∨ B + i ≤ j) → t j = tp j) n tp ⟨fun j hj => absurd hj (Nat.not_lt_zero j), fun j _ => rfl⟩ ?_ ?_
    · intro f t ⟨t1, t2⟩
      unfold wp_X6_feed_b39
      refine ⟨fun _ y ey => ?_, fun q => absurd ((le_n (by omega) (by omega)).mpr (Nat.le_refl n)) q⟩
      rw [ey, ad]
      refine w7_in_in (lo := 1) (hi := 8) (by omega) (by omega) (by omega) (tC ⟨vi (n := 2) (by omega) (by omega), fun _ => ?_, fun q => absurd ((le_n (b := 60) (by omega) (by omega)).mpr hY) q⟩)
      refine loop_0 (fun f i (u : V) => wp_X7_feed_b38 _ f x1 (nI n) (nI i) u e) (fun i u => u 2 = nI (B + i) ∧ (∀ j, j < i → u (392 + B + j) = fby x1 j) ∧ ∀ j, j ≠ 2 → (j < 392 + B ∨ 392 + B + i ≤ j) → u j = s j) n s ⟨b3, fun j hj => absurd hj (Nat.not_lt_zero j), fun j _ _ => rfl⟩ ?_ ?_
      · intro f2 u ⟨u0, u1, u2⟩
        unfold wp_X7_feed_b38
        rw [show ((2 : Int32).toNatClampNeg) = 2 from rfl, u0]
        refine ⟨fun _ => ⟨vi (n := 2) (by omega) (by omega), ?_⟩, fun q => absurd ((le_n (by omega) (by omega)).mpr (Nat.le_refl n)) q⟩
        refine hC _ _ _ _ _ (h.tap (by omega) (fun i hi => ?_) u0 (fun i i2 hi => u2 i i2 (by omega)))
        by_cases k : B ≤ i ∧ i < B + n
        · have q1 := t1 (i - B) (by omega)
          have q2 := u1 (i - B) (by omega)
          rw [show B + (i - B) = i by omega] at q1
          rw [show 392 + B + (i - B) = 392 + i by omega] at q2
          rw [q1, q2]
          exact ⟨fby_bd x1 (by omega), rfl⟩
        · rw [t2 i (by omega), u2 (392 + i) (by omega) (by omega)]
          exact c6 i hi
      · intro f2 i u hi ⟨u0, u1, u2⟩ ih
        unfold wp_X7_feed_b38
        rw [show ((2 : Int32).toNatClampNeg) = 2 from rfl, u0, show (392 : Int32) = nI 392 from rfl, ad, cl (by omega)]
        refine ⟨fun q => absurd q (nle hi (by omega)), fun _ => ⟨vi (n := 2) (by omega) (by omega), vi (by omega) (by omega), fun s1 e1 => ⟨vi (n := 2) (by omega) (by omega), vi (n := 2) (by omega) (by omega), fun s2 e2 y ey => ?_⟩⟩⟩
        have e1' : s1 = upd u (392 + (B + i)) (fby x1 i) := e1
        rw [ey, i1]
        subst e2
        subst e1'
        refine ih _ ⟨?_, fun j hj => ?_, fun j j2 hj => ?_⟩
        · rw [us, un (by omega), u0, i1, Nat.add_assoc]
        · by_cases k : j = i
          · subst k
            rw [un (by omega), show 392 + B + j = 392 + (B + j) by omega, us]
          · rw [un (by omega), un (by omega)]; exact u1 j (by omega)
        · rw [un j2, un (by omega)]; exact u2 j j2 (by omega)
    · intro f i t hi ⟨t1, t2⟩ ih
      unfold wp_X6_feed_b39
      rw [fd_i x1 (by omega), show nI B + nI i = nI (B + i) from ad, cl (by omega)]
      refine ⟨fun q => absurd q (nle hi (by omega)), fun _ => ⟨vi (by omega) (by omega), fun t' et y ey => ?_⟩⟩
      rw [ey, i1]
      subst et
      refine ih _ ⟨fun j hj => ?_, fun j hj => ?_⟩
      · by_cases k : j = i
        · subst k; exact us
        · rw [un (by omega)]; exact t1 j (by omega)
      · rw [un (by omega)]; exact t2 j (by omega)
  · refine w6_notWithin (fun c => absurd hx c) (fun _ => tD (w6_e1 ?_))
    exact w7_in (fun c => absurd hx c) (fun _ => tA (w7_e1 (hC _ _ _ _ _ h)))
theorem sub_ti {a b : Nat} (ha : a < 2147483648) (hb : b < 2147483648) : (nI a - nI b).toInt = (a : Int) - b := by
  rw [Int32.toInt_sub, ti ha, ti hb]
  exact Int.bmod_eq_of_le (by omega) (by omega)
theorem w1_lacks_neg {x1 x2 l : Int32} (h : x1 < 0) {Q : Int32 → Prop} (q : Q 1) : wp_X1_lacks x1 x2 l Q := by
  unfold wp_X1_lacks
  exact ⟨fun _ => q, fun c => absurd h c⟩
theorem w1_lacks_n {i n L : Nat} (hi : i < 2147483648) (hn : n < 2147483648) (hL : L ≤ 24) {Q : Int32 → Prop} (h0 : i + n ≤ L → Q 0) (h1 : ¬ i + n ≤ L → Q 1) : wp_X1_lacks (nI i) (nI n) (nI L) Q := by
  unfold wp_X1_lacks
  refine ⟨fun c => absurd c (nlt (b := 0) (by omega) (by omega)), fun _ => ⟨fun c => h1 ?_, fun c => ⟨fun d => h0 ?_, fun d => h1 ?_⟩⟩⟩
  · have := (lt_n (by omega) (by omega)).mp c; omega
  · rw [ie, sub_ti (by omega) (by omega), ti (by omega)] at d; omega
  · rw [ie, sub_ti (by omega) (by omega), ti (by omega)] at d; omega
variable {bt ln : V} {nm : Nat → V} {mb ms mn as : V}
theorem op_move (hs : SH bt ln nm mb ms mn) (x1 x2 x3 x4 x5 : Int32) (C : Int32 → V → (Nat → V) → Int32 → V → V → V → Prop) (hC : ∀ r e' nm' mn' as', SH bt ln nm' mb ms mn' → C r e' nm' r e' mn' as') : wp_X6_move x1 x2 x3 x4 x5 e bt ln nm (fun r e' nm' => wp_X7_move x1 x2 x3 x4 x5 e mb ms mn as (fun r' e'' mn' as' => C r e' nm' r' e'' mn' as')) := by
  unfold wp_X6_move
  rcases io x1 4 (by omega) with ⟨k, hk, rfl⟩ | ho
  · rcases io x3 4 (by omega) with ⟨l, hl, rfl⟩ | ho3
    · obtain ⟨⟨g1, g2⟩, ⟨L, hL, g3, g4⟩, g5⟩ := hs k hk
      obtain ⟨⟨g1', g2'⟩, ⟨L', hL', g3', g4'⟩, g5'⟩ := hs l hl
      (repeat (with_reducible (first | refine tA ?_ | refine tB ?_ | refine tC ?_ | refine tD ?_ | refine w6_one_in (by assumption) (by assumption) ?_ | refine w6_one_out (by assumption) (by assumption) ?_ | refine w7_one_in (by assumption) (by assumption) (by assumption) ?_ | refine w7_one_out (by assumption) (by assumption) (by assumption) ?_ | refine w6_two_in (by assumption) (by assumption) (by assumption) (by assumption) ?_ | refine w6_two_out (by assumption) (by assumption) ?_ | refine w7_two_in (by assumption) (by assumption) (by assumption) (by assumption) (by assumption) ?_ | refine w7_two_out (by assumption) (by assumption) (by assumption) ?_ | refine w6_sort_in (by assumption) ?_ | refine w6_sort_out (by assumption) ?_ | refine w7_sort_in (by assumption) ?_ | refine w7_sort_out (by assumption) ?_ | refine w6_km_in (by assumption) ?_ | refine w6_km_out (by assumption) ?_ | refine w7_kind_in (by assumption) ?_ | refine w7_kind_out (by assumption) ?_ | refine w6_sheet_in (by assumption) ?_ | refine w6_sheet_out (by assumption) ?_ | refine w7_sheet_in (by assumption) ?_ | refine w7_sheet_out (by assumption) ?_ | refine w6_e1 ?_ | refine w6_e2 ?_ | refine w6_e3 ?_ | refine w6_e4 ?_ | refine w6_e5 ?_ | refine w6_e6 ?_ | refine w7_e1 ?_ | refine w7_e2 ?_ | refine w7_e3 ?_ | refine w7_e4 ?_ | refine w7_e5 ?_ | refine w7_e6 ?_)))
      refine ⟨(vi (by omega) (by omega)), fun K hK eK => ?_⟩
      have : k = K := (eq_n (by omega) (by omega)).mp eK
      subst this
      refine ⟨(vi (by omega) (by omega)), fun K hK eK => ?_⟩
      have : l = K := (eq_n (by omega) (by omega)).mp eK
      subst this
      by_cases z0 : bt k = 0
      · refine w1_missing_1 z0 ?_
        (repeat (with_reducible (first | refine tA ?_ | refine tB ?_ | refine tC ?_ | refine tD ?_ | refine w6_one_in (by assumption) (by assumption) ?_ | refine w6_one_out (by assumption) (by assumption) ?_ | refine w7_one_in (by assumption) (by assumption) (by assumption) ?_ | refine w7_one_out (by assumption) (by assumption) (by assumption) ?_ | refine w6_two_in (by assumption) (by assumption) (by assumption) (by assumption) ?_ | refine w6_two_out (by assumption) (by assumption) ?_ | refine w7_two_in (by assumption) (by assumption) (by assumption) (by assumption) (by assumption) ?_ | refine w7_two_out (by assumption) (by assumption) (by assumption) ?_ | refine w6_sort_in (by assumption) ?_ | refine w6_sort_out (by assumption) ?_ | refine w7_sort_in (by assumption) ?_ | refine w7_sort_out (by assumption) ?_ | refine w6_km_in (by assumption) ?_ | refine w6_km_out (by assumption) ?_ | refine w7_kind_in (by assumption) ?_ | refine w7_kind_out (by assumption) ?_ | refine w6_sheet_in (by assumption) ?_ | refine w6_sheet_out (by assumption) ?_ | refine w7_sheet_in (by assumption) ?_ | refine w7_sheet_out (by assumption) ?_ | refine w6_e1 ?_ | refine w6_e2 ?_ | refine w6_e3 ?_ | refine w6_e4 ?_ | refine w6_e5 ?_ | refine w6_e6 ?_ | refine w7_e1 ?_ | refine w7_e2 ?_ | refine w7_e3 ?_ | refine w7_e4 ?_ | refine w7_e5 ?_ | refine w7_e6 ?_)))
        unfold wp_X7_move
        rw [cl (by omega)]
        refine w7_sheet_in hk (tD (w7_sheet_in hl (tC ⟨(vi (by omega) (by omega)), fun _ => w7_e2 (hC _ _ _ _ _ hs), fun c => absurd (by rw [← g1]; exact z0) c⟩)))
      · refine w1_missing_0 z0 ?_
        (repeat (with_reducible (first | refine tA ?_ | refine tB ?_ | refine tC ?_ | refine tD ?_ | refine w6_one_in (by assumption) (by assumption) ?_ | refine w6_one_out (by assumption) (by assumption) ?_ | refine w7_one_in (by assumption) (by assumption) (by assumption) ?_ | refine w7_one_out (by assumption) (by assumption) (by assumption) ?_ | refine w6_two_in (by assumption) (by assumption) (by assumption) (by assumption) ?_ | refine w6_two_out (by assumption) (by assumption) ?_ | refine w7_two_in (by assumption) (by assumption) (by assumption) (by assumption) (by assumption) ?_ | refine w7_two_out (by assumption) (by assumption) (by assumption) ?_ | refine w6_sort_in (by assumption) ?_ | refine w6_sort_out (by assumption) ?_ | refine w7_sort_in (by assumption) ?_ | refine w7_sort_out (by assumption) ?_ | refine w6_km_in (by assumption) ?_ | refine w6_km_out (by assumption) ?_ | refine w7_kind_in (by assumption) ?_ | refine w7_kind_out (by assumption) ?_ | refine w6_sheet_in (by assumption) ?_ | refine w6_sheet_out (by assumption) ?_ | refine w7_sheet_in (by assumption) ?_ | refine w7_sheet_out (by assumption) ?_ | refine w6_e1 ?_ | refine w6_e2 ?_ | refine w6_e3 ?_ | refine w6_e4 ?_ | refine w6_e5 ?_ | refine w6_e6 ?_ | refine w7_e1 ?_ | refine w7_e2 ?_ | refine w7_e3 ?_ | refine w7_e4 ?_ | refine w7_e5 ?_ | refine w7_e6 ?_)))
        have n0 : ¬ mb k = 0 := by rw [← g1]; exact z0
        by_cases z1 : bt l = 0
        · refine w1_missing_1 z1 ?_
          (repeat (with_reducible (first | refine tA ?_ | refine tB ?_ | refine tC ?_ | refine tD ?_ | refine w6_one_in (by assumption) (by assumption) ?_ | refine w6_one_out (by assumption) (by assumption) ?_ | refine w7_one_in (by assumption) (by assumption) (by assumption) ?_ | refine w7_one_out (by assumption) (by assumption) (by assumption) ?_ | refine w6_two_in (by assumption) (by assumption) (by assumption) (by assumption) ?_ | refine w6_two_out (by assumption) (by assumption) ?_ | refine w7_two_in (by assumption) (by assumption) (by assumption) (by assumption) (by assumption) ?_ | refine w7_two_out (by assumption) (by assumption) (by assumption) ?_ | refine w6_sort_in (by assumption) ?_ | refine w6_sort_out (by assumption) ?_ | refine w7_sort_in (by assumption) ?_ | refine w7_sort_out (by assumption) ?_ | refine w6_km_in (by assumption) ?_ | refine w6_km_out (by assumption) ?_ | refine w7_kind_in (by assumption) ?_ | refine w7_kind_out (by assumption) ?_ | refine w6_sheet_in (by assumption) ?_ | refine w6_sheet_out (by assumption) ?_ | refine w7_sheet_in (by assumption) ?_ | refine w7_sheet_out (by assumption) ?_ | refine w6_e1 ?_ | refine w6_e2 ?_ | refine w6_e3 ?_ | refine w6_e4 ?_ | refine w6_e5 ?_ | refine w6_e6 ?_ | refine w7_e1 ?_ | refine w7_e2 ?_ | refine w7_e3 ?_ | refine w7_e4 ?_ | refine w7_e5 ?_ | refine w7_e6 ?_)))
          unfold wp_X7_move
          rw [show (nI k).toNatClampNeg = k from cl (by omega), show (nI l).toNatClampNeg = l from cl (by omega)]
          exact w7_sheet_in hk (tD (w7_sheet_in hl (tC ⟨(vi (by omega) (by omega)), fun c => absurd c n0, fun _ => ⟨(vi (by omega) (by omega)), fun c => absurd (by rw [← g1']; exact z1) c, fun _ => w7_e2 (hC _ _ _ _ _ hs)⟩⟩)))
        · refine w1_missing_0 z1 ?_
          (repeat (with_reducible (first | refine tA ?_ | refine tB ?_ | refine tC ?_ | refine tD ?_ | refine w6_one_in (by assumption) (by assumption) ?_ | refine w6_one_out (by assumption) (by assumption) ?_ | refine w7_one_in (by assumption) (by assumption) (by assumption) ?_ | refine w7_one_out (by assumption) (by assumption) (by assumption) ?_ | refine w6_two_in (by assumption) (by assumption) (by assumption) (by assumption) ?_ | refine w6_two_out (by assumption) (by assumption) ?_ | refine w7_two_in (by assumption) (by assumption) (by assumption) (by assumption) (by assumption) ?_ | refine w7_two_out (by assumption) (by assumption) (by assumption) ?_ | refine w6_sort_in (by assumption) ?_ | refine w6_sort_out (by assumption) ?_ | refine w7_sort_in (by assumption) ?_ | refine w7_sort_out (by assumption) ?_ | refine w6_km_in (by assumption) ?_ | refine w6_km_out (by assumption) ?_ | refine w7_kind_in (by assumption) ?_ | refine w7_kind_out (by assumption) ?_ | refine w6_sheet_in (by assumption) ?_ | refine w6_sheet_out (by assumption) ?_ | refine w7_sheet_in (by assumption) ?_ | refine w7_sheet_out (by assumption) ?_ | refine w6_e1 ?_ | refine w6_e2 ?_ | refine w6_e3 ?_ | refine w6_e4 ?_ | refine w6_e5 ?_ | refine w6_e6 ?_ | refine w7_e1 ?_ | refine w7_e2 ?_ | refine w7_e3 ?_ | refine w7_e4 ?_ | refine w7_e5 ?_ | refine w7_e6 ?_)))
          have n1 : ¬ mb l = 0 := by rw [← g1']; exact z1
          rw [g3, g3']
          have m : ∀ R : Int32 → V → V → V → Prop, (¬ mb k = mb l → R (er 5) (eu e 5) mn as) → (mb k = mb l → (x5 < 0 ∨ x2 < 0 ∨ x4 < 0) → R (er 1) (eu e 1) mn as) → (mb k = mb l → ¬ x5 < 0 → ¬ x2 < 0 → ¬ x4 < 0 → (nI L - x5 < x2 ∨ ¬ x4 ≤ nI L' - x5) → R (er 1) (eu e 1) mn as) → (mb k = mb l → ¬ x5 < 0 → ¬ x2 < 0 → ¬ x4 < 0 → ¬ nI L - x5 < x2 → x4 ≤ nI L' - x5 → ∃ j115, wp_X7_move_b115 R mb ms j115 (nI k) x2 (nI l) x4 x5 (0 : Int32) e mn as) → wp_X7_move (nI k) x2 (nI l) x4 x5 e mb ms mn as R := by
            intro R q5 q1 q2 q3
            have b106 : R (er 1) (eu e 1) mn as → wp_X7_move_b106 R mb ms e mn as := fun q => by
              unfold wp_X7_move_b106; exact w7_e1 q
            unfold wp_X7_move
            rw [show (nI k).toNatClampNeg = k from cl (by omega), show (nI l).toNatClampNeg = l from cl (by omega), g4, g4']
            exact w7_sheet_in hk (tD (w7_sheet_in hl (tC ⟨(vi (by omega) (by omega)), fun c => absurd c n0, fun _ => ⟨(vi (by omega) (by omega)), fun _ => ⟨(vi (by omega) (by omega)), (vi (by omega) (by omega)), fun c => ⟨fun d => b106 (q1 c (Or.inl d)), fun d => ⟨fun d2 => b106 (q1 c (Or.inr (Or.inl d2))), fun d2 => ⟨fun d4 => b106 (q1 c (Or.inr (Or.inr d4))), fun d4 => ⟨(vi (by omega) (by omega)), fun g => b106 (q2 c d d2 d4 (Or.inl g)), fun g => ⟨(vi (by omega) (by omega)), fun g' => q3 c d d2 d4 g g', fun g' => b106 (q2 c d d2 d4 (Or.inr g'))⟩⟩⟩⟩⟩, fun c => w7_e5 (q5 c)⟩, fun c => absurd c n1⟩⟩)))
          have eb : bt k = bt l ↔ mb k = mb l := by rw [g1, g1']
          have bad : bt k = bt l → (x5 < 0 ∨ x2 < 0 ∨ x4 < 0 ∨ nI L - x5 < x2 ∨ ¬ x4 ≤ nI L' - x5) → ∀ R : Int32 → V → V → V → Prop, R (er 1) (eu e 1) mn as → wp_X7_move (nI k) x2 (nI l) x4 x5 e mb ms mn as R := by
            intro c b R r
            refine m R (fun q => absurd (eb.mp c) q) (fun _ _ => r) (fun _ _ _ _ _ => r) (fun _ d5 d2 d4 d1 d0 => ?_)
            rcases b with b | b | b | b | b
            · exact absurd b d5
            · exact absurd b d2
            · exact absurd b d4
            · exact absurd b d1
            · exact absurd d0 b
          refine ⟨fun c => ⟨fun d => w6_e1 (bad c (Or.inl d) _ (hC _ _ _ _ _ hs)), fun d => ?_⟩, fun c => w6_e5 (m _ (fun _ => hC _ _ _ _ _ hs) (fun q => absurd (eb.mpr q) c) (fun q => absurd (eb.mpr q) c) (fun q => absurd (eb.mpr q) c))⟩
          obtain ⟨n, hn, rfl⟩ := nI_of d
          by_cases d2 : x2 < 0
          · exact w1_lacks_neg d2 (tC (w6_e1 (bad c (Or.inr (Or.inl d2)) _ (hC _ _ _ _ _ hs))))
          · obtain ⟨i, hi, rfl⟩ := nI_of d2
            have c1i : (nI L - nI n < nI i) ↔ ¬ i + n ≤ L := by
              rw [il, sub_ti (by omega) (by omega), ti (by omega)]; omega
            refine w1_lacks_n hi hn hL (fun g => tA ?_) (fun g => tC (w6_e1 (bad c (Or.inr (Or.inr (Or.inr (Or.inl (c1i.mpr g))))) _ (hC _ _ _ _ _ hs))))
            by_cases d4 : x4 < 0
            · exact w1_lacks_neg d4 (tD (w6_e1 (bad c (Or.inr (Or.inr (Or.inl d4))) _ (hC _ _ _ _ _ hs))))
            · obtain ⟨j, hj, rfl⟩ := nI_of d4
              have c2i : (nI j ≤ nI L' - nI n) ↔ j + n ≤ L' := by
                rw [ie, sub_ti (by omega) (by omega), ti (by omega)]; omega
              refine w1_lacks_n hj hn hL' (fun g' => tB ?_) (fun g' => tD (w6_e1 (bad c (Or.inr (Or.inr (Or.inr (Or.inr (fun q => g' (c2i.mp q)))))) _ (hC _ _ _ _ _ hs))))
              refine ⟨d2, d4, d, by rw [cl (by omega), cl (by omega)]; omega, by rw [cl (by omega), cl (by omega)]; omega, fun nm' en => ?_⟩
              rw [cl (by omega), cl (by omega), cl (by omega)] at en
              refine m _ (fun q => absurd (eb.mp c) q) (fun _ b => ?_) (fun _ _ _ _ b => ?_) (fun _ _ _ _ _ _ => ?_)
              · exfalso
                rcases b with b | b | b
                · exact d b
                · exact d2 b
                · exact d4 b
              · exfalso
                rcases b with b | b
                · exact c1i.mp b g
                · exact b (c2i.mpr g')
              refine loop_0 (fun f a (t : V) => wp_X7_move_b115 _ mb ms f (nI k) (nI i) (nI l) (nI j) (nI n) (nI a) e mn t) (fun a t => ∀ b, b < a → t b = nm k (i + b)) n as (fun b hb => absurd hb (Nat.not_lt_zero b)) ?_ ?_
              · intro f t ht
                unfold wp_X7_move_b115
                refine ⟨fun _ => ?_, fun q => absurd ((le_n (by omega) (by omega)).mpr (Nat.le_refl n)) q⟩
                refine loop_0 (fun f a (v : V) => wp_X7_move_b152 _ mb ms f (nI l) (nI j) (nI n) (nI a) e v t) (fun a v => (∀ b, b < a → v (24 * l + j + b) = nm k (i + b)) ∧ ∀ b, (b < 24 * l + j ∨ 24 * l + j + a ≤ b) → v b = mn b) n mn ⟨fun b hb => absurd hb (Nat.not_lt_zero b), fun b _ => rfl⟩ ?_ ?_
                · intro f2 v ⟨v1, v2⟩
                  unfold wp_X7_move_b152
                  refine ⟨fun _ => ?_, fun q => absurd ((le_n (by omega) (by omega)).mpr (Nat.le_refl n)) q⟩
                  refine hC _ _ _ _ _ (fun a ha => ?_)
                  obtain ⟨q1, q2, q3⟩ := hs a ha
                  refine ⟨q1, q2, fun b hb => ?_⟩
                  by_cases r : a = l
                  · subst r
                    rw [en, vup_s]
                    by_cases r2 : j ≤ b ∧ b < j + n
                    · rw [pk_cpy_in r2.1 r2.2]
                      have := v1 (b - j) (by omega)
                      rw [show 24 * a + j + (b - j) = 24 * a + b by omega] at this
                      exact this
                    · rw [pk_cpy_out (by omega), v2 _ (by omega)]
                      exact q3 b hb
                  · rw [en, vup_n r, v2 _ (by omega)]
                    exact q3 b hb
                · intro f2 a v ha ⟨v1, v2⟩ ih
                  unfold wp_X7_move_b152
                  rw [show (24 : Int32) = nI 24 from rfl, ml, ad, ad, cl (by omega), cl (by omega)]
                  refine ⟨fun q => absurd q (nle ha (by omega)), fun _ => ⟨(vi (by omega) (by omega)), (vi (by omega) (by omega)), fun v' ev y ey => ?_⟩⟩
                  rw [ey, i1]
                  subst ev
                  refine ih _ ⟨fun b hb => ?_, fun b hb => ?_⟩
                  · by_cases r : b = a
                    · subst r; rw [us]; exact ht b ha
                    · rw [un (by omega)]; exact v1 b (by omega)
                  · rw [un (by omega)]; exact v2 b (by omega)
              · intro f a t ha ht ih
                unfold wp_X7_move_b115
                rw [show (24 : Int32) = nI 24 from rfl, ml, ad, ad, cl (by omega), cl (by omega)]
                refine ⟨fun q => absurd q (nle ha (by omega)), fun _ => ⟨(vi (by omega) (by omega)), (vi (by omega) (by omega)), fun t' et y ey => ?_⟩⟩
                rw [ey, i1]
                subst et
                refine ih _ (fun b hb => ?_)
                by_cases r : b = a
                · subst r
                  rw [us, ← g5 (i + b) (by omega)]
                  congr 1; omega
                · rw [un r]; exact ht b (by omega)
    · (repeat (with_reducible (first | refine tA ?_ | refine tB ?_ | refine tC ?_ | refine tD ?_ | refine w6_one_in (by assumption) (by assumption) ?_ | refine w6_one_out (by assumption) (by assumption) ?_ | refine w7_one_in (by assumption) (by assumption) (by assumption) ?_ | refine w7_one_out (by assumption) (by assumption) (by assumption) ?_ | refine w6_two_in (by assumption) (by assumption) (by assumption) (by assumption) ?_ | refine w6_two_out (by assumption) (by assumption) ?_ | refine w7_two_in (by assumption) (by assumption) (by assumption) (by assumption) (by assumption) ?_ | refine w7_two_out (by assumption) (by assumption) (by assumption) ?_ | refine w6_sort_in (by assumption) ?_ | refine w6_sort_out (by assumption) ?_ | refine w7_sort_in (by assumption) ?_ | refine w7_sort_out (by assumption) ?_ | refine w6_km_in (by assumption) ?_ | refine w6_km_out (by assumption) ?_ | refine w7_kind_in (by assumption) ?_ | refine w7_kind_out (by assumption) ?_ | refine w6_sheet_in (by assumption) ?_ | refine w6_sheet_out (by assumption) ?_ | refine w7_sheet_in (by assumption) ?_ | refine w7_sheet_out (by assumption) ?_ | refine w6_e1 ?_ | refine w6_e2 ?_ | refine w6_e3 ?_ | refine w6_e4 ?_ | refine w6_e5 ?_ | refine w6_e6 ?_ | refine w7_e1 ?_ | refine w7_e2 ?_ | refine w7_e3 ?_ | refine w7_e4 ?_ | refine w7_e5 ?_ | refine w7_e6 ?_)))
      unfold wp_X7_move
      exact w7_sheet_in hk (tD (w7_sheet_out ho3 (tA (w7_e1 (hC _ _ _ _ _ hs)))))
  · (repeat (with_reducible (first | refine tA ?_ | refine tB ?_ | refine tC ?_ | refine tD ?_ | refine w6_one_in (by assumption) (by assumption) ?_ | refine w6_one_out (by assumption) (by assumption) ?_ | refine w7_one_in (by assumption) (by assumption) (by assumption) ?_ | refine w7_one_out (by assumption) (by assumption) (by assumption) ?_ | refine w6_two_in (by assumption) (by assumption) (by assumption) (by assumption) ?_ | refine w6_two_out (by assumption) (by assumption) ?_ | refine w7_two_in (by assumption) (by assumption) (by assumption) (by assumption) (by assumption) ?_ | refine w7_two_out (by assumption) (by assumption) (by assumption) ?_ | refine w6_sort_in (by assumption) ?_ | refine w6_sort_out (by assumption) ?_ | refine w7_sort_in (by assumption) ?_ | refine w7_sort_out (by assumption) ?_ | refine w6_km_in (by assumption) ?_ | refine w6_km_out (by assumption) ?_ | refine w7_kind_in (by assumption) ?_ | refine w7_kind_out (by assumption) ?_ | refine w6_sheet_in (by assumption) ?_ | refine w6_sheet_out (by assumption) ?_ | refine w7_sheet_in (by assumption) ?_ | refine w7_sheet_out (by assumption) ?_ | refine w6_e1 ?_ | refine w6_e2 ?_ | refine w6_e3 ?_ | refine w6_e4 ?_ | refine w6_e5 ?_ | refine w6_e6 ?_ | refine w7_e1 ?_ | refine w7_e2 ?_ | refine w7_e3 ?_ | refine w7_e4 ?_ | refine w7_e5 ?_ | refine w7_e6 ?_)))
    unfold wp_X7_move
    exact w7_sheet_out ho (tB (w7_e1 (hC _ _ _ _ _ hs)))
/-- the relation looks at these places alone -/
theorem WR.ext (h : WR P Y B w z km fa mo fr sp ow tp tn tq wt s) {km' fa' mo' fr' sp' ow' tp' tn' : V} {tq' : Nat → V} {wt' s' : V} (ek : ∀ i, i < 8 → km' i = km i) (ef : ∀ i, i < 8 → fa' i = fa i) (em : ∀ i, i < 8 → mo' i = mo i) (er : ∀ i, i < 8 → fr' i = fr i) (es : ∀ i, i < 40 → sp' i = sp i) (eo : ∀ i, i < 64 → ow' i = ow i) (et : ∀ i, i < 60 → tp' i = tp i) (en : tn' 0 = tn 0 ∧ tn' 1 = tn 1) (eq : ∀ i, i < 60 → tq' 0 i = tq 0 i ∧ tq' 1 i = tq 1 i) (ew : ∀ i, i < 24 → wt' i = wt i) (ee : ∀ i, i < 476 → s' i = s i) : WR P Y B w z km' fa' mo' fr' sp' ow' tp' tn' tq' wt' s' := by
  obtain ⟨⟨a1, a2, a3, a4⟩, ⟨b1, b2, b3, b4, b5⟩, c1, c2, c3, c4, c5, c6, c7, c8, c9⟩ := h
  have dpc : ∀ (q q' : V) (N : Nat), N ≤ 60 → (∀ i, i < 60 → q' i = q i) → WF q N → WF q' N := by
    intro q q' N hN hq hw
    have dd : ∀ i, i ≤ N → dp q' i = dp q i := by
      intro i
      induction i with
      | zero => intro _; rfl
      | succ i ih => intro hi; rw [dp, dp, ih (by omega), hq i (by omega)]
    refine ⟨fun i hi k => ?_, fun k => ?_⟩
    · rw [hq i (by omega)] at k ⊢
      rw [dd i (by omega)]
      exact hw.1 i hi k
    · rw [dd N (Nat.le_refl N)]; exact hw.2 k
  have rx : ∀ u, u < 2 → ∀ (n n' : Int32) (q q' : V), n' = n → (∀ i, i < 60 → q' i = q i) → Rx u n q s → Rx u n' q' s' := by
    intro u hu n n' q q' hn hq hx
    obtain ⟨N, h1, h2, h3, h4, h5⟩ := hx
    exact ⟨N, h1, hn.trans h2, by rw [ee _ (by omega)]; exact h3, fun i hi => by rw [hq i (by omega), ee _ (by omega), ee _ (by omega)]; exact h4 i hi, dpc q q' N h1 hq h5⟩
  refine ⟨⟨a1, a2, a3, a4⟩, ⟨by rw [ee _ (by omega)]; exact b1, by rw [ee _ (by omega)]; exact b2, by rw [ee _ (by omega)]; exact b3, by rw [ee _ (by omega)]; exact b4, by rw [ee _ (by omega)]; exact b5⟩, fun p hp => ?_, fun p hp => ?_, fun p h1 h2 => ?_, fun p k hp hk => ?_, fun a b ha hb => ?_, fun i hi => ?_, fun i hi => ?_, rx 0 (by omega) _ _ _ _ en.1 (fun i hi => (eq i hi).1) c8, rx 1 (by omega) _ _ _ _ en.2 (fun i hi => (eq i hi).2) c9⟩
  · obtain ⟨K, m, h1, h2, h3, h4, h5⟩ := c1 p hp
    exact ⟨K, m, h1, h2, by rw [ek p (by omega)]; exact h3, by rw [ee _ (by omega)]; exact h4, by rw [ee _ (by omega)]; exact h5⟩
  · rcases c2 p hp with ⟨g1, g2, g3, g4, g5⟩ | ⟨f, m, g1, g2, g3, g4, g5, g6, g7, g8⟩
    · exact Or.inl ⟨by rw [ef p (by omega)]; exact g1, by rw [em p (by omega)]; exact g2, by rw [ee _ (by omega)]; exact g3, by rw [ee _ (by omega)]; exact g4, by rw [er p (by omega)]; exact g5⟩
    · exact Or.inr ⟨f, m, g1, g2, g3, by rw [ef p (by omega)]; exact g4, by rw [em p (by omega)]; exact g5, by rw [ee _ (by omega)]; exact g6, by rw [ee _ (by omega)]; exact g7, by rw [er p (by omega), er f (by omega), er m (by omega)]; exact g8⟩
  · obtain ⟨g1, g2, g3⟩ := c3 p h1 h2
    exact ⟨by rw [er p (by omega)]; exact g1, fun k hk => by rw [es _ (by omega)]; exact g2 k hk, fun o ho => ⟨by rw [eo _ (by omega)]; exact (g3 o ho).1, by rw [eo _ (by omega)]; exact (g3 o ho).2⟩⟩
  · rw [es _ (by omega), ee _ (by omega)]; exact c4 p k hp hk
  · rw [eo _ (by omega), ee _ (by omega)]; exact c5 a b ha hb
  · rw [et i hi, ee _ (by omega)]; exact c6 i hi
  · rw [ew i hi, ee _ (by omega)]; exact c7 i hi
theorem w7_copyAll {f g : V} {Q : V → Prop} (h : ∀ g', (∀ i, i < 476 → g' i = f i) → Q g') : wp_X7_copyAll f g Q := by
  unfold wp_X7_copyAll
  refine loop_0 (fun n i (t : V) => wp_X7_copyAll_b2 Q f n (nI i) t) (fun i t => ∀ k, k < i → t k = f k) 476 g (fun k hk => absurd hk (Nat.not_lt_zero k)) ?_ ?_
  · intro n t it
    unfold wp_X7_copyAll_b2
    exact ⟨fun _ => h t it, fun c => absurd (show (476 : Int32) ≤ nI 476 by decide) c⟩
  · intro n i t hi it ih
    unfold wp_X7_copyAll_b2
    refine ⟨fun c => absurd c (nle (a := 476) hi (by omega)), fun _ => ⟨(vi (by omega) (by omega)), (vi (by omega) (by omega)), fun t1 e1 y ey => ?_⟩⟩
    rw [ey, i1]
    rw [cl (by omega)] at e1
    refine ih _ (fun k hk => ?_)
    subst e1
    by_cases g : k = i
    · subst g; exact us
    · rw [un g]; exact it k (by omega)
theorem cpy0 {f g : V} {n i : Nat} (h : i < n) : va_cpy f g 0 0 n i = f i := by
  have := pk_cpy_in (f := f) (g := g) (sp := 0) (dp := 0) (n := n) (j := i) (by omega) (by omega)
  rw [show 0 + (i - 0) = i by omega] at this
  exact this
theorem w5_copy (h : WR P Y B w z km fa mo fr sp ow tp tn tq wt s) {s' : V} (hs' : ∀ i, i < 476 → s' i = s i) {o1 o2 o3 o4 o5 : Int32} {ok of' om ofr os oo ot on' : V} {oq : Nat → V} {ow' : V} {Q : Int32 → Int32 → Int32 → Int32 → Int32 → V → V → V → V → V → V → V → V → (Nat → V) → V → Prop} (hQ : ∀ km' fa' mo' fr' sp' ow'' tp' tn' tq' wt', WR P Y B w z km' fa' mo' fr' sp' ow'' tp' tn' tq' wt' s' → Q (nI P) (nI Y) z (nI B) (nI w) km' fa' mo' fr' sp' ow'' tp' tn' tq' wt') : wp_X5_copyFrom o1 o2 o3 o4 o5 ok of' om ofr os oo ot on' oq ow' (nI P) (nI Y) z (nI B) (nI w) km fa mo fr sp ow tp tn tq wt Q := by
  unfold wp_X5_copyFrom wp_X3_copyFrom
  intro v1 e1 v2 e2 v3 e3 v4 e4 v5 e5 v6 e6 v7 e7 p1 ep1 n1 en1 q1 eq1 p2 ep2 n2 en2 q2 eq2 v8 e8
  subst en2; subst eq2; subst en1; subst eq1
  refine hQ _ _ _ _ _ _ _ _ _ _ (h.ext (fun i hi => by rw [e1]; exact cpy0 hi) (fun i hi => by rw [e2]; exact cpy0 hi) (fun i hi => by rw [e3]; exact cpy0 hi) (fun i hi => by rw [e4]; exact cpy0 hi) (fun i hi => by rw [e5]; exact cpy0 hi) (fun i hi => by rw [e6]; exact cpy0 hi) (fun i hi => by rw [e7]; exact cpy0 hi) ⟨by rw [vup_n (by omega), vup_s], by rw [vup_s]⟩ (fun i hi => ⟨by rw [vup_n (by omega), vup_s, ep1]; exact cpy0 hi, by rw [vup_s, ep2]; exact cpy0 hi⟩) (fun i hi => by rw [e8]; exact cpy0 hi) hs')
theorem op_image (h : WR P Y B w z km fa mo fr sp ow tp tn tq wt s) (im : Int32) {o1 o2 o3 o4 o5 : Int32} {ok of' om ofr os oo ot on' : V} {oq : Nat → V} {ow' mk : V} (C : Int32 → Int32 → Int32 → Int32 → Int32 → Int32 → Int32 → V → V → V → V → V → V → V → V → (Nat → V) → V → Int32 → Int32 → V → Prop) (hC : ∀ r im' km' fa' mo' fr' sp' ow'' tp' tn' tq' wt' mk', WR P Y B w z km' fa' mo' fr' sp' ow'' tp' tn' tq' wt' mk' → C r im' (nI P) (nI Y) z (nI B) (nI w) km' fa' mo' fr' sp' ow'' tp' tn' tq' wt' r im' mk') : wp_X6_image im (nI P) (nI Y) z (nI B) (nI w) km fa mo fr sp ow tp tn tq wt o1 o2 o3 o4 o5 ok of' om ofr os oo ot on' oq ow' (fun r im' k1 k2 k3 k4 k5 k6 k7 k8 k9 k10 k11 k12 k13 k14 k15 => wp_X7_image im s mk (fun r' im'' mk' => C r im' k1 k2 k3 k4 k5 k6 k7 k8 k9 k10 k11 k12 k13 k14 k15 r' im'' mk')) := by
  unfold wp_X6_image wp_X7_image
  refine w5_copy h (s' := s) (fun i _ => rfl) (fun km' fa' mo' fr' sp' ow'' tp' tn' tq' wt' hw => fun y ey => ?_)
  refine w7_copyAll (fun mk' hk => fun y2 ey2 => ?_)
  rw [ey2, ey]
  exact hC _ _ _ _ _ _ _ _ _ _ _ _ _ (hw.ext (fun i _ => rfl) (fun i _ => rfl) (fun i _ => rfl) (fun i _ => rfl) (fun i _ => rfl) (fun i _ => rfl) (fun i _ => rfl) ⟨rfl, rfl⟩ (fun i _ => ⟨rfl, rfl⟩) (fun i _ => rfl) hk)
theorem op_restore (h : WR P Y B w z km fa mo fr sp ow tp tn tq wt s) (im : Int32) {k1 k2 k3 k4 k5 : Int32} {kk kf km' kr ks ko kt kn : V} {kq : Nat → V} {kw mk : V} (hk : im = 0 ∨ ∃ P' Y' B' w' : Nat, k1 = nI P' ∧ k2 = nI Y' ∧ k4 = nI B' ∧ k5 = nI w' ∧ WR P' Y' B' w' k3 kk kf km' kr ks ko kt kn kq kw mk) (C : Int32 → Int32 → Int32 → Int32 → Int32 → Int32 → V → V → V → V → V → V → V → V → (Nat → V) → V → V → Int32 → V → V → Prop) (hC : ∀ r P Y B w z km fa mo fr sp ow tp tn tq wt e' s', WR P Y B w z km fa mo fr sp ow tp tn tq wt s' → C r (nI P) (nI Y) z (nI B) (nI w) km fa mo fr sp ow tp tn tq wt e' r s' e') : wp_X6_restore im (nI P) (nI Y) z (nI B) (nI w) km fa mo fr sp ow tp tn tq wt k1 k2 k3 k4 k5 kk kf km' kr ks ko kt kn kq kw e (fun r a1 a2 a3 a4 a5 a6 a7 a8 a9 a10 a11 a12 a13 a14 a15 e' => wp_X7_restore im s mk e (fun r' s' e'' => C r a1 a2 a3 a4 a5 a6 a7 a8 a9 a10 a11 a12 a13 a14 a15 e' r' s' e'')) := by
  unfold wp_X6_restore wp_X7_restore
  refine ⟨fun c => ?_, fun c => w6_e2 ⟨fun q => absurd c q, fun _ => w7_e2 (hC _ _ _ _ _ _ _ _ _ _ _ _ _ _ _ _ _ _ h)⟩⟩
  rcases hk with hk | ⟨P', Y', B', w', rfl, rfl, rfl, rfl, hk⟩
  · exact absurd hk c
  · refine w5_copy hk (s' := mk) (fun i _ => rfl) (fun km' fa' mo' fr' sp' ow'' tp' tn' tq' wt' hw => ⟨fun _ => w7_copyAll (fun s' hs' => ⟨vi (n := 0) (by omega) (by omega), ?_⟩), fun q => absurd q c⟩)
    have hw' := hw.ext (s' := s') (fun i _ => rfl) (fun i _ => rfl) (fun i _ => rfl) (fun i _ => rfl) (fun i _ => rfl) (fun i _ => rfl) (fun i _ => rfl) ⟨rfl, rfl⟩ (fun i _ => ⟨rfl, rfl⟩) (fun i _ => rfl) hs'
    rw [show ((0 : Int32).toNatClampNeg) = 0 from rfl, hw'.2.1.2.1]
    exact hC _ _ _ _ _ _ _ _ _ _ _ _ _ _ _ _ _ _ hw'
end OPS
