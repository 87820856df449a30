/-! sums, bounds, small methods -/
def sm (g : Nat → Int32) : Nat → Int32
  | 0 => 0
  | n + 1 => sm g n + g n
theorem sm_congr {g h : Nat → Int32} : ∀ n, (∀ k, k < n → g k = h k) → sm g n = sm h n
  | 0, _ => rfl
  | n + 1, e => by rw [sm, sm, sm_congr n (fun k hk => e k (by omega)), e n (by omega)]
def Bd (n : Nat) (x : Int32) : Prop := ∃ v : Nat, v ≤ n ∧ x = nI v
theorem i1 (i : Nat) : nI i + (1 : Int32) = nI (i + 1) := nI_1 i
theorem nle {a b : Nat} (h : b < a) (ha : a < 2147483648) : ¬ nI a ≤ nI b := by rw [le_n ha (by omega)]; omega
theorem nlt {a b : Nat} (h : b ≤ a) (ha : a < 2147483648) : ¬ nI a < nI b := by rw [lt_n ha (by omega)]; omega
/-- held within, as a number -/
def hd (v lo hi : Int32) : Int32 := if v < lo then lo else if hi < v then hi else v
theorem w6_held {v : Int32} {lo hi : Int32} (hlh : lo.toInt ≤ hi.toInt) {Q : Int32 → Prop} (h : Q (hd v lo hi)) : wp_X6_held v lo hi Q := by
  unfold wp_X6_held
  have e : (if lo < (if v < hi then v else hi) then (if v < hi then v else hi) else lo) = hd v lo hi := by
    unfold hd
    by_cases c1 : v < hi
    · rw [if_pos c1]
      by_cases c2 : lo < v
      · rw [if_pos c2, if_neg, if_neg]
        · rw [il] at c1 ⊢; omega
        · rw [il] at c2 ⊢; omega
      · rw [if_neg c2]
        by_cases c3 : v < lo
        · rw [if_pos c3]
        · rw [if_neg c3, if_neg]
          · rw [iq]; rw [il] at c2 c3; omega
          · rw [il] at c1 ⊢; omega
    · rw [if_neg c1]
      by_cases c2 : lo < hi
      · rw [if_pos c2, if_neg]
        · by_cases c3 : hi < v
          · rw [if_pos c3]
          · rw [if_neg c3, iq]; rw [il] at c1 c3; omega
        · rw [il] at c1 c2 ⊢; omega
      · rw [if_neg c2]
        by_cases c3 : v < lo
        · rw [if_pos c3]
        · rw [if_neg c3]
          by_cases c4 : hi < v
          · rw [if_pos c4, iq]; rw [il] at c2; omega
          · rw [if_neg c4, iq]; rw [il] at c1 c2 c3 c4; omega
  rw [e]; exact h
theorem w7_held {v lo hi : Int32} (hlh : lo.toInt ≤ hi.toInt) {Q : Int32 → Prop} (h : Q (hd v lo hi)) : wp_X7_held v lo hi Q := by
  unfold wp_X7_held
  unfold hd at h
  refine ⟨fun c => ⟨fun c2 => ?_, fun c2 => ?_⟩, fun c => ?_⟩
  · rw [if_neg, if_neg] at h
    · exact h
    · rw [il]; rw [ie] at c2; omega
    · rw [il]; rw [ie] at c; omega
  · rw [if_neg, if_pos] at h
    · exact h
    · rw [il]; rw [ie] at c2; omega
    · rw [il]; rw [ie] at c; omega
  · rw [if_pos] at h
    · exact h
    · rw [il]; rw [ie] at c; omega
theorem hd_bd {v : Int32} {hi : Nat} (hh : hi < 2147483648) : Bd hi (hd v (nI 0) (nI hi)) := by
  unfold hd
  by_cases c : v < nI 0
  · rw [if_pos c]; exact ⟨0, by omega, rfl⟩
  · rw [if_neg c]
    by_cases c2 : nI hi < v
    · rw [if_pos c2]; exact ⟨hi, by omega, rfl⟩
    · rw [if_neg c2]
      obtain ⟨j, hj, rfl⟩ := nI_of (x := v) c
      rw [lt_n (by omega) (by omega)] at c2
      exact ⟨j, by omega, rfl⟩
theorem hd_in {v hi : Nat} (h : v ≤ hi) (hh : hi < 2147483648) : hd (nI v) (nI 0) (nI hi) = nI v := by
  unfold hd
  rw [if_neg (nlt (by omega) (by omega)), if_neg (nlt (by omega) (by omega))]
theorem w6_together {p : Nat} (hp : p < 8) {f : Nat → Int32} {Q : Int32 → Prop} (h : Q (sm (fun k => f (5 * p + k)) 5)) : wp_X6_together (nI p) f Q := by
  unfold wp_X6_together
  refine loop_0 (fun n i (acc : Int32) => wp_X6_together_b4 Q f n (nI p) acc (nI i)) (fun i acc => acc = sm (fun k => f (5 * p + k)) i) 5 0 rfl ?_ ?_
  · intro n acc e
    unfold wp_X6_together_b4
    exact ⟨fun _ => by rw [e]; exact h, fun c => absurd (show (5 : Int32) ≤ nI 5 by decide) c⟩
  · intro n i acc hi e ih
    unfold wp_X6_together_b4
    refine ⟨fun c => absurd c (nle (a := 5) hi (by omega)), fun _ => w6_cell ⟨vi (by omega) (by omega), fun x ex y ey => ?_⟩⟩
    rw [ey, i1]
    refine ih _ ?_
    rw [ex, e, cl (by omega)]
    rfl
theorem w7_heap {p : Nat} (hp : p < 8) {s : Nat → Int32} {Q : Int32 → Prop} (h : Q (sm (fun k => s (38 + 5 * p + k)) 5)) : wp_X7_heap (nI p) s Q := by
  unfold wp_X7_heap
  refine loop_0 (fun n i (acc : Int32) => wp_X7_heap_b4 Q s n (nI p) acc (nI i)) (fun i acc => acc = sm (fun k => s (38 + 5 * p + k)) i) 5 0 rfl ?_ ?_
  · intro n acc e
    unfold wp_X7_heap_b4
    exact ⟨fun _ => by rw [e]; exact h, fun c => absurd (show (5 : Int32) ≤ nI 5 by decide) c⟩
  · intro n i acc hi e ih
    unfold wp_X7_heap_b4
    refine ⟨fun c => absurd c (nle (a := 5) hi (by omega)), fun _ => w7_has hp hi (fun x ex y ey => ?_)⟩
    rw [ey, i1]
    refine ih _ ?_
    rw [ex, e]
    rfl
theorem dv {a b : Nat} (ha : a < 2147483648) (h0 : 0 < b) (hb : b < 2147483648) : nI a / nI b = nI (a / b) := pk_div ha h0 hb
theorem rm_n {a b : Nat} (ha : a < 2147483648) (h0 : 0 < b) (hb : b < 2147483648) : nI a - nI a / nI b * nI b = nI (a % b) := pk_rem ha h0 hb
theorem w5_kindOf {p : Nat} (hp : p < 8) {km : Nat → Int32} {K m : Nat} (hm : m < 10) (hK : K < 7) (e : km p = nI (10 * K + m)) {Q : Int32 → Prop} (h : Q (nI K)) : wp_X5_kindOf (nI p) km Q := by
  unfold wp_X5_kindOf
  rw [cl (by omega), e, show (10 : Int32) = nI 10 from rfl, dv (by omega) (by omega) (by omega), show (10 * K + m) / 10 = K by omega]
  exact ⟨vi hp (by omega), h⟩
theorem w5_numberOf {p : Nat} (hp : p < 8) {km : Nat → Int32} {K m : Nat} (hm : m < 10) (hK : K < 7) (e : km p = nI (10 * K + m)) {Q : Int32 → Prop} (h : Q (nI m)) : wp_X5_numberOf (nI p) km Q := by
  unfold wp_X5_numberOf
  rw [cl (by omega), e, show (10 : Int32) = nI 10 from rfl, rm_n (by omega) (by omega) (by omega), show (10 * K + m) % 10 = m by omega]
  exact ⟨vi hp (by omega), h⟩
theorem w5_poured {a b k : Nat} (ha : a < 8) (hb : b < 8) (hk : k < 5) {f : Nat → Int32} {Q : Int32 → Prop} (h : Q ((f (5 * a + k) + f (5 * b + k)) / 2)) : wp_X5_poured (nI a) (nI b) (nI k) f Q := by
  unfold wp_X5_poured
  refine w6_cell ⟨vi (by omega) (by omega), w6_cell ⟨vi (by omega) (by omega), ?_⟩⟩
  rw [cl (by omega), cl (by omega)]
  exact h
theorem w5_pouredTogether {a b : Nat} (ha : a < 8) (hb : b < 8) {f : Nat → Int32} {Q : Int32 → Prop} (h : Q (sm (fun k => (f (5 * a + k) + f (5 * b + k)) / 2) 5)) : wp_X5_pouredTogether (nI a) (nI b) f Q := by
  unfold wp_X5_pouredTogether
  refine loop_0 (fun n i (acc : Int32) => wp_X5_pouredTogether_b5 Q f n (nI a) (nI b) acc (nI i)) (fun i acc => acc = sm (fun k => (f (5 * a + k) + f (5 * b + k)) / 2) i) 5 0 rfl ?_ ?_
  · intro n acc e
    unfold wp_X5_pouredTogether_b5
    exact ⟨fun _ => by rw [e]; exact h, fun c => absurd (show (5 : Int32) ≤ nI 5 by decide) c⟩
  · intro n i acc hi e ih
    unfold wp_X5_pouredTogether_b5
    refine ⟨fun c => absurd c (nle (a := 5) hi (by omega)), fun _ => w5_poured ha hb hi (fun x ex y ey => ?_)⟩
    rw [ey, i1]
    refine ih _ ?_
    rw [ex, e]
    rfl
theorem w7_pouredHeap {a b : Nat} (ha : a < 8) (hb : b < 8) {s : Nat → Int32} {Q : Int32 → Prop} (h : Q (sm (fun k => (s (38 + 5 * a + k) + s (38 + 5 * b + k)) / 2) 5)) : wp_X7_pouredHeap (nI a) (nI b) s Q := by
  unfold wp_X7_pouredHeap
  refine loop_0 (fun n i (acc : Int32) => wp_X7_pouredHeap_b5 Q s n (nI a) (nI b) acc (nI i)) (fun i acc => acc = sm (fun k => (s (38 + 5 * a + k) + s (38 + 5 * b + k)) / 2) i) 5 0 rfl ?_ ?_
  · intro n acc e
    unfold wp_X7_pouredHeap_b5
    exact ⟨fun _ => by rw [e]; exact h, fun c => absurd (show (5 : Int32) ≤ nI 5 by decide) c⟩
  · intro n i acc hi e ih
    unfold wp_X7_pouredHeap_b5
    refine ⟨fun c => absurd c (nle (a := 5) hi (by omega)), fun _ => w7_has ha hi (w7_has hb hi (fun x ex y ey => ?_))⟩
    rw [ey, i1]
    refine ih _ ?_
    rw [ex, e]
    rfl
theorem w5_withForebears {p : Nat} (hp : p < 8) {fr : Nat → Int32} {Q : Int32 → Prop} (h : Q (fr p ||| ((1 : Int32) <<< (nI p &&& 31)))) : wp_X5_withForebears (nI p) fr Q := by
  unfold wp_X5_withForebears
  rw [cl (by omega)]
  exact ⟨vi hp (by omega), h⟩
/-- what others owe one, less what one owes others, up to n -/
def bal (ow : Nat → Int32) (p n : Nat) : Int32 := sm (fun o => ow (8 * o + p) - ow (8 * p + o)) n
theorem w5_balanceOf {p P : Nat} (hp : p < P) (hP : P ≤ 8) {ow : Nat → Int32} {Q : Int32 → Prop} (h : Q (bal ow p P)) : wp_X5_balanceOf (nI p) (nI P) ow Q := by
  unfold wp_X5_balanceOf
  refine loop_0 (fun n i (acc : Int32) => wp_X5_balanceOf_b4 Q (nI P) ow n (nI p) acc (nI i)) (fun i acc => acc = bal ow p i) P 0 rfl ?_ ?_
  · intro n acc e
    unfold wp_X5_balanceOf_b4
    refine ⟨fun _ => by rw [e]; exact h, fun c => absurd ?_ c⟩
    rw [le_n (by omega) (by omega)]
    omega
  · intro n i acc hi e ih
    unfold wp_X5_balanceOf_b4
    refine ⟨fun c => absurd c (nle hi (by omega)), fun _ => w6_pair ⟨vi (by omega) (by omega), w6_pair ⟨vi (by omega) (by omega), fun x ex y ey => ?_⟩⟩⟩
    rw [ey, i1]
    refine ih _ ?_
    rw [ex, e, cl (by omega), cl (by omega)]
    rfl
theorem w7_balance {p P : Nat} (hp : p < P) (hP : P ≤ 8) {s : Nat → Int32} (hs : s 4 = nI P) {Q : Int32 → Prop} (h : Q (bal (fun i => s (78 + i)) p P)) : wp_X7_balance (nI p) s Q := by
  unfold wp_X7_balance
  refine loop_0 (fun n i (acc : Int32) => wp_X7_balance_b4 Q s n (nI p) acc (nI i)) (fun i acc => acc = bal (fun i => s (78 + i)) p i) P 0 rfl ?_ ?_
  · intro n acc e
    unfold wp_X7_balance_b4
    refine ⟨vi (n := 4) (by omega) (by omega), ?_⟩
    rw [show ((4 : Int32).toNatClampNeg) = 4 from rfl, hs]
    refine ⟨fun _ => by rw [e]; exact h, fun c => absurd ?_ c⟩
    rw [le_n (by omega) (by omega)]
    omega
  · intro n i acc hi e ih
    unfold wp_X7_balance_b4
    refine ⟨vi (n := 4) (by omega) (by omega), ?_⟩
    rw [show ((4 : Int32).toNatClampNeg) = 4 from rfl, hs]
    refine ⟨fun c => absurd c (nle hi (by omega)), fun _ => w7_owed (by omega) (by omega) (w7_owed (by omega) (by omega) (fun x ex y ey => ?_))⟩
    rw [ey, i1]
    refine ih _ ?_
    rw [ex, e]
    show _ = sm _ (i + 1)
    rw [sm]
    simp only [bal, Nat.add_assoc]
theorem bal_congr {f g : Nat → Int32} {P p : Nat} (hp : p < P) (e : ∀ a b, a < P → b < P → f (8 * a + b) = g (8 * a + b)) : ∀ n, n ≤ P → bal f p n = bal g p n := fun n hn => sm_congr n (fun k hk => by rw [e k p (by omega) hp, e p k hp (by omega)])
