/-! what a text gives: one reckoning for both sides -/
theorem dm1 (x : Int32) : x / (-1) = -x := by
  rw [iq, Int32.toInt_div, show ((-1 : Int32).toInt) = -1 from rfl, Int.tdiv_neg, Int.tdiv_one, Int32.toInt_neg]
theorem rm1 (x : Int32) : x - x / (-1) * (-1) = 0 := by
  rw [dm1, Int32.neg_mul_neg, Int32.mul_one, Int32.sub_self]
def jn (c : Nat) (x y : Int32) : Int32 := if c = 37 then (if y = 0 then 0 else x - x / y * y) else if c = 38 then (if x = 0 then 0 else if y = 0 then 0 else 1) else if c = 42 then x * y else if c = 43 then x + y else if c = 45 then x - y else if c = 47 then (if y = 0 then 0 else x / y) else if c = 60 then (if y ≤ x then 0 else 1) else if c = 61 then (if x = y then 1 else 0) else if c = 62 then (if x ≤ y then 0 else 1) else (if x = 0 then (if y = 0 then 0 else 1) else 1)
theorem w3_jn37 {x y : Int32} {Q : Int32 → Prop} (h : Q (if y = 0 then 0 else x - x / y * y)) : wp_X3_joined (nI 37) x y Q := by
  unfold wp_X3_joined
  exact ⟨fun _ => ⟨fun n => ⟨n, (by rw [if_neg n] at h; exact h)⟩, fun z => (by rw [if_pos z] at h; exact h)⟩, fun k => absurd k (by decide), fun k => absurd k (by decide), fun k => absurd k (by decide), fun k => absurd k (by decide), fun k => absurd k (by decide), fun k => absurd k (by decide), fun k => absurd k (by decide), fun k => absurd k (by decide), fun k => absurd k (by decide), fun k37 k38 k42 k43 k45 k47 k60 k61 k62 k124 => absurd rfl k37⟩
theorem w3_jn38 {x y : Int32} {Q : Int32 → Prop} (h : Q (if x = 0 then 0 else if y = 0 then 0 else 1)) : wp_X3_joined (nI 38) x y Q := by
  unfold wp_X3_joined
  exact ⟨fun k => absurd k (by decide), fun _ => ⟨fun z => (by rw [if_pos z] at h; exact h), fun n => ⟨fun z2 => (by rw [if_neg n, if_pos z2] at h; exact h), fun n2 => (by rw [if_neg n, if_neg n2] at h; exact h)⟩⟩, fun k => absurd k (by decide), fun k => absurd k (by decide), fun k => absurd k (by decide), fun k => absurd k (by decide), fun k => absurd k (by decide), fun k => absurd k (by decide), fun k => absurd k (by decide), fun k => absurd k (by decide), fun k37 k38 k42 k43 k45 k47 k60 k61 k62 k124 => absurd rfl k38⟩
theorem w3_jn42 {x y : Int32} {Q : Int32 → Prop} (h : Q (x * y)) : wp_X3_joined (nI 42) x y Q := by
  unfold wp_X3_joined
  exact ⟨fun k => absurd k (by decide), fun k => absurd k (by decide), fun _ => h, fun k => absurd k (by decide), fun k => absurd k (by decide), fun k => absurd k (by decide), fun k => absurd k (by decide), fun k => absurd k (by decide), fun k => absurd k (by decide), fun k => absurd k (by decide), fun k37 k38 k42 k43 k45 k47 k60 k61 k62 k124 => absurd rfl k42⟩
theorem w3_jn43 {x y : Int32} {Q : Int32 → Prop} (h : Q (x + y)) : wp_X3_joined (nI 43) x y Q := by
  unfold wp_X3_joined
  exact ⟨fun k => absurd k (by decide), fun k => absurd k (by decide), fun k => absurd k (by decide), fun _ => h, fun k => absurd k (by decide), fun k => absurd k (by decide), fun k => absurd k (by decide), fun k => absurd k (by decide), fun k => absurd k (by decide), fun k => absurd k (by decide), fun k37 k38 k42 k43 k45 k47 k60 k61 k62 k124 => absurd rfl k43⟩
theorem w3_jn45 {x y : Int32} {Q : Int32 → Prop} (h : Q (x - y)) : wp_X3_joined (nI 45) x y Q := by
  unfold wp_X3_joined
  exact ⟨fun k => absurd k (by decide), fun k => absurd k (by decide), fun k => absurd k (by decide), fun k => absurd k (by decide), fun _ => h, fun k => absurd k (by decide), fun k => absurd k (by decide), fun k => absurd k (by decide), fun k => absurd k (by decide), fun k => absurd k (by decide), fun k37 k38 k42 k43 k45 k47 k60 k61 k62 k124 => absurd rfl k45⟩
theorem w3_jn47 {x y : Int32} {Q : Int32 → Prop} (h : Q (if y = 0 then 0 else x / y)) : wp_X3_joined (nI 47) x y Q := by
  unfold wp_X3_joined
  exact ⟨fun k => absurd k (by decide), fun k => absurd k (by decide), fun k => absurd k (by decide), fun k => absurd k (by decide), fun k => absurd k (by decide), fun _ => ⟨fun n => ⟨n, (by rw [if_neg n] at h; exact h)⟩, fun z => (by rw [if_pos z] at h; exact h)⟩, fun k => absurd k (by decide), fun k => absurd k (by decide), fun k => absurd k (by decide), fun k => absurd k (by decide), fun k37 k38 k42 k43 k45 k47 k60 k61 k62 k124 => absurd rfl k47⟩
theorem w3_jn60 {x y : Int32} {Q : Int32 → Prop} (h : Q (if y ≤ x then 0 else 1)) : wp_X3_joined (nI 60) x y Q := by
  unfold wp_X3_joined
  exact ⟨fun k => absurd k (by decide), fun k => absurd k (by decide), fun k => absurd k (by decide), fun k => absurd k (by decide), fun k => absurd k (by decide), fun k => absurd k (by decide), fun _ => ⟨fun z => (by rw [if_pos z] at h; exact h), fun n => (by rw [if_neg n] at h; exact h)⟩, fun k => absurd k (by decide), fun k => absurd k (by decide), fun k => absurd k (by decide), fun k37 k38 k42 k43 k45 k47 k60 k61 k62 k124 => absurd rfl k60⟩
theorem w3_jn61 {x y : Int32} {Q : Int32 → Prop} (h : Q (if x = y then 1 else 0)) : wp_X3_joined (nI 61) x y Q := by
  unfold wp_X3_joined
  exact ⟨fun k => absurd k (by decide), fun k => absurd k (by decide), fun k => absurd k (by decide), fun k => absurd k (by decide), fun k => absurd k (by decide), fun k => absurd k (by decide), fun k => absurd k (by decide), fun _ => ⟨fun n => (by rw [if_neg n] at h; exact h), fun z => (by rw [if_pos z] at h; exact h)⟩, fun k => absurd k (by decide), fun k => absurd k (by decide), fun k37 k38 k42 k43 k45 k47 k60 k61 k62 k124 => absurd rfl k61⟩
theorem w3_jn62 {x y : Int32} {Q : Int32 → Prop} (h : Q (if x ≤ y then 0 else 1)) : wp_X3_joined (nI 62) x y Q := by
  unfold wp_X3_joined
  exact ⟨fun k => absurd k (by decide), fun k => absurd k (by decide), fun k => absurd k (by decide), fun k => absurd k (by decide), fun k => absurd k (by decide), fun k => absurd k (by decide), fun k => absurd k (by decide), fun k => absurd k (by decide), fun _ => ⟨fun z => (by rw [if_pos z] at h; exact h), fun n => (by rw [if_neg n] at h; exact h)⟩, fun k => absurd k (by decide), fun k37 k38 k42 k43 k45 k47 k60 k61 k62 k124 => absurd rfl k62⟩
theorem w3_jn124 {x y : Int32} {Q : Int32 → Prop} (h : Q (if x = 0 then (if y = 0 then 0 else 1) else 1)) : wp_X3_joined (nI 124) x y Q := by
  unfold wp_X3_joined
  exact ⟨fun k => absurd k (by decide), fun k => absurd k (by decide), fun k => absurd k (by decide), fun k => absurd k (by decide), fun k => absurd k (by decide), fun k => absurd k (by decide), fun k => absurd k (by decide), fun k => absurd k (by decide), fun k => absurd k (by decide), fun _ => ⟨fun n => (by rw [if_neg n] at h; exact h), fun z => ⟨fun z2 => (by rw [if_pos z, if_pos z2] at h; exact h), fun n2 => (by rw [if_pos z, if_neg n2] at h; exact h)⟩⟩, fun k37 k38 k42 k43 k45 k47 k60 k61 k62 k124 => absurd rfl k124⟩
theorem w7_jn37 {x y : Int32} {Q : Int32 → Prop} (h : Q (if y = 0 then 0 else x - x / y * y)) : wp_X7_joined (nI 37) x y Q := by
  unfold wp_X7_joined
  exact ⟨fun _ => ⟨fun z => (by rw [if_pos z] at h; exact h), fun n => ⟨fun _ => ⟨n, (by rw [if_neg n] at h; exact h)⟩, fun m => (by rw [if_neg n, m, rm1] at h; exact h)⟩⟩, fun k => absurd k (by decide), fun k => absurd k (by decide), fun k => absurd k (by decide), fun k => absurd k (by decide), fun k => absurd k (by decide), fun k => absurd k (by decide), fun k => absurd k (by decide), fun k => absurd k (by decide), fun k => absurd k (by decide), fun k => absurd k (by decide), fun k => absurd k (by decide), fun k => absurd k (by decide), fun k => absurd k (by decide), fun k => absurd k (by decide), fun k => absurd k (by decide), fun k => absurd k (by decide), fun k => absurd k (by decide), fun k => absurd k (by decide), fun k => absurd k (by decide), fun k => absurd k (by decide), fun k => absurd k (by decide), fun k => absurd k (by decide), fun k => absurd k (by decide), fun k => absurd k (by decide), fun k => absurd k (by decide), fun k37 k38 k39 k40 k41 k42 k43 k44 k45 k46 k47 k48 k49 k50 k51 k52 k53 k54 k55 k56 k57 k58 k59 k60 k61 k62 => absurd rfl k37⟩
theorem w7_jn38 {x y : Int32} {Q : Int32 → Prop} (h : Q (if x = 0 then 0 else if y = 0 then 0 else 1)) : wp_X7_joined (nI 38) x y Q := by
  unfold wp_X7_joined
  exact ⟨fun k => absurd k (by decide), fun _ => ⟨fun z => (by rw [if_pos z] at h; exact h), fun n => ⟨fun z2 => (by rw [if_neg n, if_pos z2] at h; exact h), fun n2 => (by rw [if_neg n, if_neg n2] at h; exact h)⟩⟩, fun k => absurd k (by decide), fun k => absurd k (by decide), fun k => absurd k (by decide), fun k => absurd k (by decide), fun k => absurd k (by decide), fun k => absurd k (by decide), fun k => absurd k (by decide), fun k => absurd k (by decide), fun k => absurd k (by decide), fun k => absurd k (by decide), fun k => absurd k (by decide), fun k => absurd k (by decide), fun k => absurd k (by decide), fun k => absurd k (by decide), fun k => absurd k (by decide), fun k => absurd k (by decide), fun k => absurd k (by decide), fun k => absurd k (by decide), fun k => absurd k (by decide), fun k => absurd k (by decide), fun k => absurd k (by decide), fun k => absurd k (by decide), fun k => absurd k (by decide), fun k => absurd k (by decide), fun k37 k38 k39 k40 k41 k42 k43 k44 k45 k46 k47 k48 k49 k50 k51 k52 k53 k54 k55 k56 k57 k58 k59 k60 k61 k62 => absurd rfl k38⟩
theorem w7_jn42 {x y : Int32} {Q : Int32 → Prop} (h : Q (x * y)) : wp_X7_joined (nI 42) x y Q := by
  unfold wp_X7_joined
  exact ⟨fun k => absurd k (by decide), fun k => absurd k (by decide), fun k => absurd k (by decide), fun k => absurd k (by decide), fun k => absurd k (by decide), fun _ => h, fun k => absurd k (by decide), fun k => absurd k (by decide), fun k => absurd k (by decide), fun k => absurd k (by decide), fun k => absurd k (by decide), fun k => absurd k (by decide), fun k => absurd k (by decide), fun k => absurd k (by decide), fun k => absurd k (by decide), fun k => absurd k (by decide), fun k => absurd k (by decide), fun k => absurd k (by decide), fun k => absurd k (by decide), fun k => absurd k (by decide), fun k => absurd k (by decide), fun k => absurd k (by decide), fun k => absurd k (by decide), fun k => absurd k (by decide), fun k => absurd k (by decide), fun k => absurd k (by decide), fun k37 k38 k39 k40 k41 k42 k43 k44 k45 k46 k47 k48 k49 k50 k51 k52 k53 k54 k55 k56 k57 k58 k59 k60 k61 k62 => absurd rfl k42⟩
theorem w7_jn43 {x y : Int32} {Q : Int32 → Prop} (h : Q (x + y)) : wp_X7_joined (nI 43) x y Q := by
  unfold wp_X7_joined
  exact ⟨fun k => absurd k (by decide), fun k => absurd k (by decide), fun k => absurd k (by decide), fun k => absurd k (by decide), fun k => absurd k (by decide), fun k => absurd k (by decide), fun _ => h, fun k => absurd k (by decide), fun k => absurd k (by decide), fun k => absurd k (by decide), fun k => absurd k (by decide), fun k => absurd k (by decide), fun k => absurd k (by decide), fun k => absurd k (by decide), fun k => absurd k (by decide), fun k => absurd k (by decide), fun k => absurd k (by decide), fun k => absurd k (by decide), fun k => absurd k (by decide), fun k => absurd k (by decide), fun k => absurd k (by decide), fun k => absurd k (by decide), fun k => absurd k (by decide), fun k => absurd k (by decide), fun k => absurd k (by decide), fun k => absurd k (by decide), fun k37 k38 k39 k40 k41 k42 k43 k44 k45 k46 k47 k48 k49 k50 k51 k52 k53 k54 k55 k56 k57 k58 k59 k60 k61 k62 => absurd rfl k43⟩
theorem w7_jn45 {x y : Int32} {Q : Int32 → Prop} (h : Q (x - y)) : wp_X7_joined (nI 45) x y Q := by
  unfold wp_X7_joined
  exact ⟨fun k => absurd k (by decide), fun k => absurd k (by decide), fun k => absurd k (by decide), fun k => absurd k (by decide), fun k => absurd k (by decide), fun k => absurd k (by decide), fun k => absurd k (by decide), fun k => absurd k (by decide), fun _ => h, fun k => absurd k (by decide), fun k => absurd k (by decide), fun k => absurd k (by decide), fun k => absurd k (by decide), fun k => absurd k (by decide), fun k => absurd k (by decide), fun k => absurd k (by decide), fun k => absurd k (by decide), fun k => absurd k (by decide), fun k => absurd k (by decide), fun k => absurd k (by decide), fun k => absurd k (by decide), fun k => absurd k (by decide), fun k => absurd k (by decide), fun k => absurd k (by decide), fun k => absurd k (by decide), fun k => absurd k (by decide), fun k37 k38 k39 k40 k41 k42 k43 k44 k45 k46 k47 k48 k49 k50 k51 k52 k53 k54 k55 k56 k57 k58 k59 k60 k61 k62 => absurd rfl k45⟩
theorem w7_jn47 {x y : Int32} {Q : Int32 → Prop} (h : Q (if y = 0 then 0 else x / y)) : wp_X7_joined (nI 47) x y Q := by
  unfold wp_X7_joined
  exact ⟨fun k => absurd k (by decide), fun k => absurd k (by decide), fun k => absurd k (by decide), fun k => absurd k (by decide), fun k => absurd k (by decide), fun k => absurd k (by decide), fun k => absurd k (by decide), fun k => absurd k (by decide), fun k => absurd k (by decide), fun k => absurd k (by decide), fun _ => ⟨fun n => ⟨fun _ => ⟨n, (by rw [if_neg n] at h; exact h)⟩, fun m => (by rw [if_neg n, m, dm1] at h; exact h)⟩, fun z => (by rw [if_pos z] at h; exact h)⟩, fun k => absurd k (by decide), fun k => absurd k (by decide), fun k => absurd k (by decide), fun k => absurd k (by decide), fun k => absurd k (by decide), fun k => absurd k (by decide), fun k => absurd k (by decide), fun k => absurd k (by decide), fun k => absurd k (by decide), fun k => absurd k (by decide), fun k => absurd k (by decide), fun k => absurd k (by decide), fun k => absurd k (by decide), fun k => absurd k (by decide), fun k => absurd k (by decide), fun k37 k38 k39 k40 k41 k42 k43 k44 k45 k46 k47 k48 k49 k50 k51 k52 k53 k54 k55 k56 k57 k58 k59 k60 k61 k62 => absurd rfl k47⟩
theorem w7_jn60 {x y : Int32} {Q : Int32 → Prop} (h : Q (if y ≤ x then 0 else 1)) : wp_X7_joined (nI 60) x y Q := by
  unfold wp_X7_joined
  exact ⟨fun k => absurd k (by decide), fun k => absurd k (by decide), fun k => absurd k (by decide), fun k => absurd k (by decide), fun k => absurd k (by decide), fun k => absurd k (by decide), fun k => absurd k (by decide), fun k => absurd k (by decide), fun k => absurd k (by decide), fun k => absurd k (by decide), fun k => absurd k (by decide), fun k => absurd k (by decide), fun k => absurd k (by decide), fun k => absurd k (by decide), fun k => absurd k (by decide), fun k => absurd k (by decide), fun k => absurd k (by decide), fun k => absurd k (by decide), fun k => absurd k (by decide), fun k => absurd k (by decide), fun k => absurd k (by decide), fun k => absurd k (by decide), fun k => absurd k (by decide), fun _ => ⟨fun z => (by rw [if_pos z] at h; exact h), fun n => (by rw [if_neg n] at h; exact h)⟩, fun k => absurd k (by decide), fun k => absurd k (by decide), fun k37 k38 k39 k40 k41 k42 k43 k44 k45 k46 k47 k48 k49 k50 k51 k52 k53 k54 k55 k56 k57 k58 k59 k60 k61 k62 => absurd rfl k60⟩
theorem w7_jn61 {x y : Int32} {Q : Int32 → Prop} (h : Q (if x = y then 1 else 0)) : wp_X7_joined (nI 61) x y Q := by
  unfold wp_X7_joined
  exact ⟨fun k => absurd k (by decide), fun k => absurd k (by decide), fun k => absurd k (by decide), fun k => absurd k (by decide), fun k => absurd k (by decide), fun k => absurd k (by decide), fun k => absurd k (by decide), fun k => absurd k (by decide), fun k => absurd k (by decide), fun k => absurd k (by decide), fun k => absurd k (by decide), fun k => absurd k (by decide), fun k => absurd k (by decide), fun k => absurd k (by decide), fun k => absurd k (by decide), fun k => absurd k (by decide), fun k => absurd k (by decide), fun k => absurd k (by decide), fun k => absurd k (by decide), fun k => absurd k (by decide), fun k => absurd k (by decide), fun k => absurd k (by decide), fun k => absurd k (by decide), fun k => absurd k (by decide), fun _ => ⟨fun n => (by rw [if_neg n] at h; exact h), fun z => (by rw [if_pos z] at h; exact h)⟩, fun k => absurd k (by decide), fun k37 k38 k39 k40 k41 k42 k43 k44 k45 k46 k47 k48 k49 k50 k51 k52 k53 k54 k55 k56 k57 k58 k59 k60 k61 k62 => absurd rfl k61⟩
theorem w7_jn62 {x y : Int32} {Q : Int32 → Prop} (h : Q (if x ≤ y then 0 else 1)) : wp_X7_joined (nI 62) x y Q := by
  unfold wp_X7_joined
  exact ⟨fun k => absurd k (by decide), fun k => absurd k (by decide), fun k => absurd k (by decide), fun k => absurd k (by decide), fun k => absurd k (by decide), fun k => absurd k (by decide), fun k => absurd k (by decide), fun k => absurd k (by decide), fun k => absurd k (by decide), fun k => absurd k (by decide), fun k => absurd k (by decide), fun k => absurd k (by decide), fun k => absurd k (by decide), fun k => absurd k (by decide), fun k => absurd k (by decide), fun k => absurd k (by decide), fun k => absurd k (by decide), fun k => absurd k (by decide), fun k => absurd k (by decide), fun k => absurd k (by decide), fun k => absurd k (by decide), fun k => absurd k (by decide), fun k => absurd k (by decide), fun k => absurd k (by decide), fun k => absurd k (by decide), fun _ => ⟨fun z => (by rw [if_pos z] at h; exact h), fun n => (by rw [if_neg n] at h; exact h)⟩, fun k37 k38 k39 k40 k41 k42 k43 k44 k45 k46 k47 k48 k49 k50 k51 k52 k53 k54 k55 k56 k57 k58 k59 k60 k61 k62 => absurd rfl k62⟩
theorem w7_jn124 {x y : Int32} {Q : Int32 → Prop} (h : Q (if x = 0 then (if y = 0 then 0 else 1) else 1)) : wp_X7_joined (nI 124) x y Q := by
  unfold wp_X7_joined
  exact ⟨fun k => absurd k (by decide), fun k => absurd k (by decide), fun k => absurd k (by decide), fun k => absurd k (by decide), fun k => absurd k (by decide), fun k => absurd k (by decide), fun k => absurd k (by decide), fun k => absurd k (by decide), fun k => absurd k (by decide), fun k => absurd k (by decide), fun k => absurd k (by decide), fun k => absurd k (by decide), fun k => absurd k (by decide), fun k => absurd k (by decide), fun k => absurd k (by decide), fun k => absurd k (by decide), fun k => absurd k (by decide), fun k => absurd k (by decide), fun k => absurd k (by decide), fun k => absurd k (by decide), fun k => absurd k (by decide), fun k => absurd k (by decide), fun k => absurd k (by decide), fun k => absurd k (by decide), fun k => absurd k (by decide), fun k => absurd k (by decide), fun _ _ _ _ _ _ _ _ _ _ _ _ _ _ _ _ _ _ _ _ _ _ _ _ _ _ => ⟨fun n => (by rw [if_neg n] at h; exact h), fun z => ⟨fun z2 => (by rw [if_pos z, if_pos z2] at h; exact h), fun n2 => (by rw [if_pos z, if_neg n2] at h; exact h)⟩⟩⟩
theorem w3_joined {c : Nat} (hc : isOp c) {x y : Int32} {Q : Int32 → Prop} (h : Q (jn c x y)) : wp_X3_joined (nI c) x y Q := by
  rcases hc with e | e | e | e | e | e | e | e | e | e <;> subst e
  · exact w3_jn124 h
  · exact w3_jn38 h
  · exact w3_jn60 h
  · exact w3_jn61 h
  · exact w3_jn62 h
  · exact w3_jn43 h
  · exact w3_jn45 h
  · exact w3_jn42 h
  · exact w3_jn47 h
  · exact w3_jn37 h
theorem w7_joined {c : Nat} (hc : isOp c) {x y : Int32} {Q : Int32 → Prop} (h : Q (jn c x y)) : wp_X7_joined (nI c) x y Q := by
  rcases hc with e | e | e | e | e | e | e | e | e | e <;> subst e
  · exact w7_jn124 h
  · exact w7_jn38 h
  · exact w7_jn60 h
  · exact w7_jn61 h
  · exact w7_jn62 h
  · exact w7_jn43 h
  · exact w7_jn45 h
  · exact w7_jn42 h
  · exact w7_jn47 h
  · exact w7_jn37 h
/-- a part that is no sign: itself, or a name -/
def nmv (t a b c : Int32) : Int32 := if t < 0 then (if t = -1 then a else if t = -2 then b else c) else t
def hs (q : V) : Nat → Nat
  | 0 => 0
  | i + 1 => if (-3 : Int32) ≤ q i then hs q i + 1 else if q i = -33 then hs q i else hs q i - 1
def fs (q : V) (a b c : Int32) : Nat → V
  | 0 => fun _ => 0
  | i + 1 => if (-3 : Int32) ≤ q i then upd (fs q a b c i) (hs q i) (nmv (q i) a b c) else if q i = -33 then upd (fs q a b c i) (hs q i - 1) (if fs q a b c i (hs q i - 1) = 0 then 1 else 0) else upd (fs q a b c i) (hs q i - 2) (jn (-(q i)).toNatClampNeg (fs q a b c i (hs q i - 2)) (fs q a b c i (hs q i - 1)))
theorem hs_le (q : V) : ∀ i, hs q i ≤ i
  | 0 => Nat.le_refl 0
  | i + 1 => by
    have := hs_le q i
    unfold hs
    by_cases c : (-3 : Int32) ≤ q i
    · rw [if_pos c]; omega
    · rw [if_neg c]
      by_cases d : q i = -33
      · rw [if_pos d]; omega
      · rw [if_neg d]; omega
theorem hs_dp {q : V} {N : Nat} (h : WF q N) : ∀ i, i ≤ N → (hs q i : Int) = dp q i
  | 0, _ => rfl
  | i + 1, hi => by
    have ih := hs_dp h i (by omega)
    unfold hs dp
    by_cases c : (-3 : Int32) ≤ q i
    · rw [if_pos c, if_pos c]; omega
    · rw [if_neg c, if_neg c]
      by_cases d : q i = -33
      · rw [if_pos d, if_pos d]; omega
      · rw [if_neg d, if_neg d]
        have := (h.1 i (by omega) c).2 d
        omega
/-- the names' cells of a use -/
def NM (u : Nat) (nm : V) (a b c : Int32) : Prop := ∀ j, j < 3 → nm (cNa (nI (3 * u + j))).toNatClampNeg = (if j = 0 then a else if j = 1 then b else c)
theorem na_in {u j : Nat} (hu : u < 2) (hj : j < 3) : vp_in (cNa (nI (3 * u + j))) 128 := by
  rcases (by omega : u = 0 ∨ u = 1) with e | e <;> rcases (by omega : j = 0 ∨ j = 1 ∨ j = 2) with g | g | g <;> subst e <;> subst g
  · exact vi (n := 119) (by omega) (by omega)
  · exact vi (n := 115) (by omega) (by omega)
  · exact vi (n := 121) (by omega) (by omega)
  · exact vi (n := 118) (by omega) (by omega)
  · exact vi (n := 115) (by omega) (by omega)
  · exact vi (n := 110) (by omega) (by omega)
theorem w3_named {t a b c : Int32} {Q : Int32 → Prop} (h : Q (if t = -1 then a else if t = -2 then b else c)) : wp_X3_named t a b c Q := by
  unfold wp_X3_named
  refine ⟨fun n1 => ⟨fun n2 => ?_, fun e2 => ?_⟩, fun e1 => ?_⟩
  · rw [if_neg n1, if_neg n2] at h; exact h
  · rw [if_neg n1, if_pos e2] at h; exact h
  · rw [if_pos e1] at h; exact h
theorem tk_ge {v : Nat} (h : v ≤ 9999) : (-3 : Int32) ≤ nI v ∧ ¬ nI v < -3 ∧ ¬ nI v < 0 := by
  rw [ie, il, il, ti (by omega), show ((-3 : Int32).toInt) = -3 from rfl, show ((0 : Int32).toInt) = 0 from rfl]
  omega
theorem tk_nm {j : Nat} (h : j < 3) : (-3 : Int32) ≤ -nI (j + 1) ∧ ¬ -nI (j + 1) < -3 ∧ -nI (j + 1) < 0 := by
  rcases (by omega : j = 0 ∨ j = 1 ∨ j = 2) with g | g | g <;> subst g <;> decide
theorem tk_nmv {j : Nat} (h : j < 3) (a b c : Int32) : nmv (-nI (j + 1)) a b c = (if j = 0 then a else if j = 1 then b else c) := by
  rcases (by omega : j = 0 ∨ j = 1 ∨ j = 2) with g | g | g <;> subst g <;> rfl
theorem tk_op {c : Nat} (h : isOp c) : ¬ (-3 : Int32) ≤ -nI c ∧ -nI c < -3 ∧ ¬ -nI c = -33 ∧ (- -nI c).toNatClampNeg = c := by
  rcases h with e | e | e | e | e | e | e | e | e | e <;> subst e <;> decide
theorem w3_value {u N : Nat} {q : V} {x y : V} {s : V} (hN : N ≤ 60) (hN0 : 0 < N) (ht : ∀ i, i < N → TK u (q i) (x i) (y i)) (hw : WF q N) {a b c : Int32} {st : V} {Q : Int32 → V → Prop} (h : ∀ st', Q (fs q a b c N 0) st') : wp_X3_value a b c (nI N) q st Q := by
  unfold wp_X3_value
  refine loop_0 (fun n i (t : V) => wp_X3_value_b6 Q (nI N) q n a b c (nI (hs q i)) (nI i) t) (fun i t => ∀ j, j < hs q i → t j = fs q a b c i j) N st (fun j hj => absurd hj (Nat.not_lt_zero j)) ?_ ?_
  · intro n t it
    have d1 : 1 ≤ hs q N := by have := hs_dp hw N (Nat.le_refl N); have := hw.2 hN0; omega
    have d2 := hs_le q N
    unfold wp_X3_value_b6
    refine ⟨fun _ => ⟨fun c2 => absurd c2 (nle (b := 0) (by omega) (by omega)), fun _ => ⟨vi (n := 0) (by omega) (by omega), ?_⟩⟩, fun c2 => absurd ((le_n (by omega) (by omega)).mpr (Nat.le_refl N)) c2⟩
    rw [show ((0 : Int32).toNatClampNeg) = 0 from rfl, it 0 (by omega)]
    exact h t
  · intro n i t hi it ih
    have d2 := hs_le q i
    unfold wp_X3_value_b6
    refine ⟨fun c2 => absurd c2 (nle hi (by omega)), fun _ => ⟨vi (by omega) (by omega), fun z ez => ?_⟩⟩
    rw [cl (by omega)] at ez
    subst ez
    rcases ht i hi with ⟨v, hv, e1, -, -⟩ | ⟨j, hj, e1, -, -⟩ | ⟨e1, -⟩ | ⟨g, hg, e1, -, -⟩
    · obtain ⟨k1, k2, k3⟩ := tk_ge hv
      rw [e1]
      refine ⟨fun k => absurd k k2, fun _ => ⟨fun _ => ⟨fun k => absurd k k3, fun _ => ⟨vi (by omega) (by omega), fun t' et y' ey z' ez => ?_⟩⟩, fun k => absurd ((lt_n (b := 60) (by omega) (by omega)).mpr (by omega)) k⟩⟩
      have eh : hs q (i + 1) = hs q i + 1 := by rw [hs, e1, if_pos k1]
      have g := ih t' (fun j hj => ?_)
      · rw [ey, ez, i1, i1]
        rw [eh] at g
        exact g
      · rw [et, cl (by omega), fs, e1, if_pos k1]
        rw [eh] at hj
        by_cases d : j = hs q i
        · subst d; rw [us, us]; unfold nmv; rw [if_neg k3]
        · rw [un d, un d]; exact it j (by omega)
    · obtain ⟨k1, k2, k3⟩ := tk_nm hj
      rw [e1]
      refine ⟨fun k => absurd k k2, fun _ => ⟨fun _ => ⟨fun _ => w3_named ⟨vi (by omega) (by omega), fun t' et y' ey z' ez => ?_⟩, fun k => absurd k3 k⟩, fun k => absurd ((lt_n (b := 60) (by omega) (by omega)).mpr (by omega)) k⟩⟩
      have eh : hs q (i + 1) = hs q i + 1 := by rw [hs, e1, if_pos k1]
      have g := ih t' (fun j' hj' => ?_)
      · rw [ey, ez, i1, i1]
        rw [eh] at g
        exact g
      · rw [et, cl (by omega), fs, e1, if_pos k1]
        rw [eh] at hj'
        by_cases d : j' = hs q i
        · subst d; rw [us, us]; unfold nmv; rw [if_pos k3]
        · rw [un d, un d]; exact it j' (by omega)
    · have k1 : ¬ (-3 : Int32) ≤ q i := by rw [e1]; decide
      have k4 : q i = -33 := e1
      have dh : 1 ≤ hs q i := by have := hs_dp hw i (by omega); have := (hw.1 i hi k1).1 k4; omega
      have eh : hs q (i + 1) = hs q i := by rw [hs, if_neg k1, if_pos k4]
      have fin : ∀ (r : Int32) (t' : V), r = (if fs q a b c i (hs q i - 1) = 0 then 1 else 0) → t' = upd t (hs q i - 1) r → wp_X3_value_b6 Q (nI N) q n a b c (nI (hs q i)) (nI (i + 1)) t' := by
        intro r t' er et
        have g := ih t' (fun j' hj' => ?_)
        · rw [eh] at g
          exact g
        · rw [eh] at hj'
          rw [et, er, fs, if_neg k1, if_pos k4]
          by_cases d : j' = hs q i - 1
          · subst d; rw [us, us]
          · rw [un d, un d]; exact it j' (by omega)
      rw [k4]
      refine ⟨fun _ => ⟨fun k => absurd rfl k, fun _ => ⟨fun _ => ?_, fun k => absurd ((le_n (a := 1) (by omega) (by omega)).mpr dh) k⟩⟩, fun k => absurd (by decide) k⟩
      rw [l1, sb dh, cl (by omega), it _ (by omega)]
      refine ⟨vi (by omega) (by omega), fun n0 => ?_, fun z0 => ?_⟩
      · unfold wp_X6_truth
        refine ⟨fun _ => ⟨vi (by omega) (by omega), fun t' et z' ez => ?_⟩, fun k => absurd rfl k⟩
        rw [ez, ad]
        exact fin 0 t' (by rw [if_neg n0]) et
      · unfold wp_X6_truth
        refine ⟨fun k => absurd k (by decide), fun _ => ⟨vi (by omega) (by omega), fun t' et z' ez => ?_⟩⟩
        rw [ez, ad]
        exact fin 1 t' (by rw [if_pos z0]) et
    · obtain ⟨k1, k2, k3, k4⟩ := tk_op hg
      rw [← e1] at k1 k2 k3 k4
      have dh : 2 ≤ hs q i := by have := hs_dp hw i (by omega); have := (hw.1 i hi k1).2 k3; omega
      have eh : hs q (i + 1) = hs q i - 1 := by rw [hs, if_neg k1, if_neg k3]
      refine ⟨fun _ => ⟨fun _ => ⟨fun _ => fun y' ey => ?_, fun k => absurd ((le_n (a := 2) (by omega) (by omega)).mpr dh) k⟩, fun k => absurd k k3⟩, fun k => absurd k2 k⟩
      have y1 : y' = nI (hs q i - 1) := by rw [ey]; obtain ⟨m, em⟩ : ∃ m, hs q i = m + 1 := ⟨hs q i - 1, by omega⟩; rw [em, pk_m1]; rfl
      have y2 : y' - 1 = nI (hs q i - 2) := by rw [y1, l1, sb (by omega)]; congr 1
      rw [y2, y1, cl (by omega), cl (by omega), it _ (by omega), it _ (by omega), show -(q i) = nI g by rw [e1, Int32.neg_neg]]
      refine ⟨vi (by omega) (by omega), vi (by omega) (by omega), w3_joined hg ⟨vi (by omega) (by omega), fun t' et z' ez => ?_⟩⟩
      have gg := ih t' (fun j' hj' => ?_)
      · rw [ez, i1]
        rw [eh] at gg
        exact gg
      · rw [eh] at hj'
        rw [et, fs, if_neg k1, if_neg k3, k4]
        by_cases d : j' = hs q i - 2
        · subst d; rw [us, us]
        · rw [un d, un d]; exact it j' (by omega)
theorem w7_worked {u N : Nat} (hu : u < 2) {q s : V} (hN : N ≤ 60) (hN0 : 0 < N) (hn : s (142 + 125 * u) = nI N) (ht : ∀ i, i < N → TK u (q i) (s (143 + 125 * u + 2 * i)) (s (144 + 125 * u + 2 * i))) (hw : WF q N) {a b c : Int32} {nm pl : V} (hm : NM u nm a b c) {Q : Int32 → V → Prop} (h : ∀ pl', Q (fs q a b c N 0) pl') : wp_X7_worked (nI u) s nm pl Q := by
  unfold wp_X7_worked
  rw [show (142 : Int32) = nI 142 from rfl, show (125 : Int32) = nI 125 from rfl, ml, ad]
  intro x2 e2
  subst e2
  refine loop_0 (fun n i (t : V) => wp_X7_worked_b14 Q s nm n (nI (142 + 125 * u)) (nI (hs q i)) (nI i) t) (fun i t => ∀ j, j < hs q i → t j = fs q a b c i j) N pl (fun j hj => absurd hj (Nat.not_lt_zero j)) ?_ ?_
  · intro n t it
    have d1 : 1 ≤ hs q N := by have := hs_dp hw N (Nat.le_refl N); have := hw.2 hN0; omega
    unfold wp_X7_worked_b14
    rw [cl (by omega), hn]
    refine ⟨vi (by omega) (by omega), fun _ => ⟨vi (n := 0) (by omega) (by omega), ?_⟩, fun c2 => absurd ((le_n (by omega) (by omega)).mpr (Nat.le_refl N)) c2⟩
    rw [show ((0 : Int32).toNatClampNeg) = 0 from rfl, it 0 (by omega)]
    exact h t
  · intro n i t hi it ih
    have d2 := hs_le q i
    unfold wp_X7_worked_b14
    rw [show (nI (142 + 125 * u) + 1) + 2 * nI i = nI (143 + 125 * u + 2 * i) by rw [i1, show (2 : Int32) = nI 2 from rfl, ml, ad]; congr 1; omega, show (nI (142 + 125 * u) + 2) + 2 * nI i = nI (144 + 125 * u + 2 * i) by rw [show (2 : Int32) = nI 2 from rfl, ml, ad, ad]; congr 1; omega, cl (by omega), cl (by omega), cl (by omega), hn]
    refine ⟨vi (by omega) (by omega), fun c2 => absurd c2 (nle hi (by omega)), fun _ => ⟨vi (by omega) (by omega), fun x5 e5 => ⟨vi (by omega) (by omega), fun x6 e6 => ?_⟩⟩⟩
    rcases ht i hi with ⟨v, hv, e1, f1, f2⟩ | ⟨j, hj, e1, f1, f2⟩ | ⟨e1, f1⟩ | ⟨g, hg, e1, f1, f2⟩
    · obtain ⟨k1, k2, k3⟩ := tk_ge hv
      rw [f1] at e5; rw [f2] at e6
      subst e5; subst e6
      refine ⟨fun _ => ⟨fun k => absurd rfl k, fun _ => ⟨vi (by omega) (by omega), fun t' et y' ey z' ez => ?_⟩⟩, fun k => absurd rfl k⟩
      have eh : hs q (i + 1) = hs q i + 1 := by rw [hs, e1, if_pos k1]
      have g := ih t' (fun j hj => ?_)
      · rw [ey, ez, i1, i1]
        rw [eh] at g
        exact g
      · rw [et, cl (by omega), fs, e1, if_pos k1]
        rw [eh] at hj
        by_cases d : j = hs q i
        · subst d; rw [us, us]; unfold nmv; rw [if_neg k3]
        · rw [un d, un d]; exact it j (by omega)
    · obtain ⟨k1, k2, k3⟩ := tk_nm hj
      rw [f1] at e5; rw [f2] at e6
      subst e5; subst e6
      refine ⟨fun k => absurd k (by decide), fun _ => ⟨fun k => absurd rfl k, fun _ => ⟨fun _ => ⟨na_in hu hj, vi (by omega) (by omega), fun t' et y' ey z' ez => ?_⟩, fun k => absurd k (by decide)⟩⟩⟩
      have eh : hs q (i + 1) = hs q i + 1 := by rw [hs, e1, if_pos k1]
      have g := ih t' (fun j' hj' => ?_)
      · rw [ey, ez, i1, i1]
        rw [eh] at g
        exact g
      · rw [et, cl (by omega), fs, e1, if_pos k1]
        rw [eh] at hj'
        by_cases d : j' = hs q i
        · subst d; rw [us, us, tk_nmv hj]; exact hm j hj
        · rw [un d, un d]; exact it j' (by omega)
    · have k1 : ¬ (-3 : Int32) ≤ q i := by rw [e1]; decide
      have k4 : q i = -33 := e1
      have dh : 1 ≤ hs q i := by have := hs_dp hw i (by omega); have := (hw.1 i hi k1).1 k4; omega
      have eh : hs q (i + 1) = hs q i := by rw [hs, if_neg k1, if_pos k4]
      rw [f1] at e5
      subst e5
      have fin : ∀ (r : Int32) (t' : V), r = (if fs q a b c i (hs q i - 1) = 0 then 1 else 0) → t' = upd t (hs q i - 1) r → wp_X7_worked_b14 Q s nm n (nI (142 + 125 * u)) (nI (hs q i)) (nI (i + 1)) t' := by
        intro r t' er et
        have g := ih t' (fun j' hj' => ?_)
        · rw [eh] at g
          exact g
        · rw [eh] at hj'
          rw [et, er, fs, if_neg k1, if_pos k4]
          by_cases d : j' = hs q i - 1
          · subst d; rw [us, us]
          · rw [un d, un d]; exact it j' (by omega)
      refine ⟨fun k => absurd k (by decide), fun _ => ⟨fun _ => ⟨fun k => absurd rfl k, fun _ => ?_⟩, fun k => absurd k (by decide)⟩⟩
      rw [l1, sb dh, cl (by omega), it _ (by omega)]
      refine ⟨vi (by omega) (by omega), fun n0 => ⟨vi (by omega) (by omega), fun t' et z' ez => ?_⟩, fun z0 => ⟨vi (by omega) (by omega), fun t' et z' ez => ?_⟩⟩
      · rw [ez, ad]
        exact fin 0 t' (by rw [if_neg n0]) et
      · rw [ez, ad]
        exact fin _ t' (by rw [if_pos z0]; rfl) et
    · obtain ⟨k1, k2, k3, k4⟩ := tk_op hg
      rw [← e1] at k1 k2 k3 k4
      have dh : 2 ≤ hs q i := by have := hs_dp hw i (by omega); have := (hw.1 i hi k1).2 k3; omega
      have eh : hs q (i + 1) = hs q i - 1 := by rw [hs, if_neg k1, if_neg k3]
      rw [f1] at e5; rw [f2] at e6
      subst e5; subst e6
      refine ⟨fun k => absurd k (by decide), fun _ => ⟨fun _ => ⟨fun _ => fun y' ey => ?_, fun k => absurd k (by decide)⟩, fun k => absurd k (by decide)⟩⟩
      have y1 : y' = nI (hs q i - 1) := by rw [ey]; obtain ⟨m, em⟩ : ∃ m, hs q i = m + 1 := ⟨hs q i - 1, by omega⟩; rw [em, pk_m1]; rfl
      have y2 : y' - 1 = nI (hs q i - 2) := by rw [y1, l1, sb (by omega)]; congr 1
      rw [y2, y1, cl (by omega), cl (by omega), it _ (by omega), it _ (by omega)]
      refine ⟨vi (by omega) (by omega), vi (by omega) (by omega), w7_joined hg ⟨vi (by omega) (by omega), fun t' et z' ez => ?_⟩⟩
      have gg := ih t' (fun j' hj' => ?_)
      · rw [ez, i1]
        rw [eh] at gg
        exact gg
      · rw [eh] at hj'
        rw [et, fs, if_neg k1, if_neg k3, k4]
        by_cases d : j' = hs q i - 2
        · subst d; rw [us, us]
        · rw [un d, un d]; exact it j' (by omega)
/-- what a use gives without a bound -/
def tv (n : Int32) (q : V) (a b c : Int32) : Int32 := if n.toNatClampNeg = 0 then a else fs q a b c n.toNatClampNeg 0
theorem w5_textOf0 {Q : Nat → Prop} (h : Q 0) : wp_X5_textOf 0 Q := by
  unfold wp_X5_textOf; exact ⟨fun c => absurd rfl c, fun _ => h⟩
theorem w5_textOf1 {Q : Nat → Prop} (h : Q 1) : wp_X5_textOf 1 Q := by
  unfold wp_X5_textOf; exact ⟨fun _ => h, fun c => absurd c (by decide)⟩
theorem w5_gv {u : Nat} (hu : u < 2) {tn : V} {tq tk : Nat → V} {s : V} (h : Rx u (tn u) (tq u) s) {a b c : Int32} {Q : Int32 → (Nat → V) → Prop} (hQ : ∀ st', Q (if u = 0 then hd (tv (tn u) (tq u) a b c) (-9) 9 else hd (tv (tn u) (tq u) a b c) 0 999) st') : wp_X5_given (nI u) a b c tn tq tk Q := by
  obtain ⟨N, h1, h2, h3, h4, h5⟩ := h
  have tx : ∀ R : Nat → Prop, R u → wp_X5_textOf (nI u) R := by
    intro R r
    rcases (by omega : u = 0 ∨ u = 1) with e | e <;> subst e
    · exact w5_textOf0 r
    · exact w5_textOf1 r
  have fin : ∀ (v : Int32) (t' : Nat → V), v = tv (tn u) (tq u) a b c → ((¬ nI u = 0) → wp_X6_held v (0 : Int32) (999 : Int32) (fun r_52 => Q r_52 t')) ∧ ((nI u = 0) → wp_X6_held v (-9 : Int32) (9 : Int32) (fun r_40 => Q r_40 t')) := by
    intro v t' ev
    subst ev
    have g := hQ t'
    refine ⟨fun k => w6_held (by decide) ?_, fun k => w6_held (by decide) ?_⟩
    · rw [if_neg (fun e => k (by rw [e]; rfl))] at g; exact g
    · rw [if_pos ((eq_n (b := 0) (by omega) (by omega)).mp k)] at g; exact g
  unfold wp_X5_given wp_X3_stands
  refine tx _ ?_
  by_cases d : N = 0
  · subst d
    rw [h2]
    have e0 : a = tv (tn u) (tq u) a b c := by unfold tv; rw [h2, if_pos (by rfl)]
    exact ⟨fun _ => tB (fin a tk e0), fun k => absurd (by decide) k⟩
  · have e0 : fs (tq u) a b c N 0 = tv (tn u) (tq u) a b c := by unfold tv; rw [h2, cl (by omega), if_neg d]
    rw [h2]
    exact ⟨fun k => absurd k (nle (b := 0) (by omega) (by omega)), fun _ => tD (w3_value (u := u) (x := fun i => s (143 + 125 * u + 2 * i)) (y := fun i => s (144 + 125 * u + 2 * i)) (s := s) h1 (by omega) h4 h5 (fun st' => fun t' _ => fin _ t' e0))⟩
theorem w7_hasText {u N : Nat} (hu : u < 2) {s : V} (hN : N ≤ 60) (hs' : s (142 + 125 * u) = nI N) {Q : Int32 → Prop} (h0 : N = 0 → Q 0) (h1 : 0 < N → Q 1) : wp_X7_hasText (nI u) s Q := by
  unfold wp_X7_hasText
  rw [show (142 : Int32) = nI 142 from rfl, show (125 : Int32) = nI 125 from rfl, ml, ad, cl (by omega), hs']
  refine ⟨vi (by omega) (by omega), fun k => h0 ?_, fun k => h1 ?_⟩
  · have := (le_n (a := N) (b := 0) (by omega) (by omega)).mp k; omega
  · rcases Nat.eq_zero_or_pos N with e | e
    · subst e; exact absurd (by decide) k
    · exact e
theorem w7_gainTold {n : Int32} {q s : V} (h : Rx 0 n q s) {a b c : Int32} {nm pl : V} {Q : Int32 → V → V → Prop} (hQ : ∀ nm' pl', Q (hd (tv n q a b c) (-9) 9) nm' pl') : wp_X7_gainTold a b c s nm pl Q := by
  obtain ⟨N, h1, h2, h3, h4, h5⟩ := h
  unfold wp_X7_gainTold
  refine ⟨vi (n := 119) (by omega) (by omega), fun n1 e1 => ⟨vi (n := 115) (by omega) (by omega), fun n2 e2 => ⟨vi (n := 121) (by omega) (by omega), fun n3 e3 => w7_hasText (u := 0) (by omega) h1 h3 (fun d => ?_) (fun d => ?_)⟩⟩⟩
  · have e0 : a = tv n q a b c := by unfold tv; rw [h2, d, if_pos (by rfl)]
    exact tB (w7_held (by decide) (by rw [e0]; exact hQ _ _))
  · have e0 : fs q a b c N 0 = tv n q a b c := by unfold tv; rw [h2, cl (by omega), if_neg (by omega)]
    refine tD (w7_worked (u := 0) (by omega) h1 d h3 h4 h5 (fun j hj => ?_) (fun pl' => w7_held (by decide) (by rw [e0]; exact hQ _ _)))
    subst e3; subst e2; subst e1
    rcases (by omega : j = 0 ∨ j = 1 ∨ j = 2) with g | g | g <;> subst g <;> rfl
theorem w7_worthTold {n : Int32} {q s : V} (h : Rx 1 n q s) {a b c : Int32} {nm pl : V} {Q : Int32 → V → V → Prop} (hQ : ∀ nm' pl', Q (hd (tv n q a b c) 0 999) nm' pl') : wp_X7_worthTold a b c s nm pl Q := by
  obtain ⟨N, h1, h2, h3, h4, h5⟩ := h
  unfold wp_X7_worthTold
  refine ⟨vi (n := 118) (by omega) (by omega), fun n1 e1 => ⟨vi (n := 115) (by omega) (by omega), fun n2 e2 => ⟨vi (n := 110) (by omega) (by omega), fun n3 e3 => w7_hasText (u := 1) (by omega) h1 h3 (fun d => ?_) (fun d => ?_)⟩⟩⟩
  · have e0 : a = tv n q a b c := by unfold tv; rw [h2, d, if_pos (by rfl)]
    exact tB (w7_held (by decide) (by rw [e0]; exact hQ _ _))
  · have e0 : fs q a b c N 0 = tv n q a b c := by unfold tv; rw [h2, cl (by omega), if_neg (by omega)]
    refine tD (w7_worked (u := 1) (by omega) h1 d h3 h4 h5 (fun j hj => ?_) (fun pl' => w7_held (by decide) (by rw [e0]; exact hQ _ _)))
    subst e3; subst e2; subst e1
    rcases (by omega : j = 0 ∨ j = 1 ∨ j = 2) with g | g | g <;> subst g <;> rfl
