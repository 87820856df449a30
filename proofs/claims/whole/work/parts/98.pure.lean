theorem law_pure : ∀ (xs : Nat → Int32) (Ln : Nat), Ln ≤ 3072 → wp_L_law (fun v => v = 1) xs Ln := sorry
