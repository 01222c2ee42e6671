/-! the pure statement: on every script the meanings agree -/
theorem law_true {L : Nat} (hL : L ≤ 4096) (xs : Nat → Int32) : ∃ r : Int × Mem, d_law L (fun j => (xs j).toInt) M0 = some r ∧ r.1 = 1 := sorry
