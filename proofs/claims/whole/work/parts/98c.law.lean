/-! the law's loop -/
theorem b_ite {c : Prop} [Decidable c] {a b : Res} (h1 : ∃ r : Int × Mem, a = some r ∧ r.1 = 1) (h2 : ∃ r : Int × Mem, b = some r ∧ r.1 = 1) : ∃ r : Int × Mem, (if c then a else b) = some r ∧ r.1 = 1 := by
  by_cases h : c
  · rw [if_pos h]; exact h1
  · rw [if_neg h]; exact h2
theorem or64_l {x y : Int} : Lg (or64 x y) := by
  unfold or64 Lg
  have h1 := Int64.le_toInt (Int64.ofInt x ||| Int64.ofInt y)
  have h2 := Int64.toInt_lt (Int64.ofInt x ||| Int64.ofInt y)
  omega
theorem b_status {L : Nat} {sx : Nat → Int} {R : Int → Mem → Res} {a3 : Int} {M : Mem} (hx : ∀ j, I32 (sx j)) (hc : ∀ j : Int, 0 ≤ j → j ≤ 7 → 0 ≤ w32 (a3 + j) ∧ w32 (a3 + j) < (L : Int)) (hR : ∀ M2, Inv M2 → ∃ r : Int × Mem, R (a3 + 8) M2 = some r ∧ r.1 = 1) (h : Inv M) : ∃ r : Int × Mem, k_Lw_law_208 L sx R a3 M = some r ∧ r.1 = 1 := by
  obtain ⟨v, M1, w, M2, e1, e2, e3, e4, e5⟩ := in_status   h
  obtain ⟨r, hr, h1⟩ := hR M2 e5
  refine ⟨r, ?_, h1⟩
  unfold k_Lw_law_208
  refine e_call e1 ?_
  refine e_call e2 ?_
  exact (if_pos e3).trans hr
theorem b_tray {L : Nat} {sx : Nat → Int} {R : Int → Mem → Res} {a3 : Int} {M : Mem} (hx : ∀ j, I32 (sx j)) (hc : ∀ j : Int, 0 ≤ j → j ≤ 7 → 0 ≤ w32 (a3 + j) ∧ w32 (a3 + j) < (L : Int)) (hR : ∀ M2, Inv M2 → ∃ r : Int × Mem, R (a3 + 8) M2 = some r ∧ r.1 = 1) (h : Inv M) : ∃ r : Int × Mem, k_Lw_law_221 L sx R a3 M = some r ∧ r.1 = 1 := by
  obtain ⟨v, M1, w, M2, e1, e2, e3, e4, e5⟩ := in_tray (a1 := (sx (ix (a3 + 1)))) (a2 := (sx (ix (a3 + 2)))) (a3 := (sx (ix (a3 + 3)))) (hx _) (hx _) (hx _) h
  obtain ⟨r, hr, h1⟩ := hR M2 e5
  refine ⟨r, ?_, h1⟩
  unfold k_Lw_law_221
  refine e_chk (hc 1 (by decide) (by decide)) (e_let ?_)
  refine e_chk (hc 2 (by decide) (by decide)) (e_let ?_)
  refine e_chk (hc 3 (by decide) (by decide)) (e_let ?_)
  refine e_call e1 ?_
  refine e_chk (hc 1 (by decide) (by decide)) (e_let ?_)
  refine e_chk (hc 2 (by decide) (by decide)) (e_let ?_)
  refine e_chk (hc 3 (by decide) (by decide)) (e_let ?_)
  refine e_call e2 ?_
  exact (if_pos e3).trans hr
theorem b_write {L : Nat} {sx : Nat → Int} {R : Int → Mem → Res} {a3 : Int} {M : Mem} (hx : ∀ j, I32 (sx j)) (hc : ∀ j : Int, 0 ≤ j → j ≤ 7 → 0 ≤ w32 (a3 + j) ∧ w32 (a3 + j) < (L : Int)) (hR : ∀ M2, Inv M2 → ∃ r : Int × Mem, R (a3 + 8) M2 = some r ∧ r.1 = 1) (h : Inv M) : ∃ r : Int × Mem, k_Lw_law_264 L sx R a3 M = some r ∧ r.1 = 1 := by
  obtain ⟨v, M1, w, M2, e1, e2, e3, e4, e5⟩ := in_write (a1 := (sx (ix (a3 + 1)))) (a2 := (sx (ix (a3 + 2)))) (a3 := (or64 (sl64 (w32 (sx (ix (a3 + 3)))) 32) (an64 (w32 (sx (ix (a3 + 4)))) 4294967295))) (hx _) (hx _) or64_l h
  obtain ⟨r, hr, h1⟩ := hR M2 e5
  refine ⟨r, ?_, h1⟩
  unfold k_Lw_law_264
  refine e_chk (hc 1 (by decide) (by decide)) (e_let ?_)
  refine e_chk (hc 2 (by decide) (by decide)) (e_let ?_)
  refine e_chk (hc 3 (by decide) (by decide)) (e_let ?_)
  refine e_chk (hc 4 (by decide) (by decide)) (e_let ?_)
  refine e_call e1 ?_
  refine e_chk (hc 1 (by decide) (by decide)) (e_let ?_)
  refine e_chk (hc 2 (by decide) (by decide)) (e_let ?_)
  refine e_chk (hc 3 (by decide) (by decide)) (e_let ?_)
  refine e_chk (hc 4 (by decide) (by decide)) (e_let ?_)
  refine e_call e2 ?_
  exact (if_pos e3).trans hr
theorem b_read {L : Nat} {sx : Nat → Int} {R : Int → Mem → Res} {a3 : Int} {M : Mem} (hx : ∀ j, I32 (sx j)) (hc : ∀ j : Int, 0 ≤ j → j ≤ 7 → 0 ≤ w32 (a3 + j) ∧ w32 (a3 + j) < (L : Int)) (hR : ∀ M2, Inv M2 → ∃ r : Int × Mem, R (a3 + 8) M2 = some r ∧ r.1 = 1) (h : Inv M) : ∃ r : Int × Mem, k_Lw_law_337 L sx R a3 M = some r ∧ r.1 = 1 := by
  obtain ⟨v, M1, w, M2, e1, e2, e3, e4, e5⟩ := in_read (a1 := (sx (ix (a3 + 1)))) (a2 := (sx (ix (a3 + 2)))) (hx _) (hx _) h
  obtain ⟨r, hr, h1⟩ := hR M2 e5
  refine ⟨r, ?_, h1⟩
  unfold k_Lw_law_337
  refine e_chk (hc 1 (by decide) (by decide)) (e_let ?_)
  refine e_chk (hc 2 (by decide) (by decide)) (e_let ?_)
  refine e_call e1 ?_
  refine e_chk (hc 1 (by decide) (by decide)) (e_let ?_)
  refine e_chk (hc 2 (by decide) (by decide)) (e_let ?_)
  refine e_call e2 ?_
  exact (if_pos e3).trans hr
theorem b_pour {L : Nat} {sx : Nat → Int} {R : Int → Mem → Res} {a3 : Int} {M : Mem} (hx : ∀ j, I32 (sx j)) (hc : ∀ j : Int, 0 ≤ j → j ≤ 7 → 0 ≤ w32 (a3 + j) ∧ w32 (a3 + j) < (L : Int)) (hR : ∀ M2, Inv M2 → ∃ r : Int × Mem, R (a3 + 8) M2 = some r ∧ r.1 = 1) (h : Inv M) : ∃ r : Int × Mem, k_Lw_law_371 L sx R a3 M = some r ∧ r.1 = 1 := by
  obtain ⟨v, M1, w, M2, e1, e2, e3, e4, e5⟩ := in_pour (a1 := (sx (ix (a3 + 1)))) (a2 := (sx (ix (a3 + 2)))) (a3 := (sx (ix (a3 + 3)))) (a4 := (sx (ix (a3 + 4)))) (a5 := (sx (ix (a3 + 5)))) (hx _) (hx _) (hx _) (hx _) (hx _) h
  obtain ⟨r, hr, h1⟩ := hR M2 e5
  refine ⟨r, ?_, h1⟩
  unfold k_Lw_law_371
  refine e_chk (hc 1 (by decide) (by decide)) (e_let ?_)
  refine e_chk (hc 2 (by decide) (by decide)) (e_let ?_)
  refine e_chk (hc 3 (by decide) (by decide)) (e_let ?_)
  refine e_chk (hc 4 (by decide) (by decide)) (e_let ?_)
  refine e_chk (hc 5 (by decide) (by decide)) (e_let ?_)
  refine e_call e1 ?_
  refine e_chk (hc 1 (by decide) (by decide)) (e_let ?_)
  refine e_chk (hc 2 (by decide) (by decide)) (e_let ?_)
  refine e_chk (hc 3 (by decide) (by decide)) (e_let ?_)
  refine e_chk (hc 4 (by decide) (by decide)) (e_let ?_)
  refine e_chk (hc 5 (by decide) (by decide)) (e_let ?_)
  refine e_call e2 ?_
  exact (if_pos e3).trans hr
theorem b_farm {L : Nat} {sx : Nat → Int} {R : Int → Mem → Res} {a3 : Int} {M : Mem} (hx : ∀ j, I32 (sx j)) (hc : ∀ j : Int, 0 ≤ j → j ≤ 7 → 0 ≤ w32 (a3 + j) ∧ w32 (a3 + j) < (L : Int)) (hR : ∀ M2, Inv M2 → ∃ r : Int × Mem, R (a3 + 8) M2 = some r ∧ r.1 = 1) (h : Inv M) : ∃ r : Int × Mem, k_Lw_law_434 L sx R a3 M = some r ∧ r.1 = 1 := by
  obtain ⟨v, M1, w, M2, e1, e2, e3, e4, e5⟩ := in_farm (a1 := (sx (ix (a3 + 1)))) (a2 := (sx (ix (a3 + 2)))) (a3 := (sx (ix (a3 + 3)))) (hx _) (hx _) (hx _) h
  obtain ⟨r, hr, h1⟩ := hR M2 e5
  refine ⟨r, ?_, h1⟩
  unfold k_Lw_law_434
  refine e_chk (hc 1 (by decide) (by decide)) (e_let ?_)
  refine e_chk (hc 2 (by decide) (by decide)) (e_let ?_)
  refine e_chk (hc 3 (by decide) (by decide)) (e_let ?_)
  refine e_call e1 ?_
  refine e_chk (hc 1 (by decide) (by decide)) (e_let ?_)
  refine e_chk (hc 2 (by decide) (by decide)) (e_let ?_)
  refine e_chk (hc 3 (by decide) (by decide)) (e_let ?_)
  refine e_call e2 ?_
  exact (if_pos e3).trans hr
theorem b_elevator {L : Nat} {sx : Nat → Int} {R : Int → Mem → Res} {a3 : Int} {M : Mem} (hx : ∀ j, I32 (sx j)) (hc : ∀ j : Int, 0 ≤ j → j ≤ 7 → 0 ≤ w32 (a3 + j) ∧ w32 (a3 + j) < (L : Int)) (hR : ∀ M2, Inv M2 → ∃ r : Int × Mem, R (a3 + 8) M2 = some r ∧ r.1 = 1) (h : Inv M) : ∃ r : Int × Mem, k_Lw_law_477 L sx R a3 M = some r ∧ r.1 = 1 := by
  obtain ⟨v, M1, w, M2, e1, e2, e3, e4, e5⟩ := in_elevator (a1 := (sx (ix (a3 + 1)))) (a2 := (sx (ix (a3 + 2)))) (hx _) (hx _) h
  obtain ⟨r, hr, h1⟩ := hR M2 e5
  refine ⟨r, ?_, h1⟩
  unfold k_Lw_law_477
  refine e_chk (hc 1 (by decide) (by decide)) (e_let ?_)
  refine e_chk (hc 2 (by decide) (by decide)) (e_let ?_)
  refine e_call e1 ?_
  refine e_chk (hc 1 (by decide) (by decide)) (e_let ?_)
  refine e_chk (hc 2 (by decide) (by decide)) (e_let ?_)
  refine e_call e2 ?_
  exact (if_pos e3).trans hr
theorem b_load {L : Nat} {sx : Nat → Int} {R : Int → Mem → Res} {a3 : Int} {M : Mem} (hx : ∀ j, I32 (sx j)) (hc : ∀ j : Int, 0 ≤ j → j ≤ 7 → 0 ≤ w32 (a3 + j) ∧ w32 (a3 + j) < (L : Int)) (hR : ∀ M2, Inv M2 → ∃ r : Int × Mem, R (a3 + 8) M2 = some r ∧ r.1 = 1) (h : Inv M) : ∃ r : Int × Mem, k_Lw_law_510 L sx R a3 M = some r ∧ r.1 = 1 := by
  obtain ⟨v, M1, w, M2, e1, e2, e3, e4, e5⟩ := in_load (a1 := (sx (ix (a3 + 1)))) (a2 := (sx (ix (a3 + 2)))) (a3 := (sx (ix (a3 + 3)))) (a4 := (sx (ix (a3 + 4)))) (a5 := (sx (ix (a3 + 5)))) (a6 := (sx (ix (a3 + 6)))) (hx _) (hx _) (hx _) (hx _) (hx _) (hx _) h
  obtain ⟨r, hr, h1⟩ := hR M2 e5
  refine ⟨r, ?_, h1⟩
  unfold k_Lw_law_510
  refine e_chk (hc 1 (by decide) (by decide)) (e_let ?_)
  refine e_chk (hc 2 (by decide) (by decide)) (e_let ?_)
  refine e_chk (hc 3 (by decide) (by decide)) (e_let ?_)
  refine e_chk (hc 4 (by decide) (by decide)) (e_let ?_)
  refine e_chk (hc 5 (by decide) (by decide)) (e_let ?_)
  refine e_chk (hc 6 (by decide) (by decide)) (e_let ?_)
  refine e_call e1 ?_
  refine e_chk (hc 1 (by decide) (by decide)) (e_let ?_)
  refine e_chk (hc 2 (by decide) (by decide)) (e_let ?_)
  refine e_chk (hc 3 (by decide) (by decide)) (e_let ?_)
  refine e_chk (hc 4 (by decide) (by decide)) (e_let ?_)
  refine e_chk (hc 5 (by decide) (by decide)) (e_let ?_)
  refine e_chk (hc 6 (by decide) (by decide)) (e_let ?_)
  refine e_call e2 ?_
  exact (if_pos e3).trans hr
theorem b_car {L : Nat} {sx : Nat → Int} {R : Int → Mem → Res} {a3 : Int} {M : Mem} (hx : ∀ j, I32 (sx j)) (hc : ∀ j : Int, 0 ≤ j → j ≤ 7 → 0 ≤ w32 (a3 + j) ∧ w32 (a3 + j) < (L : Int)) (hR : ∀ M2, Inv M2 → ∃ r : Int × Mem, R (a3 + 8) M2 = some r ∧ r.1 = 1) (h : Inv M) : ∃ r : Int × Mem, k_Lw_law_585 L sx R a3 M = some r ∧ r.1 = 1 := by
  obtain ⟨v, M1, w, M2, e1, e2, e3, e4, e5⟩ := in_car (a1 := (sx (ix (a3 + 1)))) (a2 := (sx (ix (a3 + 2)))) (a3 := (sx (ix (a3 + 3)))) (a4 := (sx (ix (a3 + 4)))) (a5 := (sx (ix (a3 + 5)))) (a6 := (sx (ix (a3 + 6)))) (a7 := (sx (ix (a3 + 7)))) (hx _) (hx _) (hx _) (hx _) (hx _) (hx _) (hx _) h
  obtain ⟨r, hr, h1⟩ := hR M2 e5
  refine ⟨r, ?_, h1⟩
  unfold k_Lw_law_585
  refine e_chk (hc 1 (by decide) (by decide)) (e_let ?_)
  refine e_chk (hc 2 (by decide) (by decide)) (e_let ?_)
  refine e_chk (hc 3 (by decide) (by decide)) (e_let ?_)
  refine e_chk (hc 4 (by decide) (by decide)) (e_let ?_)
  refine e_chk (hc 5 (by decide) (by decide)) (e_let ?_)
  refine e_chk (hc 6 (by decide) (by decide)) (e_let ?_)
  refine e_chk (hc 7 (by decide) (by decide)) (e_let ?_)
  refine e_call e1 ?_
  refine e_chk (hc 1 (by decide) (by decide)) (e_let ?_)
  refine e_chk (hc 2 (by decide) (by decide)) (e_let ?_)
  refine e_chk (hc 3 (by decide) (by decide)) (e_let ?_)
  refine e_chk (hc 4 (by decide) (by decide)) (e_let ?_)
  refine e_chk (hc 5 (by decide) (by decide)) (e_let ?_)
  refine e_chk (hc 6 (by decide) (by decide)) (e_let ?_)
  refine e_chk (hc 7 (by decide) (by decide)) (e_let ?_)
  refine e_call e2 ?_
  exact (if_pos e3).trans hr
theorem b_sale {L : Nat} {sx : Nat → Int} {R : Int → Mem → Res} {a3 : Int} {M : Mem} (hx : ∀ j, I32 (sx j)) (hc : ∀ j : Int, 0 ≤ j → j ≤ 7 → 0 ≤ w32 (a3 + j) ∧ w32 (a3 + j) < (L : Int)) (hR : ∀ M2, Inv M2 → ∃ r : Int × Mem, R (a3 + 8) M2 = some r ∧ r.1 = 1) (h : Inv M) : ∃ r : Int × Mem, k_Lw_law_672 L sx R a3 M = some r ∧ r.1 = 1 := by
  obtain ⟨v, M1, w, M2, e1, e2, e3, e4, e5⟩ := in_sale (a1 := (sx (ix (a3 + 1)))) (a2 := (sx (ix (a3 + 2)))) (a3 := (sx (ix (a3 + 3)))) (a4 := (sx (ix (a3 + 4)))) (a5 := (sx (ix (a3 + 5)))) (a6 := (sx (ix (a3 + 6)))) (a7 := (sx (ix (a3 + 7)))) (hx _) (hx _) (hx _) (hx _) (hx _) (hx _) (hx _) h
  obtain ⟨r, hr, h1⟩ := hR M2 e5
  refine ⟨r, ?_, h1⟩
  unfold k_Lw_law_672
  refine e_chk (hc 1 (by decide) (by decide)) (e_let ?_)
  refine e_chk (hc 2 (by decide) (by decide)) (e_let ?_)
  refine e_chk (hc 3 (by decide) (by decide)) (e_let ?_)
  refine e_chk (hc 4 (by decide) (by decide)) (e_let ?_)
  refine e_chk (hc 5 (by decide) (by decide)) (e_let ?_)
  refine e_chk (hc 6 (by decide) (by decide)) (e_let ?_)
  refine e_chk (hc 7 (by decide) (by decide)) (e_let ?_)
  refine e_call e1 ?_
  refine e_chk (hc 1 (by decide) (by decide)) (e_let ?_)
  refine e_chk (hc 2 (by decide) (by decide)) (e_let ?_)
  refine e_chk (hc 3 (by decide) (by decide)) (e_let ?_)
  refine e_chk (hc 4 (by decide) (by decide)) (e_let ?_)
  refine e_chk (hc 5 (by decide) (by decide)) (e_let ?_)
  refine e_chk (hc 6 (by decide) (by decide)) (e_let ?_)
  refine e_chk (hc 7 (by decide) (by decide)) (e_let ?_)
  refine e_call e2 ?_
  exact (if_pos e3).trans hr
theorem b_spoil {L : Nat} {sx : Nat → Int} {R : Int → Mem → Res} {a3 : Int} {M : Mem} (hx : ∀ j, I32 (sx j)) (hc : ∀ j : Int, 0 ≤ j → j ≤ 7 → 0 ≤ w32 (a3 + j) ∧ w32 (a3 + j) < (L : Int)) (hR : ∀ M2, Inv M2 → ∃ r : Int × Mem, R (a3 + 8) M2 = some r ∧ r.1 = 1) (h : Inv M) : ∃ r : Int × Mem, k_Lw_law_759 L sx R a3 M = some r ∧ r.1 = 1 := by
  obtain ⟨v, M1, w, M2, e1, e2, e3, e4, e5⟩ := in_spoil (a1 := (sx (ix (a3 + 1)))) (a2 := (sx (ix (a3 + 2)))) (a3 := (sx (ix (a3 + 3)))) (a4 := (sx (ix (a3 + 4)))) (a5 := (sx (ix (a3 + 5)))) (a6 := (sx (ix (a3 + 6)))) (hx _) (hx _) (hx _) (hx _) (hx _) (hx _) h
  obtain ⟨r, hr, h1⟩ := hR M2 e5
  refine ⟨r, ?_, h1⟩
  unfold k_Lw_law_759
  refine e_chk (hc 1 (by decide) (by decide)) (e_let ?_)
  refine e_chk (hc 2 (by decide) (by decide)) (e_let ?_)
  refine e_chk (hc 3 (by decide) (by decide)) (e_let ?_)
  refine e_chk (hc 4 (by decide) (by decide)) (e_let ?_)
  refine e_chk (hc 5 (by decide) (by decide)) (e_let ?_)
  refine e_chk (hc 6 (by decide) (by decide)) (e_let ?_)
  refine e_call e1 ?_
  refine e_chk (hc 1 (by decide) (by decide)) (e_let ?_)
  refine e_chk (hc 2 (by decide) (by decide)) (e_let ?_)
  refine e_chk (hc 3 (by decide) (by decide)) (e_let ?_)
  refine e_chk (hc 4 (by decide) (by decide)) (e_let ?_)
  refine e_chk (hc 5 (by decide) (by decide)) (e_let ?_)
  refine e_chk (hc 6 (by decide) (by decide)) (e_let ?_)
  refine e_call e2 ?_
  exact (if_pos e3).trans hr
theorem b_grading {L : Nat} {sx : Nat → Int} {R : Int → Mem → Res} {a3 : Int} {M : Mem} (hx : ∀ j, I32 (sx j)) (hc : ∀ j : Int, 0 ≤ j → j ≤ 7 → 0 ≤ w32 (a3 + j) ∧ w32 (a3 + j) < (L : Int)) (hR : ∀ M2, Inv M2 → ∃ r : Int × Mem, R (a3 + 8) M2 = some r ∧ r.1 = 1) (h : Inv M) : ∃ r : Int × Mem, k_Lw_law_834 L sx R a3 M = some r ∧ r.1 = 1 := by
  obtain ⟨v, M1, w, M2, e1, e2, e3, e4, e5⟩ := in_grading (a1 := (sx (ix (a3 + 1)))) (a2 := (sx (ix (a3 + 2)))) (a3 := (sx (ix (a3 + 3)))) (a4 := (sx (ix (a3 + 4)))) (hx _) (hx _) (hx _) (hx _) h
  obtain ⟨r, hr, h1⟩ := hR M2 e5
  refine ⟨r, ?_, h1⟩
  unfold k_Lw_law_834
  refine e_chk (hc 1 (by decide) (by decide)) (e_let ?_)
  refine e_chk (hc 2 (by decide) (by decide)) (e_let ?_)
  refine e_chk (hc 3 (by decide) (by decide)) (e_let ?_)
  refine e_chk (hc 4 (by decide) (by decide)) (e_let ?_)
  refine e_call e1 ?_
  refine e_chk (hc 1 (by decide) (by decide)) (e_let ?_)
  refine e_chk (hc 2 (by decide) (by decide)) (e_let ?_)
  refine e_chk (hc 3 (by decide) (by decide)) (e_let ?_)
  refine e_chk (hc 4 (by decide) (by decide)) (e_let ?_)
  refine e_call e2 ?_
  exact (if_pos e3).trans hr
theorem b_grade {L : Nat} {sx : Nat → Int} {R : Int → Mem → Res} {a3 : Int} {M : Mem} (hx : ∀ j, I32 (sx j)) (hc : ∀ j : Int, 0 ≤ j → j ≤ 7 → 0 ≤ w32 (a3 + j) ∧ w32 (a3 + j) < (L : Int)) (hR : ∀ M2, Inv M2 → ∃ r : Int × Mem, R (a3 + 8) M2 = some r ∧ r.1 = 1) (h : Inv M) : ∃ r : Int × Mem, k_Lw_law_887 L sx R a3 M = some r ∧ r.1 = 1 := by
  obtain ⟨v, M1, w, M2, e1, e2, e3, e4, e5⟩ := in_grade (a1 := (sx (ix (a3 + 1)))) (a2 := (sx (ix (a3 + 2)))) (hx _) (hx _) h
  obtain ⟨r, hr, h1⟩ := hR M2 e5
  refine ⟨r, ?_, h1⟩
  unfold k_Lw_law_887
  refine e_chk (hc 1 (by decide) (by decide)) (e_let ?_)
  refine e_chk (hc 2 (by decide) (by decide)) (e_let ?_)
  refine e_call e1 ?_
  refine e_chk (hc 1 (by decide) (by decide)) (e_let ?_)
  refine e_chk (hc 2 (by decide) (by decide)) (e_let ?_)
  refine e_call e2 ?_
  exact (if_pos e3).trans hr
theorem b_bin {L : Nat} {sx : Nat → Int} {R : Int → Mem → Res} {a3 : Int} {M : Mem} (hx : ∀ j, I32 (sx j)) (hc : ∀ j : Int, 0 ≤ j → j ≤ 7 → 0 ≤ w32 (a3 + j) ∧ w32 (a3 + j) < (L : Int)) (hR : ∀ M2, Inv M2 → ∃ r : Int × Mem, R (a3 + 8) M2 = some r ∧ r.1 = 1) (h : Inv M) : ∃ r : Int × Mem, k_Lw_law_920 L sx R a3 M = some r ∧ r.1 = 1 := by
  obtain ⟨v, M1, w, M2, e1, e2, e3, e4, e5⟩ := in_bin (a1 := (sx (ix (a3 + 1)))) (a2 := (sx (ix (a3 + 2)))) (a3 := (sx (ix (a3 + 3)))) (a4 := (sx (ix (a3 + 4)))) (a5 := (sx (ix (a3 + 5)))) (hx _) (hx _) (hx _) (hx _) (hx _) h
  obtain ⟨r, hr, h1⟩ := hR M2 e5
  refine ⟨r, ?_, h1⟩
  unfold k_Lw_law_920
  refine e_chk (hc 1 (by decide) (by decide)) (e_let ?_)
  refine e_chk (hc 2 (by decide) (by decide)) (e_let ?_)
  refine e_chk (hc 3 (by decide) (by decide)) (e_let ?_)
  refine e_chk (hc 4 (by decide) (by decide)) (e_let ?_)
  refine e_chk (hc 5 (by decide) (by decide)) (e_let ?_)
  refine e_call e1 ?_
  refine e_chk (hc 1 (by decide) (by decide)) (e_let ?_)
  refine e_chk (hc 2 (by decide) (by decide)) (e_let ?_)
  refine e_chk (hc 3 (by decide) (by decide)) (e_let ?_)
  refine e_chk (hc 4 (by decide) (by decide)) (e_let ?_)
  refine e_chk (hc 5 (by decide) (by decide)) (e_let ?_)
  refine e_call e2 ?_
  exact (if_pos e3).trans hr
theorem b_port {L : Nat} {sx : Nat → Int} {R : Int → Mem → Res} {a3 : Int} {M : Mem} (hx : ∀ j, I32 (sx j)) (hc : ∀ j : Int, 0 ≤ j → j ≤ 7 → 0 ≤ w32 (a3 + j) ∧ w32 (a3 + j) < (L : Int)) (hR : ∀ M2, Inv M2 → ∃ r : Int × Mem, R (a3 + 8) M2 = some r ∧ r.1 = 1) (h : Inv M) : ∃ r : Int × Mem, k_Lw_law_983 L sx R a3 M = some r ∧ r.1 = 1 := by
  obtain ⟨v, M1, w, M2, e1, e2, e3, e4, e5⟩ := in_port (a1 := (sx (ix (a3 + 1)))) (a2 := (sx (ix (a3 + 2)))) (a3 := (sx (ix (a3 + 3)))) (a4 := (sx (ix (a3 + 4)))) (a5 := (sx (ix (a3 + 5)))) (hx _) (hx _) (hx _) (hx _) (hx _) h
  obtain ⟨r, hr, h1⟩ := hR M2 e5
  refine ⟨r, ?_, h1⟩
  unfold k_Lw_law_983
  refine e_chk (hc 1 (by decide) (by decide)) (e_let ?_)
  refine e_chk (hc 2 (by decide) (by decide)) (e_let ?_)
  refine e_chk (hc 3 (by decide) (by decide)) (e_let ?_)
  refine e_chk (hc 4 (by decide) (by decide)) (e_let ?_)
  refine e_chk (hc 5 (by decide) (by decide)) (e_let ?_)
  refine e_call e1 ?_
  refine e_chk (hc 1 (by decide) (by decide)) (e_let ?_)
  refine e_chk (hc 2 (by decide) (by decide)) (e_let ?_)
  refine e_chk (hc 3 (by decide) (by decide)) (e_let ?_)
  refine e_chk (hc 4 (by decide) (by decide)) (e_let ?_)
  refine e_chk (hc 5 (by decide) (by decide)) (e_let ?_)
  refine e_call e2 ?_
  exact (if_pos e3).trans hr
theorem b_sum {L : Nat} {sx : Nat → Int} {R : Int → Mem → Res} {a3 : Int} {M : Mem} (hx : ∀ j, I32 (sx j)) (hc : ∀ j : Int, 0 ≤ j → j ≤ 7 → 0 ≤ w32 (a3 + j) ∧ w32 (a3 + j) < (L : Int)) (hR : ∀ M2, Inv M2 → ∃ r : Int × Mem, R (a3 + 8) M2 = some r ∧ r.1 = 1) (h : Inv M) : ∃ r : Int × Mem, k_Lw_law_1046 L sx R a3 M = some r ∧ r.1 = 1 := by
  obtain ⟨v, M1, w, M2, e1, e2, e3, e4, e5⟩ := in_sum (a1 := (sx (ix (a3 + 1)))) (a2 := (sx (ix (a3 + 2)))) (a3 := (sx (ix (a3 + 3)))) (hx _) (hx _) (hx _) h
  obtain ⟨r, hr, h1⟩ := hR M2 e5
  refine ⟨r, ?_, h1⟩
  unfold k_Lw_law_1046
  refine e_chk (hc 1 (by decide) (by decide)) (e_let ?_)
  refine e_chk (hc 2 (by decide) (by decide)) (e_let ?_)
  refine e_chk (hc 3 (by decide) (by decide)) (e_let ?_)
  refine e_call e1 ?_
  refine e_chk (hc 1 (by decide) (by decide)) (e_let ?_)
  refine e_chk (hc 2 (by decide) (by decide)) (e_let ?_)
  refine e_chk (hc 3 (by decide) (by decide)) (e_let ?_)
  refine e_call e2 ?_
  exact (if_pos e3).trans hr
theorem b_feed {L : Nat} {sx : Nat → Int} {R : Int → Mem → Res} {a3 : Int} {M : Mem} (hx : ∀ j, I32 (sx j)) (hc : ∀ j : Int, 0 ≤ j → j ≤ 7 → 0 ≤ w32 (a3 + j) ∧ w32 (a3 + j) < (L : Int)) (hR : ∀ M2, Inv M2 → ∃ r : Int × Mem, R (a3 + 8) M2 = some r ∧ r.1 = 1) (h : Inv M) : ∃ r : Int × Mem, k_Lw_law_1089 L sx R a3 M = some r ∧ r.1 = 1 := by
  obtain ⟨v, M1, w, M2, e1, e2, e3, e4, e5⟩ := in_feed (a := (sx (ix (a3 + 1)))) (b := (sx (ix (a3 + 2)))) (c := (sx (ix (a3 + 3)))) (d := (sx (ix (a3 + 4)))) (e := (sx (ix (a3 + 5))))  h
  obtain ⟨r, hr, h1⟩ := hR M2 e5
  refine ⟨r, ?_, h1⟩
  unfold k_Lw_law_1089
  refine e_chk (hc 1 (by decide) (by decide)) (e_let ?_)
  refine e_chk (hc 2 (by decide) (by decide)) (e_let ?_)
  refine e_chk (hc 3 (by decide) (by decide)) (e_let ?_)
  refine e_chk (hc 4 (by decide) (by decide)) (e_let ?_)
  refine e_chk (hc 5 (by decide) (by decide)) (e_let ?_)
  refine e_call e1 ?_
  refine e_chk (hc 1 (by decide) (by decide)) (e_let ?_)
  refine e_chk (hc 2 (by decide) (by decide)) (e_let ?_)
  refine e_chk (hc 3 (by decide) (by decide)) (e_let ?_)
  refine e_chk (hc 4 (by decide) (by decide)) (e_let ?_)
  refine e_chk (hc 5 (by decide) (by decide)) (e_let ?_)
  refine e_call e2 ?_
  exact (if_pos e3).trans hr
theorem b_acts {L : Nat} {sx : Nat → Int} {R : Int → Mem → Res} {a3 : Int} {M : Mem} (hx : ∀ j, I32 (sx j)) (hc : ∀ j : Int, 0 ≤ j → j ≤ 7 → 0 ≤ w32 (a3 + j) ∧ w32 (a3 + j) < (L : Int)) (hR : ∀ M2, Inv M2 → ∃ r : Int × Mem, R (a3 + 8) M2 = some r ∧ r.1 = 1) (h : Inv M) : ∃ r : Int × Mem, k_Lw_law_1152 L sx R a3 M = some r ∧ r.1 = 1 := by
  obtain ⟨v, M1, w, M2, e1, e2, e3, e4, e5⟩ := in_acts (a1 := (sx (ix (a3 + 1)))) (a2 := (sx (ix (a3 + 2)))) (hx _) (hx _) h
  obtain ⟨r, hr, h1⟩ := hR M2 e5
  refine ⟨r, ?_, h1⟩
  unfold k_Lw_law_1152
  refine e_chk (hc 1 (by decide) (by decide)) (e_let ?_)
  refine e_chk (hc 2 (by decide) (by decide)) (e_let ?_)
  refine e_call e1 ?_
  refine e_chk (hc 1 (by decide) (by decide)) (e_let ?_)
  refine e_chk (hc 2 (by decide) (by decide)) (e_let ?_)
  refine e_call e2 ?_
  exact (if_pos e3).trans hr
theorem b_fault {L : Nat} {sx : Nat → Int} {R : Int → Mem → Res} {a3 : Int} {M : Mem} (hx : ∀ j, I32 (sx j)) (hc : ∀ j : Int, 0 ≤ j → j ≤ 7 → 0 ≤ w32 (a3 + j) ∧ w32 (a3 + j) < (L : Int)) (hR : ∀ M2, Inv M2 → ∃ r : Int × Mem, R (a3 + 8) M2 = some r ∧ r.1 = 1) (h : Inv M) : ∃ r : Int × Mem, k_Lw_law_1185 L sx R a3 M = some r ∧ r.1 = 1 := by
  obtain ⟨v, M1, w, M2, e1, e2, e3, e4, e5⟩ := in_fault (a1 := (sx (ix (a3 + 1))))  h
  obtain ⟨r, hr, h1⟩ := hR M2 e5
  refine ⟨r, ?_, h1⟩
  unfold k_Lw_law_1185
  refine e_chk (hc 1 (by decide) (by decide)) (e_let ?_)
  refine e_call e1 ?_
  refine e_chk (hc 1 (by decide) (by decide)) (e_let ?_)
  refine e_call e2 ?_
  exact (if_pos e3).trans hr
theorem b_paid {L : Nat} {sx : Nat → Int} {R : Int → Mem → Res} {a3 : Int} {M : Mem} (hx : ∀ j, I32 (sx j)) (hc : ∀ j : Int, 0 ≤ j → j ≤ 7 → 0 ≤ w32 (a3 + j) ∧ w32 (a3 + j) < (L : Int)) (hR : ∀ M2, Inv M2 → ∃ r : Int × Mem, R (a3 + 8) M2 = some r ∧ r.1 = 1) (h : Inv M) : ∃ r : Int × Mem, k_Lw_law_1208 L sx R a3 M = some r ∧ r.1 = 1 := by
  obtain ⟨v, M1, w, M2, e1, e2, e3, e4, e5⟩ := in_paid (a1 := (sx (ix (a3 + 1)))) (a2 := (sx (ix (a3 + 2)))) (a3 := (sx (ix (a3 + 3)))) (a4 := (sx (ix (a3 + 4)))) (hx _) (hx _) (hx _) (hx _) h
  obtain ⟨r, hr, h1⟩ := hR M2 e5
  refine ⟨r, ?_, h1⟩
  unfold k_Lw_law_1208
  refine e_chk (hc 1 (by decide) (by decide)) (e_let ?_)
  refine e_chk (hc 2 (by decide) (by decide)) (e_let ?_)
  refine e_chk (hc 3 (by decide) (by decide)) (e_let ?_)
  refine e_chk (hc 4 (by decide) (by decide)) (e_let ?_)
  refine e_call e1 ?_
  refine e_chk (hc 1 (by decide) (by decide)) (e_let ?_)
  refine e_chk (hc 2 (by decide) (by decide)) (e_let ?_)
  refine e_chk (hc 3 (by decide) (by decide)) (e_let ?_)
  refine e_chk (hc 4 (by decide) (by decide)) (e_let ?_)
  refine e_call e2 ?_
  exact (if_pos e3).trans hr
theorem b_last {L : Nat} {sx : Nat → Int} {R : Int → Mem → Res} {a3 : Int} {M : Mem} (hx : ∀ j, I32 (sx j)) (hc : ∀ j : Int, 0 ≤ j → j ≤ 7 → 0 ≤ w32 (a3 + j) ∧ w32 (a3 + j) < (L : Int)) (hR : ∀ M2, Inv M2 → ∃ r : Int × Mem, R (a3 + 8) M2 = some r ∧ r.1 = 1) (h : Inv M) : ∃ r : Int × Mem, k_Lw_law_1262 L sx R a3 M = some r ∧ r.1 = 1 := by
  obtain ⟨v, M1, w, M2, e1, e2, e3, e4, e5⟩ := in_last (a1 := (sx (ix (a3 + 1)))) (a2 := (sx (ix (a3 + 2)))) (a3 := (sx (ix (a3 + 3)))) (hx _) (hx _) (hx _) h
  obtain ⟨r, hr, h1⟩ := hR M2 e5
  refine ⟨r, ?_, h1⟩
  unfold k_Lw_law_1262
  refine e_chk (hc 1 (by decide) (by decide)) (e_let ?_)
  refine e_chk (hc 2 (by decide) (by decide)) (e_let ?_)
  refine e_chk (hc 3 (by decide) (by decide)) (e_let ?_)
  refine e_call e1 ?_
  refine e_chk (hc 1 (by decide) (by decide)) (e_let ?_)
  refine e_chk (hc 2 (by decide) (by decide)) (e_let ?_)
  refine e_chk (hc 3 (by decide) (by decide)) (e_let ?_)
  refine e_call e2 ?_
  exact (if_pos e3).trans hr
theorem b_first {L : Nat} {sx : Nat → Int} {R : Int → Mem → Res} {a3 : Int} {M : Mem} (hx : ∀ j, I32 (sx j)) (hc : ∀ j : Int, 0 ≤ j → j ≤ 7 → 0 ≤ w32 (a3 + j) ∧ w32 (a3 + j) < (L : Int)) (hR : ∀ M2, Inv M2 → ∃ r : Int × Mem, R (a3 + 8) M2 = some r ∧ r.1 = 1) (h : Inv M) : ∃ r : Int × Mem, k_Lw_law_1306 L sx R a3 M = some r ∧ r.1 = 1 := by
  obtain ⟨v, M1, w, M2, e1, e2, e3, e4, e5⟩ := in_first (a1 := (sx (ix (a3 + 1)))) (a2 := (sx (ix (a3 + 2)))) (a3 := (sx (ix (a3 + 3)))) (hx _) (hx _) (hx _) h
  obtain ⟨r, hr, h1⟩ := hR M2 e5
  refine ⟨r, ?_, h1⟩
  unfold k_Lw_law_1306
  refine e_chk (hc 1 (by decide) (by decide)) (e_let ?_)
  refine e_chk (hc 2 (by decide) (by decide)) (e_let ?_)
  refine e_chk (hc 3 (by decide) (by decide)) (e_let ?_)
  refine e_call e1 ?_
  refine e_chk (hc 1 (by decide) (by decide)) (e_let ?_)
  refine e_chk (hc 2 (by decide) (by decide)) (e_let ?_)
  refine e_chk (hc 3 (by decide) (by decide)) (e_let ?_)
  refine e_call e2 ?_
  exact (if_pos e3).trans hr
theorem b_below {L : Nat} {sx : Nat → Int} {R : Int → Mem → Res} {a3 : Int} {M : Mem} (hx : ∀ j, I32 (sx j)) (hc : ∀ j : Int, 0 ≤ j → j ≤ 7 → 0 ≤ w32 (a3 + j) ∧ w32 (a3 + j) < (L : Int)) (hR : ∀ M2, Inv M2 → ∃ r : Int × Mem, R (a3 + 8) M2 = some r ∧ r.1 = 1) (h : Inv M) : ∃ r : Int × Mem, k_Lw_law_1350 L sx R a3 M = some r ∧ r.1 = 1 := by
  obtain ⟨v, M1, w, M2, e1, e2, e3, e4, e5⟩ := in_below (a1 := (sx (ix (a3 + 1)))) (a2 := (sx (ix (a3 + 2)))) (a3 := (sx (ix (a3 + 3)))) (hx _) (hx _) (hx _) h
  obtain ⟨r, hr, h1⟩ := hR M2 e5
  refine ⟨r, ?_, h1⟩
  unfold k_Lw_law_1350
  refine e_chk (hc 1 (by decide) (by decide)) (e_let ?_)
  refine e_chk (hc 2 (by decide) (by decide)) (e_let ?_)
  refine e_chk (hc 3 (by decide) (by decide)) (e_let ?_)
  refine e_call e1 ?_
  refine e_chk (hc 1 (by decide) (by decide)) (e_let ?_)
  refine e_chk (hc 2 (by decide) (by decide)) (e_let ?_)
  refine e_chk (hc 3 (by decide) (by decide)) (e_let ?_)
  refine e_call e2 ?_
  exact (if_pos e3).trans hr
theorem b_owed {L : Nat} {sx : Nat → Int} {R : Int → Mem → Res} {a3 : Int} {M : Mem} (hx : ∀ j, I32 (sx j)) (hc : ∀ j : Int, 0 ≤ j → j ≤ 7 → 0 ≤ w32 (a3 + j) ∧ w32 (a3 + j) < (L : Int)) (hR : ∀ M2, Inv M2 → ∃ r : Int × Mem, R (a3 + 8) M2 = some r ∧ r.1 = 1) (h : Inv M) : ∃ r : Int × Mem, k_Lw_law_1394 L sx R a3 M = some r ∧ r.1 = 1 := by
  obtain ⟨v, M1, w, M2, e1, e2, e3, e4, e5⟩ := in_owed (a1 := (sx (ix (a3 + 1)))) (a2 := (sx (ix (a3 + 2)))) (a3 := (sx (ix (a3 + 3)))) (hx _) (hx _) (hx _) h
  obtain ⟨r, hr, h1⟩ := hR M2 e5
  refine ⟨r, ?_, h1⟩
  unfold k_Lw_law_1394
  refine e_chk (hc 1 (by decide) (by decide)) (e_let ?_)
  refine e_chk (hc 2 (by decide) (by decide)) (e_let ?_)
  refine e_chk (hc 3 (by decide) (by decide)) (e_let ?_)
  refine e_call e1 ?_
  refine e_chk (hc 1 (by decide) (by decide)) (e_let ?_)
  refine e_chk (hc 2 (by decide) (by decide)) (e_let ?_)
  refine e_chk (hc 3 (by decide) (by decide)) (e_let ?_)
  refine e_call e2 ?_
  exact (if_pos e3).trans hr
theorem b_turns {L : Nat} {sx : Nat → Int} {R : Int → Mem → Res} {a3 : Int} {M : Mem} (hx : ∀ j, I32 (sx j)) (hc : ∀ j : Int, 0 ≤ j → j ≤ 7 → 0 ≤ w32 (a3 + j) ∧ w32 (a3 + j) < (L : Int)) (hR : ∀ M2, Inv M2 → ∃ r : Int × Mem, R (a3 + 8) M2 = some r ∧ r.1 = 1) (h : Inv M) : ∃ r : Int × Mem, k_Lw_law_1438 L sx R a3 M = some r ∧ r.1 = 1 := by
  obtain ⟨v, M1, w, M2, e1, e2, e3, e4, e5⟩ := in_turns (a1 := (sx (ix (a3 + 1)))) (a2 := (sx (ix (a3 + 2)))) (a3 := (sx (ix (a3 + 3)))) (hx _) (hx _) (hx _) h
  obtain ⟨r, hr, h1⟩ := hR M2 e5
  refine ⟨r, ?_, h1⟩
  unfold k_Lw_law_1438
  refine e_chk (hc 1 (by decide) (by decide)) (e_let ?_)
  refine e_chk (hc 2 (by decide) (by decide)) (e_let ?_)
  refine e_chk (hc 3 (by decide) (by decide)) (e_let ?_)
  refine e_call e1 ?_
  refine e_chk (hc 1 (by decide) (by decide)) (e_let ?_)
  refine e_chk (hc 2 (by decide) (by decide)) (e_let ?_)
  refine e_chk (hc 3 (by decide) (by decide)) (e_let ?_)
  refine e_call e2 ?_
  exact (if_pos e3).trans hr
theorem b_sign {L : Nat} {sx : Nat → Int} {R : Int → Mem → Res} {a3 : Int} {M : Mem} (hx : ∀ j, I32 (sx j)) (hc : ∀ j : Int, 0 ≤ j → j ≤ 7 → 0 ≤ w32 (a3 + j) ∧ w32 (a3 + j) < (L : Int)) (hR : ∀ M2, Inv M2 → ∃ r : Int × Mem, R (a3 + 8) M2 = some r ∧ r.1 = 1) (h : Inv M) : ∃ r : Int × Mem, k_Lw_law_1481 L sx R a3 M = some r ∧ r.1 = 1 := by
  obtain ⟨v, M1, w, M2, e1, e2, e3, e4, e5⟩ := in_sign (a1 := (sx (ix (a3 + 1)))) (a2 := (sx (ix (a3 + 2)))) (a3 := (sx (ix (a3 + 3)))) (hx _) (hx _) (hx _) h
  obtain ⟨r, hr, h1⟩ := hR M2 e5
  refine ⟨r, ?_, h1⟩
  unfold k_Lw_law_1481
  refine e_chk (hc 1 (by decide) (by decide)) (e_let ?_)
  refine e_chk (hc 2 (by decide) (by decide)) (e_let ?_)
  refine e_chk (hc 3 (by decide) (by decide)) (e_let ?_)
  refine e_call e1 ?_
  refine e_chk (hc 1 (by decide) (by decide)) (e_let ?_)
  refine e_chk (hc 2 (by decide) (by decide)) (e_let ?_)
  refine e_chk (hc 3 (by decide) (by decide)) (e_let ?_)
  refine e_call e2 ?_
  exact (if_pos e3).trans hr
theorem b_let {L : Nat} {sx : Nat → Int} {R : Int → Mem → Res} {a3 : Int} {M : Mem} (hx : ∀ j, I32 (sx j)) (hc : ∀ j : Int, 0 ≤ j → j ≤ 7 → 0 ≤ w32 (a3 + j) ∧ w32 (a3 + j) < (L : Int)) (hR : ∀ M2, Inv M2 → ∃ r : Int × Mem, R (a3 + 8) M2 = some r ∧ r.1 = 1) (h : Inv M) : ∃ r : Int × Mem, k_Lw_law_1524 L sx R a3 M = some r ∧ r.1 = 1 := by
  by_cases q : w32 (sx (ix (a3 + 3))) = 0
  · obtain ⟨v, M1, w, M2, e1, e2, e3, e4, e5⟩ := in_let (a1 := sx (ix (a3 + 1))) (a2 := sx (ix (a3 + 2))) (a3 := 0) (hx _) (hx _) h
    obtain ⟨r, hr, h1⟩ := hR M2 e5
    refine ⟨r, ?_, h1⟩
    unfold k_Lw_law_1524
    refine e_chk (hc 1 (by decide) (by decide)) (e_let ?_)
    refine e_chk (hc 2 (by decide) (by decide)) (e_let ?_)
    refine e_chk (hc 3 (by decide) (by decide)) (e_let ?_)
    refine (if_pos q).trans ?_
    unfold k_Lw_law_1548
    refine e_call e1 ?_
    refine e_chk (hc 1 (by decide) (by decide)) (e_let ?_)
    refine e_chk (hc 2 (by decide) (by decide)) (e_let ?_)
    refine e_chk (hc 3 (by decide) (by decide)) (e_let ?_)
    refine (if_pos q).trans ?_
    unfold k_Lw_law_1575
    refine e_call e2 ?_
    exact (if_pos e3).trans hr
  · obtain ⟨v, M1, w, M2, e1, e2, e3, e4, e5⟩ := in_let (a1 := sx (ix (a3 + 1))) (a2 := sx (ix (a3 + 2))) (a3 := 1) (hx _) (hx _) h
    obtain ⟨r, hr, h1⟩ := hR M2 e5
    refine ⟨r, ?_, h1⟩
    unfold k_Lw_law_1524
    refine e_chk (hc 1 (by decide) (by decide)) (e_let ?_)
    refine e_chk (hc 2 (by decide) (by decide)) (e_let ?_)
    refine e_chk (hc 3 (by decide) (by decide)) (e_let ?_)
    refine (if_neg q).trans ?_
    unfold k_Lw_law_1548
    refine e_call e1 ?_
    refine e_chk (hc 1 (by decide) (by decide)) (e_let ?_)
    refine e_chk (hc 2 (by decide) (by decide)) (e_let ?_)
    refine e_chk (hc 3 (by decide) (by decide)) (e_let ?_)
    refine (if_neg q).trans ?_
    unfold k_Lw_law_1575
    refine e_call e2 ?_
    exact (if_pos e3).trans hr
theorem b_outside {L : Nat} {sx : Nat → Int} {R : Int → Mem → Res} {a3 : Int} {M : Mem} (hx : ∀ j, I32 (sx j)) (hc : ∀ j : Int, 0 ≤ j → j ≤ 7 → 0 ≤ w32 (a3 + j) ∧ w32 (a3 + j) < (L : Int)) (hR : ∀ M2, Inv M2 → ∃ r : Int × Mem, R (a3 + 8) M2 = some r ∧ r.1 = 1) (h : Inv M) : ∃ r : Int × Mem, k_Lw_law_1583 L sx R a3 M = some r ∧ r.1 = 1 := by
  obtain ⟨v, M1, w, M2, e1, e2, e3, e4, e5⟩ := in_outside (a1 := (sx (ix (a3 + 1)))) (a2 := (sx (ix (a3 + 2)))) (a3 := (sx (ix (a3 + 3)))) (a4 := (sx (ix (a3 + 4)))) (hx _) (hx _) (hx _) (hx _) h
  obtain ⟨r, hr, h1⟩ := hR M2 e5
  refine ⟨r, ?_, h1⟩
  unfold k_Lw_law_1583
  refine e_chk (hc 1 (by decide) (by decide)) (e_let ?_)
  refine e_chk (hc 2 (by decide) (by decide)) (e_let ?_)
  refine e_chk (hc 3 (by decide) (by decide)) (e_let ?_)
  refine e_chk (hc 4 (by decide) (by decide)) (e_let ?_)
  refine e_call e1 ?_
  refine e_chk (hc 1 (by decide) (by decide)) (e_let ?_)
  refine e_chk (hc 2 (by decide) (by decide)) (e_let ?_)
  refine e_chk (hc 3 (by decide) (by decide)) (e_let ?_)
  refine e_chk (hc 4 (by decide) (by decide)) (e_let ?_)
  refine e_call e2 ?_
  exact (if_pos e3).trans hr
theorem b_breach {L : Nat} {sx : Nat → Int} {R : Int → Mem → Res} {a3 : Int} {M : Mem} (hx : ∀ j, I32 (sx j)) (hc : ∀ j : Int, 0 ≤ j → j ≤ 7 → 0 ≤ w32 (a3 + j) ∧ w32 (a3 + j) < (L : Int)) (hR : ∀ M2, Inv M2 → ∃ r : Int × Mem, R (a3 + 8) M2 = some r ∧ r.1 = 1) (h : Inv M) : ∃ r : Int × Mem, k_Lw_law_1636 L sx R a3 M = some r ∧ r.1 = 1 := by
  obtain ⟨v, M1, w, M2, e1, e2, e3, e4, e5⟩ := in_breach (a1 := (sx (ix (a3 + 1)))) (hx _) h
  obtain ⟨r, hr, h1⟩ := hR M2 e5
  refine ⟨r, ?_, h1⟩
  unfold k_Lw_law_1636
  refine e_chk (hc 1 (by decide) (by decide)) (e_let ?_)
  refine e_call e1 ?_
  refine e_chk (hc 1 (by decide) (by decide)) (e_let ?_)
  refine e_call e2 ?_
  exact (if_pos e3).trans hr
theorem b_cost {L : Nat} {sx : Nat → Int} {R : Int → Mem → Res} {a3 : Int} {M : Mem} (hx : ∀ j, I32 (sx j)) (hc : ∀ j : Int, 0 ≤ j → j ≤ 7 → 0 ≤ w32 (a3 + j) ∧ w32 (a3 + j) < (L : Int)) (hR : ∀ M2, Inv M2 → ∃ r : Int × Mem, R (a3 + 8) M2 = some r ∧ r.1 = 1) (h : Inv M) : ∃ r : Int × Mem, k_Lw_law_1659 L sx R a3 M = some r ∧ r.1 = 1 := by
  obtain ⟨v, M1, w, M2, e1, e2, e3, e4, e5⟩ := in_cost (a1 := (sx (ix (a3 + 1)))) (a2 := (sx (ix (a3 + 2)))) (hx _) (hx _) h
  obtain ⟨r, hr, h1⟩ := hR M2 e5
  refine ⟨r, ?_, h1⟩
  unfold k_Lw_law_1659
  refine e_chk (hc 1 (by decide) (by decide)) (e_let ?_)
  refine e_chk (hc 2 (by decide) (by decide)) (e_let ?_)
  refine e_call e1 ?_
  refine e_chk (hc 1 (by decide) (by decide)) (e_let ?_)
  refine e_chk (hc 2 (by decide) (by decide)) (e_let ?_)
  refine e_call e2 ?_
  exact (if_pos e3).trans hr
theorem b_price {L : Nat} {sx : Nat → Int} {R : Int → Mem → Res} {a3 : Int} {M : Mem} (hx : ∀ j, I32 (sx j)) (hc : ∀ j : Int, 0 ≤ j → j ≤ 7 → 0 ≤ w32 (a3 + j) ∧ w32 (a3 + j) < (L : Int)) (hR : ∀ M2, Inv M2 → ∃ r : Int × Mem, R (a3 + 8) M2 = some r ∧ r.1 = 1) (h : Inv M) : ∃ r : Int × Mem, k_Lw_law_1693 L sx R a3 M = some r ∧ r.1 = 1 := by
  obtain ⟨v, M1, w, M2, e1, e2, e3, e4, e5⟩ := in_price (a1 := (sx (ix (a3 + 1)))) (a2 := (sx (ix (a3 + 2)))) (hx _) (hx _) h
  obtain ⟨r, hr, h1⟩ := hR M2 e5
  refine ⟨r, ?_, h1⟩
  unfold k_Lw_law_1693
  refine e_chk (hc 1 (by decide) (by decide)) (e_let ?_)
  refine e_chk (hc 2 (by decide) (by decide)) (e_let ?_)
  refine e_call e1 ?_
  refine e_chk (hc 1 (by decide) (by decide)) (e_let ?_)
  refine e_chk (hc 2 (by decide) (by decide)) (e_let ?_)
  refine e_call e2 ?_
  exact (if_pos e3).trans hr
theorem b_rules {L : Nat} {sx : Nat → Int} {R : Int → Mem → Res} {a3 : Int} {M : Mem} (hx : ∀ j, I32 (sx j)) (hc : ∀ j : Int, 0 ≤ j → j ≤ 7 → 0 ≤ w32 (a3 + j) ∧ w32 (a3 + j) < (L : Int)) (hR : ∀ M2, Inv M2 → ∃ r : Int × Mem, R (a3 + 8) M2 = some r ∧ r.1 = 1) (h : Inv M) : ∃ r : Int × Mem, k_Lw_law_1726 L sx R a3 M = some r ∧ r.1 = 1 := by
  obtain ⟨v, M1, w, M2, e1, e2, e3, e4, e5⟩ := in_rules (a1 := (sx (ix (a3 + 1)))) (a2 := (sx (ix (a3 + 2)))) (hx _) (hx _) h
  obtain ⟨r, hr, h1⟩ := hR M2 e5
  refine ⟨r, ?_, h1⟩
  unfold k_Lw_law_1726
  refine e_chk (hc 1 (by decide) (by decide)) (e_let ?_)
  refine e_chk (hc 2 (by decide) (by decide)) (e_let ?_)
  refine e_call e1 ?_
  refine e_chk (hc 1 (by decide) (by decide)) (e_let ?_)
  refine e_chk (hc 2 (by decide) (by decide)) (e_let ?_)
  refine e_call e2 ?_
  exact (if_pos e3).trans hr
theorem b_alone {L : Nat} {sx : Nat → Int} {R : Int → Mem → Res} {a3 : Int} {M : Mem} (hx : ∀ j, I32 (sx j)) (hc : ∀ j : Int, 0 ≤ j → j ≤ 7 → 0 ≤ w32 (a3 + j) ∧ w32 (a3 + j) < (L : Int)) (hR : ∀ M2, Inv M2 → ∃ r : Int × Mem, R (a3 + 8) M2 = some r ∧ r.1 = 1) (h : Inv M) : ∃ r : Int × Mem, k_Lw_law_1759 L sx R a3 M = some r ∧ r.1 = 1 := by
  obtain ⟨v, M1, w, M2, e1, e2, e3, e4, e5⟩ := in_alone (a1 := (sx (ix (a3 + 1)))) (a2 := (sx (ix (a3 + 2)))) (a3 := (sx (ix (a3 + 3)))) (hx _) (hx _) (hx _) h
  obtain ⟨r, hr, h1⟩ := hR M2 e5
  refine ⟨r, ?_, h1⟩
  unfold k_Lw_law_1759
  refine e_chk (hc 1 (by decide) (by decide)) (e_let ?_)
  refine e_chk (hc 2 (by decide) (by decide)) (e_let ?_)
  refine e_chk (hc 3 (by decide) (by decide)) (e_let ?_)
  refine e_call e1 ?_
  refine e_chk (hc 1 (by decide) (by decide)) (e_let ?_)
  refine e_chk (hc 2 (by decide) (by decide)) (e_let ?_)
  refine e_chk (hc 3 (by decide) (by decide)) (e_let ?_)
  refine e_call e2 ?_
  exact (if_pos e3).trans hr
theorem b_more {L : Nat} {sx : Nat → Int} {R : Int → Mem → Res} {a3 : Int} {M : Mem} (hx : ∀ j, I32 (sx j)) (hc : ∀ j : Int, 0 ≤ j → j ≤ 7 → 0 ≤ w32 (a3 + j) ∧ w32 (a3 + j) < (L : Int)) (hR : ∀ M2, Inv M2 → ∃ r : Int × Mem, R (a3 + 8) M2 = some r ∧ r.1 = 1) (h : Inv M) : ∃ r : Int × Mem, k_Lw_law_1803 L sx R a3 M = some r ∧ r.1 = 1 := by
  obtain ⟨v, M1, w, M2, e1, e2, e3, e4, e5⟩ := in_more (a1 := (sx (ix (a3 + 1)))) (a2 := (sx (ix (a3 + 2)))) (hx _) (hx _) h
  obtain ⟨r, hr, h1⟩ := hR M2 e5
  refine ⟨r, ?_, h1⟩
  unfold k_Lw_law_1803
  refine e_chk (hc 1 (by decide) (by decide)) (e_let ?_)
  refine e_chk (hc 2 (by decide) (by decide)) (e_let ?_)
  refine e_call e1 ?_
  refine e_chk (hc 1 (by decide) (by decide)) (e_let ?_)
  refine e_chk (hc 2 (by decide) (by decide)) (e_let ?_)
  refine e_call e2 ?_
  exact (if_pos e3).trans hr
theorem b_vote {L : Nat} {sx : Nat → Int} {R : Int → Mem → Res} {a3 : Int} {M : Mem} (hx : ∀ j, I32 (sx j)) (hc : ∀ j : Int, 0 ≤ j → j ≤ 7 → 0 ≤ w32 (a3 + j) ∧ w32 (a3 + j) < (L : Int)) (hR : ∀ M2, Inv M2 → ∃ r : Int × Mem, R (a3 + 8) M2 = some r ∧ r.1 = 1) (h : Inv M) : ∃ r : Int × Mem, k_Lw_law_1836 L sx R a3 M = some r ∧ r.1 = 1 := by
  obtain ⟨v, M1, w, M2, e1, e2, e3, e4, e5⟩ := in_vote (a1 := (sx (ix (a3 + 1)))) (a2 := (sx (ix (a3 + 2)))) (hx _) (hx _) h
  obtain ⟨r, hr, h1⟩ := hR M2 e5
  refine ⟨r, ?_, h1⟩
  unfold k_Lw_law_1836
  refine e_chk (hc 1 (by decide) (by decide)) (e_let ?_)
  refine e_chk (hc 2 (by decide) (by decide)) (e_let ?_)
  refine e_call e1 ?_
  refine e_chk (hc 1 (by decide) (by decide)) (e_let ?_)
  refine e_chk (hc 2 (by decide) (by decide)) (e_let ?_)
  refine e_call e2 ?_
  exact (if_pos e3).trans hr
theorem b_result {L : Nat} {sx : Nat → Int} {R : Int → Mem → Res} {a3 : Int} {M : Mem} (hx : ∀ j, I32 (sx j)) (hc : ∀ j : Int, 0 ≤ j → j ≤ 7 → 0 ≤ w32 (a3 + j) ∧ w32 (a3 + j) < (L : Int)) (hR : ∀ M2, Inv M2 → ∃ r : Int × Mem, R (a3 + 8) M2 = some r ∧ r.1 = 1) (h : Inv M) : ∃ r : Int × Mem, k_Lw_law_1869 L sx R a3 M = some r ∧ r.1 = 1 := by
  obtain ⟨v, M1, w, M2, e1, e2, e3, e4, e5⟩ := in_result (a1 := (sx (ix (a3 + 1)))) (a2 := (sx (ix (a3 + 2)))) (hx _) (hx _) h
  obtain ⟨r, hr, h1⟩ := hR M2 e5
  refine ⟨r, ?_, h1⟩
  unfold k_Lw_law_1869
  refine e_chk (hc 1 (by decide) (by decide)) (e_let ?_)
  refine e_chk (hc 2 (by decide) (by decide)) (e_let ?_)
  refine e_call e1 ?_
  refine e_chk (hc 1 (by decide) (by decide)) (e_let ?_)
  refine e_chk (hc 2 (by decide) (by decide)) (e_let ?_)
  refine e_call e2 ?_
  exact (if_pos e3).trans hr
theorem b_hangs {L : Nat} {sx : Nat → Int} {R : Int → Mem → Res} {a3 : Int} {M : Mem} (hx : ∀ j, I32 (sx j)) (hc : ∀ j : Int, 0 ≤ j → j ≤ 7 → 0 ≤ w32 (a3 + j) ∧ w32 (a3 + j) < (L : Int)) (hR : ∀ M2, Inv M2 → ∃ r : Int × Mem, R (a3 + 8) M2 = some r ∧ r.1 = 1) (h : Inv M) : ∃ r : Int × Mem, k_Lw_law_1902 L sx R a3 M = some r ∧ r.1 = 1 := by
  obtain ⟨v, M1, w, M2, e1, e2, e3, e4, e5⟩ := in_hangs (a1 := (sx (ix (a3 + 1)))) (hx _) h
  obtain ⟨r, hr, h1⟩ := hR M2 e5
  refine ⟨r, ?_, h1⟩
  unfold k_Lw_law_1902
  refine e_chk (hc 1 (by decide) (by decide)) (e_let ?_)
  refine e_call e1 ?_
  refine e_chk (hc 1 (by decide) (by decide)) (e_let ?_)
  refine e_call e2 ?_
  exact (if_pos e3).trans hr
theorem b_warm {L : Nat} {sx : Nat → Int} {R : Int → Mem → Res} {a3 : Int} {M : Mem} (hx : ∀ j, I32 (sx j)) (hc : ∀ j : Int, 0 ≤ j → j ≤ 7 → 0 ≤ w32 (a3 + j) ∧ w32 (a3 + j) < (L : Int)) (hR : ∀ M2, Inv M2 → ∃ r : Int × Mem, R (a3 + 8) M2 = some r ∧ r.1 = 1) (h : Inv M) : ∃ r : Int × Mem, k_Lw_law_1925 L sx R a3 M = some r ∧ r.1 = 1 := by
  obtain ⟨v, M1, w, M2, e1, e2, e3, e4, e5⟩ := in_warm (a1 := (sx (ix (a3 + 1)))) (a2 := (sx (ix (a3 + 2)))) (a3 := (sx (ix (a3 + 3)))) (hx _) (hx _) (hx _) h
  obtain ⟨r, hr, h1⟩ := hR M2 e5
  refine ⟨r, ?_, h1⟩
  unfold k_Lw_law_1925
  refine e_chk (hc 1 (by decide) (by decide)) (e_let ?_)
  refine e_chk (hc 2 (by decide) (by decide)) (e_let ?_)
  refine e_chk (hc 3 (by decide) (by decide)) (e_let ?_)
  refine e_call e1 ?_
  refine e_chk (hc 1 (by decide) (by decide)) (e_let ?_)
  refine e_chk (hc 2 (by decide) (by decide)) (e_let ?_)
  refine e_chk (hc 3 (by decide) (by decide)) (e_let ?_)
  refine e_call e2 ?_
  exact (if_pos e3).trans hr
theorem b_turned {L : Nat} {sx : Nat → Int} {R : Int → Mem → Res} {a3 : Int} {M : Mem} (hx : ∀ j, I32 (sx j)) (hc : ∀ j : Int, 0 ≤ j → j ≤ 7 → 0 ≤ w32 (a3 + j) ∧ w32 (a3 + j) < (L : Int)) (hR : ∀ M2, Inv M2 → ∃ r : Int × Mem, R (a3 + 8) M2 = some r ∧ r.1 = 1) (h : Inv M) : ∃ r : Int × Mem, k_Lw_law_1968 L sx R a3 M = some r ∧ r.1 = 1 := by
  obtain ⟨v, M1, w, M2, e1, e2, e3, e4, e5⟩ := in_turned (a1 := (sx (ix (a3 + 1)))) (hx _) h
  obtain ⟨r, hr, h1⟩ := hR M2 e5
  refine ⟨r, ?_, h1⟩
  unfold k_Lw_law_1968
  refine e_chk (hc 1 (by decide) (by decide)) (e_let ?_)
  refine e_call e1 ?_
  refine e_chk (hc 1 (by decide) (by decide)) (e_let ?_)
  refine e_call e2 ?_
  exact (if_pos e3).trans hr
theorem b_send {L : Nat} {sx : Nat → Int} {R : Int → Mem → Res} {a3 : Int} {M : Mem} (hx : ∀ j, I32 (sx j)) (hc : ∀ j : Int, 0 ≤ j → j ≤ 7 → 0 ≤ w32 (a3 + j) ∧ w32 (a3 + j) < (L : Int)) (hR : ∀ M2, Inv M2 → ∃ r : Int × Mem, R (a3 + 8) M2 = some r ∧ r.1 = 1) (h : Inv M) : ∃ r : Int × Mem, k_Lw_law_1991 L sx R a3 M = some r ∧ r.1 = 1 := by
  obtain ⟨v, M1, w, M2, e1, e2, e3, e4, e5⟩ := in_send (a1 := (sx (ix (a3 + 1)))) (a2 := (sx (ix (a3 + 2)))) (a3 := (sx (ix (a3 + 3)))) (a4 := (sx (ix (a3 + 4)))) (a5 := (sx (ix (a3 + 5)))) (hx _) (hx _) (hx _) (hx _) (hx _) h
  obtain ⟨r, hr, h1⟩ := hR M2 e5
  refine ⟨r, ?_, h1⟩
  unfold k_Lw_law_1991
  refine e_chk (hc 1 (by decide) (by decide)) (e_let ?_)
  refine e_chk (hc 2 (by decide) (by decide)) (e_let ?_)
  refine e_chk (hc 3 (by decide) (by decide)) (e_let ?_)
  refine e_chk (hc 4 (by decide) (by decide)) (e_let ?_)
  refine e_chk (hc 5 (by decide) (by decide)) (e_let ?_)
  refine e_call e1 ?_
  refine e_chk (hc 1 (by decide) (by decide)) (e_let ?_)
  refine e_chk (hc 2 (by decide) (by decide)) (e_let ?_)
  refine e_chk (hc 3 (by decide) (by decide)) (e_let ?_)
  refine e_chk (hc 4 (by decide) (by decide)) (e_let ?_)
  refine e_chk (hc 5 (by decide) (by decide)) (e_let ?_)
  refine e_call e2 ?_
  exact (if_pos e3).trans hr
theorem b_18 {L : Nat} {sx : Nat → Int} {R : Int → Mem → Res} {a3 : Int} {M : Mem} (hx : ∀ j, I32 (sx j)) (hc : ∀ j : Int, 0 ≤ j → j ≤ 7 → 0 ≤ w32 (a3 + j) ∧ w32 (a3 + j) < (L : Int)) (hR : ∀ M2, Inv M2 → ∃ r : Int × Mem, R (a3 + 8) M2 = some r ∧ r.1 = 1) (h : Inv M) : ∃ r : Int × Mem, k_Lw_law_18 L sx R a3 M = some r ∧ r.1 = 1 := by
  unfold k_Lw_law_18
  refine b_ite ⟨_, rfl, rfl⟩ ?_
  have q := hc 0 (by decide) (by decide)
  rw [Int.add_zero] at q
  rw [chk_t q, blet_s]
  refine b_ite (b_status hx hc hR h) ?_
  refine b_ite (b_tray hx hc hR h) ?_
  refine b_ite (b_write hx hc hR h) ?_
  refine b_ite (b_read hx hc hR h) ?_
  refine b_ite (b_pour hx hc hR h) ?_
  refine b_ite (b_farm hx hc hR h) ?_
  refine b_ite (b_elevator hx hc hR h) ?_
  refine b_ite (b_load hx hc hR h) ?_
  refine b_ite (b_car hx hc hR h) ?_
  refine b_ite (b_sale hx hc hR h) ?_
  refine b_ite (b_spoil hx hc hR h) ?_
  refine b_ite (b_grading hx hc hR h) ?_
  refine b_ite (b_grade hx hc hR h) ?_
  refine b_ite (b_bin hx hc hR h) ?_
  refine b_ite (b_port hx hc hR h) ?_
  refine b_ite (b_sum hx hc hR h) ?_
  refine b_ite (b_feed hx hc hR h) ?_
  refine b_ite (b_acts hx hc hR h) ?_
  refine b_ite (b_fault hx hc hR h) ?_
  refine b_ite (b_paid hx hc hR h) ?_
  refine b_ite (b_last hx hc hR h) ?_
  refine b_ite (b_first hx hc hR h) ?_
  refine b_ite (b_below hx hc hR h) ?_
  refine b_ite (b_owed hx hc hR h) ?_
  refine b_ite (b_turns hx hc hR h) ?_
  refine b_ite (b_sign hx hc hR h) ?_
  refine b_ite (b_let hx hc hR h) ?_
  refine b_ite (b_outside hx hc hR h) ?_
  refine b_ite (b_breach hx hc hR h) ?_
  refine b_ite (b_cost hx hc hR h) ?_
  refine b_ite (b_price hx hc hR h) ?_
  refine b_ite (b_rules hx hc hR h) ?_
  refine b_ite (b_alone hx hc hR h) ?_
  refine b_ite (b_more hx hc hR h) ?_
  refine b_ite (b_vote hx hc hR h) ?_
  refine b_ite (b_result hx hc hR h) ?_
  refine b_ite (b_hangs hx hc hR h) ?_
  refine b_ite (b_warm hx hc hR h) ?_
  refine b_ite (b_turned hx hc hR h) ?_
  refine b_ite (b_send hx hc hR h) ?_
  exact hR M h
theorem l_law {L : Nat} (hL : L ≤ 4096) {sx : Nat → Int} (hx : ∀ j, I32 (sx j)) : ∀ (n fuel i : Nat) (M : Mem), L ≤ i + n → n < fuel → i ≤ 4104 → Inv M → ∃ r : Int × Mem, fix (fun _ _ => none) (k_Lw_law_18 L sx) fuel (i : Int) M = some r ∧ r.1 = 1 := by
  have fin : ∀ (R : Int → Mem → Res) (i : Nat) (M : Mem), i ≤ 4104 → L < i + 8 → ∃ r : Int × Mem, k_Lw_law_18 L sx R (i : Int) M = some r ∧ r.1 = 1 := by
    intro R i M h1 h2
    refine ⟨(1, M), ?_, rfl⟩
    unfold k_Lw_law_18
    exact if_pos (by rw [w32_eq (by omega) (by omega), w32_eq (by omega) (by omega)]; omega)
  intro n
  induction n with
  | zero =>
    intro fuel i M h1 h2 h3 h4
    obtain ⟨f, rfl⟩ : ∃ f, fuel = f + 1 := ⟨fuel - 1, by omega⟩
    rw [fix_s]
    exact fin _ i M h3 (by omega)
  | succ n ih =>
    intro fuel i M h1 h2 h3 h4
    obtain ⟨f, rfl⟩ : ∃ f, fuel = f + 1 := ⟨fuel - 1, by omega⟩
    rw [fix_s]
    by_cases c : i + 8 ≤ L
    · refine b_18 hx (fun j j1 j2 => ?_) (fun M2 hM => ?_) h4
      · rw [w32_eq (by omega) (by omega)]; omega
      · have q := ih f (i + 8) M2 (by omega) (by omega) (by omega) hM
        rw [show ((i + 8 : Nat) : Int) = (i : Int) + 8 by omega] at q
        exact q
    · exact fin _ i M h3 (by omega)
theorem inv_0 : Inv M0 := by
  have z5 : M0 111 5 = 0 := by decide +kernel
  have z6 : M0 111 6 = 0 := by decide +kernel
  have z7 : M0 111 7 = 0 := by decide +kernel
  have z8 : M0 111 8 = 0 := by decide +kernel
  have z9 : M0 111 9 = 0 := by decide +kernel
  have z10 : M0 111 10 = 0 := by decide +kernel
  have z44 : M0 111 44 = 0 := by decide +kernel
  have z56 : M0 111 56 = 0 := by decide +kernel
  have z88 : M0 111 88 = 0 := by decide +kernel
  refine ⟨by decide +kernel, ⟨fun t ht => ?_, fun t ht => ?_, fun i hi => ?_⟩, fun i hi => ?_, ?_, ?_, ⟨fun k hk => ?_, by decide +kernel, by decide +kernel⟩, ?_, ?_, ⟨by decide +kernel, fun j hj => ?_⟩, afn (fun _ _ => default) (fun i q => ndF (fun _ => 0) (asC q) 0 0) (M0 147) 0, ?_, ?_⟩
  · exact (by decide +kernel : ∀ t : Nat, t < 4 → -1 ≤ M0 113 t ∧ M0 113 t ≤ 40 ∧ 0 ≤ M0 112 t ∧ M0 112 t ≤ 3) t ht
  · exact (by decide +kernel : ∀ t : Nat, t < 4 → M0 3 t = M0 113 t ∧ M0 2 t = M0 112 t) t ht
  · exact (by decide +kernel : ∀ i : Nat, i < 160 → M0 4 i = M0 114 i) i hi
  · exact (by decide +kernel : ∀ i : Nat, i < 160 → -9223372036854775808 ≤ M0 114 i ∧ M0 114 i < 9223372036854775808) i hi
  · refine ⟨by omega, by omega, by decide +kernel, by decide +kernel, fun f hf => by omega, fun f _ hf => ?_, fun e he => by omega, fun i hi => ?_⟩
    · exact (by decide +kernel : ∀ f : Nat, f < 20 → M0 164 f = -1 ∧ M0 166 f = -1) f hf
    · exact (by decide +kernel : ∀ i : Nat, i < 200 → M0 11 i % 2 = M0 172 i % 2) i hi
  · exact ⟨by omega, by decide +kernel, fun k hk => by omega⟩
  · exact (by decide +kernel : ∀ k : Nat, k < 520 → M0 89 k = M0 171 k ∧ 0 ≤ M0 171 k ∧ M0 171 k ≤ 1000) k hk
  · exact ⟨by omega, by decide +kernel, by omega, by decide +kernel, by omega, fun _ => z10, fun z => by omega, fun k hk => by omega, fun k hk => by omega, fun i k _ hk => by omega⟩
  · exact ⟨by omega, by decide +kernel, fun j hj => by omega, by decide +kernel, by decide +kernel⟩
  · exact (by decide +kernel : ∀ j : Nat, j < 20 → M0 65 j = M0 180 j) j hj
  · exact ⟨0, fun _ _ => default, fun _ => 0, fun _ _ => 0, fun i q => ndF (fun _ => 0) (asC q) 0 0, fun _ _ => rfl, by decide, z56, by decide +kernel, fun i hi => absurd hi (Nat.not_lt_zero i), fun i hi => absurd hi (Nat.not_lt_zero i), rfl⟩
  · exact ⟨by omega, by decide +kernel, fun g hg => by omega⟩
/-- the pure statement: on every script the meanings agree -/
theorem law_true {L : Nat} (hL : L ≤ 4096) (xs : Nat → Int32) : ∃ r : Int × Mem, d_law L (fun j => (xs j).toInt) M0 = some r ∧ r.1 = 1 := by
  unfold d_law
  exact l_law hL (fun j => ⟨by have := Int32.le_toInt (xs j); omega, by have := Int32.toInt_lt (xs j); omega⟩) L FU 0 M0 (by omega) (by unfold FU; omega) (by omega) inv_0
