/-! wheat sent: the component carries -/
theorem cheap_ok {r : Nat} {M : Mem} (hr : r ≤ 4) (hw : ∀ o, o < r → 0 ≤ M 68 o ∧ M 68 o ≤ 30) (hd : ∀ o, o < r → 0 < M 68 o → 0 ≤ M 73 o ∧ M 73 o < 1000000) :
    ∃ v, d_Ya_cheapestOrder (r : Int) M = some (v, M) ∧ ((v = -1 ∧ ∀ o, o < r → M 68 o = 0) ∨ ∃ o : Nat, v = (o : Int) ∧ o < r ∧ 0 < M 68 o) := by
  have l : ∀ (j fuel i : Nat) (a : Int), i + j = r → j < fuel → ((a = -1 ∧ ∀ o, o < i → M 68 o = 0) ∨ ∃ o : Nat, a = (o : Int) ∧ o < i ∧ 0 < M 68 o) → ∃ v, fix (fun _ _ _ _ => none) k_Ya_cheapestOrder_4 fuel (r : Int) a (i : Int) M = some (v, M) ∧ ((v = -1 ∧ ∀ o, o < r → M 68 o = 0) ∨ ∃ o : Nat, v = (o : Int) ∧ o < r ∧ 0 < M 68 o) := by
    intro j; induction j with
    | zero =>
      intro fuel i a e hf hI
      have : i = r := by omega
      subst this
      refine ⟨a, ?_, hI⟩
      obtain ⟨f, rfl⟩ : ∃ f, fuel = f + 1 := ⟨fuel - 1, by omega⟩; rw [fix_s]; unfold k_Ya_cheapestOrder_4
      repeat (first | with_reducible refine e_let ?_ | with_reducible refine e_cs ?_ | with_reducible refine e_clet ?_ | with_reducible refine e_cc ?_ | (with_reducible refine e_chk ?_ ?_; · (first | omega | ((try simp (disch := omega) only [w32_eq, w64_eq, ix_n, ix_e, sto_n, sto_e, sto_r, zf_r, Int.toNat_natCast, true_or, or_true, eq_self]) <;> (first | omega | decide)))) | (with_reducible refine e_cchk ?_ ?_; · (first | omega | ((try simp (disch := omega) only [w32_eq, w64_eq, ix_n, ix_e, sto_n, sto_e, sto_r, zf_r, Int.toNat_natCast, true_or, or_true, eq_self]) <;> (first | omega | decide)))) | (with_reducible refine e_t ?_ ?_; · (first | omega | ((try simp (disch := omega) only [w32_eq, w64_eq, ix_n, ix_e, sto_n, sto_e, sto_r, zf_r, Int.toNat_natCast, true_or, or_true, eq_self]) <;> (first | omega | decide)))) | (with_reducible refine e_f ?_ ?_; · (first | omega | ((try simp (disch := omega) only [w32_eq, w64_eq, ix_n, ix_e, sto_n, sto_e, sto_r, zf_r, Int.toNat_natCast, true_or, or_true, eq_self]) <;> (first | omega | decide)))) | (with_reducible refine e_ct ?_ ?_; · (first | omega | ((try simp (disch := omega) only [w32_eq, w64_eq, ix_n, ix_e, sto_n, sto_e, sto_r, zf_r, Int.toNat_natCast, true_or, or_true, eq_self]) <;> (first | omega | decide)))) | (with_reducible refine e_cf ?_ ?_; · (first | omega | ((try simp (disch := omega) only [w32_eq, w64_eq, ix_n, ix_e, sto_n, sto_e, sto_r, zf_r, Int.toNat_natCast, true_or, or_true, eq_self]) <;> (first | omega | decide)))))
      rfl
    | succ j ih =>
      intro fuel i a e hf hI
      have hj : (i : Int) + 1 = ((i + 1 : Nat) : Int) := by omega
      have ei : ix (i : Int) = i := ix_n (by omega)
      have hwi := hw i (by omega)
      obtain ⟨f, rfl⟩ : ∃ f, fuel = f + 1 := ⟨fuel - 1, by omega⟩
      have keep : M 68 i = 0 → ((a = -1 ∧ ∀ o, o < i + 1 → M 68 o = 0) ∨ ∃ o : Nat, a = (o : Int) ∧ o < i + 1 ∧ 0 < M 68 o) := fun q => by
        rcases hI with ⟨h1, h2⟩ | ⟨o, h1, h2, h3⟩
        · refine Or.inl ⟨h1, fun o ho => ?_⟩
          by_cases c : o = i
          · rw [c]; exact q
          · exact h2 o (by omega)
        · exact Or.inr ⟨o, h1, by omega, h3⟩
      by_cases c : 0 < M 68 i
      · have hdi := hd i (by omega) c
        rcases hI with ⟨h1, h2⟩ | ⟨o, h1, h2, h3⟩
        · obtain ⟨v, v1, v2⟩ := ih f (i + 1) (i : Int) (by omega) (by omega) (Or.inr ⟨i, rfl, by omega, c⟩)
          refine ⟨v, ?_, v2⟩
          rw [fix_s]; unfold k_Ya_cheapestOrder_4 k_Ya_cheapestOrder_34 k_Ya_cheapestOrder_61 k_Ya_cheapestOrder_63
          repeat (first | with_reducible refine e_let ?_ | with_reducible refine e_cs ?_ | with_reducible refine e_clet ?_ | with_reducible refine e_cc ?_ | (with_reducible refine e_chk ?_ ?_; · (first | omega | ((try simp (disch := omega) only [w32_eq, w64_eq, ix_n, ix_e, sto_n, sto_e, sto_r, zf_r, Int.toNat_natCast, true_or, or_true, eq_self, ei]) <;> (first | omega | decide)))) | (with_reducible refine e_cchk ?_ ?_; · (first | omega | ((try simp (disch := omega) only [w32_eq, w64_eq, ix_n, ix_e, sto_n, sto_e, sto_r, zf_r, Int.toNat_natCast, true_or, or_true, eq_self, ei]) <;> (first | omega | decide)))) | (with_reducible refine e_t ?_ ?_; · (first | omega | ((try simp (disch := omega) only [w32_eq, w64_eq, ix_n, ix_e, sto_n, sto_e, sto_r, zf_r, Int.toNat_natCast, true_or, or_true, eq_self, ei]) <;> (first | omega | decide)))) | (with_reducible refine e_f ?_ ?_; · (first | omega | ((try simp (disch := omega) only [w32_eq, w64_eq, ix_n, ix_e, sto_n, sto_e, sto_r, zf_r, Int.toNat_natCast, true_or, or_true, eq_self, ei]) <;> (first | omega | decide)))) | (with_reducible refine e_ct ?_ ?_; · (first | omega | ((try simp (disch := omega) only [w32_eq, w64_eq, ix_n, ix_e, sto_n, sto_e, sto_r, zf_r, Int.toNat_natCast, true_or, or_true, eq_self, ei]) <;> (first | omega | decide)))) | (with_reducible refine e_cf ?_ ?_; · (first | omega | ((try simp (disch := omega) only [w32_eq, w64_eq, ix_n, ix_e, sto_n, sto_e, sto_r, zf_r, Int.toNat_natCast, true_or, or_true, eq_self, ei]) <;> (first | omega | decide)))))
          rw [hj]; exact v1
        · have hdo := hd o (by omega) h3
          have eo : ix (o : Int) = o := ix_n (by omega)
          by_cases c2 : M 73 i < M 73 o
          · obtain ⟨v, v1, v2⟩ := ih f (i + 1) (i : Int) (by omega) (by omega) (Or.inr ⟨i, rfl, by omega, c⟩)
            refine ⟨v, ?_, v2⟩
            rw [fix_s]; unfold k_Ya_cheapestOrder_4 k_Ya_cheapestOrder_34 k_Ya_cheapestOrder_61 k_Ya_cheapestOrder_63
            rw [h1]
            repeat (first | with_reducible refine e_let ?_ | with_reducible refine e_cs ?_ | with_reducible refine e_clet ?_ | with_reducible refine e_cc ?_ | (with_reducible refine e_chk ?_ ?_; · (first | omega | ((try simp (disch := omega) only [w32_eq, w64_eq, ix_n, ix_e, sto_n, sto_e, sto_r, zf_r, Int.toNat_natCast, true_or, or_true, eq_self, ei, eo]) <;> (first | omega | decide)))) | (with_reducible refine e_cchk ?_ ?_; · (first | omega | ((try simp (disch := omega) only [w32_eq, w64_eq, ix_n, ix_e, sto_n, sto_e, sto_r, zf_r, Int.toNat_natCast, true_or, or_true, eq_self, ei, eo]) <;> (first | omega | decide)))) | (with_reducible refine e_t ?_ ?_; · (first | omega | ((try simp (disch := omega) only [w32_eq, w64_eq, ix_n, ix_e, sto_n, sto_e, sto_r, zf_r, Int.toNat_natCast, true_or, or_true, eq_self, ei, eo]) <;> (first | omega | decide)))) | (with_reducible refine e_f ?_ ?_; · (first | omega | ((try simp (disch := omega) only [w32_eq, w64_eq, ix_n, ix_e, sto_n, sto_e, sto_r, zf_r, Int.toNat_natCast, true_or, or_true, eq_self, ei, eo]) <;> (first | omega | decide)))) | (with_reducible refine e_ct ?_ ?_; · (first | omega | ((try simp (disch := omega) only [w32_eq, w64_eq, ix_n, ix_e, sto_n, sto_e, sto_r, zf_r, Int.toNat_natCast, true_or, or_true, eq_self, ei, eo]) <;> (first | omega | decide)))) | (with_reducible refine e_cf ?_ ?_; · (first | omega | ((try simp (disch := omega) only [w32_eq, w64_eq, ix_n, ix_e, sto_n, sto_e, sto_r, zf_r, Int.toNat_natCast, true_or, or_true, eq_self, ei, eo]) <;> (first | omega | decide)))))
            rw [hj]; exact v1
          · obtain ⟨v, v1, v2⟩ := ih f (i + 1) (o : Int) (by omega) (by omega) (Or.inr ⟨o, rfl, by omega, h3⟩)
            refine ⟨v, ?_, v2⟩
            rw [fix_s]; unfold k_Ya_cheapestOrder_4 k_Ya_cheapestOrder_34 k_Ya_cheapestOrder_61 k_Ya_cheapestOrder_63
            rw [h1]
            repeat (first | with_reducible refine e_let ?_ | with_reducible refine e_cs ?_ | with_reducible refine e_clet ?_ | with_reducible refine e_cc ?_ | (with_reducible refine e_chk ?_ ?_; · (first | omega | ((try simp (disch := omega) only [w32_eq, w64_eq, ix_n, ix_e, sto_n, sto_e, sto_r, zf_r, Int.toNat_natCast, true_or, or_true, eq_self, ei, eo]) <;> (first | omega | decide)))) | (with_reducible refine e_cchk ?_ ?_; · (first | omega | ((try simp (disch := omega) only [w32_eq, w64_eq, ix_n, ix_e, sto_n, sto_e, sto_r, zf_r, Int.toNat_natCast, true_or, or_true, eq_self, ei, eo]) <;> (first | omega | decide)))) | (with_reducible refine e_t ?_ ?_; · (first | omega | ((try simp (disch := omega) only [w32_eq, w64_eq, ix_n, ix_e, sto_n, sto_e, sto_r, zf_r, Int.toNat_natCast, true_or, or_true, eq_self, ei, eo]) <;> (first | omega | decide)))) | (with_reducible refine e_f ?_ ?_; · (first | omega | ((try simp (disch := omega) only [w32_eq, w64_eq, ix_n, ix_e, sto_n, sto_e, sto_r, zf_r, Int.toNat_natCast, true_or, or_true, eq_self, ei, eo]) <;> (first | omega | decide)))) | (with_reducible refine e_ct ?_ ?_; · (first | omega | ((try simp (disch := omega) only [w32_eq, w64_eq, ix_n, ix_e, sto_n, sto_e, sto_r, zf_r, Int.toNat_natCast, true_or, or_true, eq_self, ei, eo]) <;> (first | omega | decide)))) | (with_reducible refine e_cf ?_ ?_; · (first | omega | ((try simp (disch := omega) only [w32_eq, w64_eq, ix_n, ix_e, sto_n, sto_e, sto_r, zf_r, Int.toNat_natCast, true_or, or_true, eq_self, ei, eo]) <;> (first | omega | decide)))))
            rw [hj]; exact v1
      · obtain ⟨v, v1, v2⟩ := ih f (i + 1) a (by omega) (by omega) (keep (by omega))
        refine ⟨v, ?_, v2⟩
        rw [fix_s]; unfold k_Ya_cheapestOrder_4 k_Ya_cheapestOrder_33 k_Ya_cheapestOrder_34 k_Ya_cheapestOrder_63
        repeat (first | with_reducible refine e_let ?_ | with_reducible refine e_cs ?_ | with_reducible refine e_clet ?_ | with_reducible refine e_cc ?_ | (with_reducible refine e_chk ?_ ?_; · (first | omega | ((try simp (disch := omega) only [w32_eq, w64_eq, ix_n, ix_e, sto_n, sto_e, sto_r, zf_r, Int.toNat_natCast, true_or, or_true, eq_self, ei]) <;> (first | omega | decide)))) | (with_reducible refine e_cchk ?_ ?_; · (first | omega | ((try simp (disch := omega) only [w32_eq, w64_eq, ix_n, ix_e, sto_n, sto_e, sto_r, zf_r, Int.toNat_natCast, true_or, or_true, eq_self, ei]) <;> (first | omega | decide)))) | (with_reducible refine e_t ?_ ?_; · (first | omega | ((try simp (disch := omega) only [w32_eq, w64_eq, ix_n, ix_e, sto_n, sto_e, sto_r, zf_r, Int.toNat_natCast, true_or, or_true, eq_self, ei]) <;> (first | omega | decide)))) | (with_reducible refine e_f ?_ ?_; · (first | omega | ((try simp (disch := omega) only [w32_eq, w64_eq, ix_n, ix_e, sto_n, sto_e, sto_r, zf_r, Int.toNat_natCast, true_or, or_true, eq_self, ei]) <;> (first | omega | decide)))) | (with_reducible refine e_ct ?_ ?_; · (first | omega | ((try simp (disch := omega) only [w32_eq, w64_eq, ix_n, ix_e, sto_n, sto_e, sto_r, zf_r, Int.toNat_natCast, true_or, or_true, eq_self, ei]) <;> (first | omega | decide)))) | (with_reducible refine e_cf ?_ ?_; · (first | omega | ((try simp (disch := omega) only [w32_eq, w64_eq, ix_n, ix_e, sto_n, sto_e, sto_r, zf_r, Int.toNat_natCast, true_or, or_true, eq_self, ei]) <;> (first | omega | decide)))))
        rw [hj]; exact v1
  unfold d_Ya_cheapestOrder
  exact l r FU 0 (-1) (by omega) (by unfold FU; omega) (Or.inl ⟨rfl, fun o ho => by omega⟩)
/-- how many bins were settled before x -/
def rkS (m : Nat) (ta : Nat → Nat) (x : Nat) : Int := sm (fun b => if ta b < ta x then 1 else 0) m
theorem rk_lt {m x y : Nat} {ta : Nat → Nat} (hy : y < m) (h : ta y < ta x) : rkS m ta y + 1 ≤ rkS m ta x := by
  have h1 := sm_up (w := fun b => if ta b < ta y then (1 : Int) else 0) (v := 1) m hy
  have h2 : sm (up (fun b => if ta b < ta y then (1 : Int) else 0) y 1) m ≤ rkS m ta x := sm_le m (fun b hb => by
    unfold up
    dsimp only
    by_cases c : b = y
    · rw [if_pos c, if_pos (by rw [c]; exact h)]; exact Int.le_refl _
    · rw [if_neg c]
      by_cases d : ta b < ta y
      · rw [if_pos d, if_pos (by omega)]; exact Int.le_refl _
      · rw [if_neg d]; split <;> omega)
  have e : (if ta y < ta y then (1 : Int) else 0) = 0 := if_neg (by omega)
  unfold rkS at *
  omega
theorem rk_b {m x : Nat} {ta : Nat → Nat} (hx : x < m) : 0 ≤ rkS m ta x ∧ rkS m ta x < m := by
  refine ⟨sm_nn m (fun b _ => by split <;> omega), ?_⟩
  have h1 := sm_up (w := fun b => if ta b < ta x then (1 : Int) else 0) (v := 1) m hx
  have h2 := sm_b (w := up (fun b => if ta b < ta x then (1 : Int) else 0) x 1) (c := 1) m (fun b hb => by
    unfold up
    dsimp only
    split
    · exact Int.le_refl _
    · split <;> omega)
  have e : (if ta x < ta x then (1 : Int) else 0) = 0 := if_neg (by omega)
  unfold rkS
  omega
/-- z can be carried along the whole way -/
def pok (m r : Nat) (f0 lf0 via : Nat → Int) (z : Int) : Nat → Nat → Prop
  | 0, _ => True
  | k + 1, o => ∀ x : Nat, x < m → via (m + o) = (x : Int) → (via x = -1 → z ≤ lf0 x) ∧ ∀ p : Nat, p < r → via x = ((m + p : Nat) : Int) → z ≤ f0 (x * r + p) ∧ pok m r f0 lf0 via z k p
theorem vC_n {m x : Nat} {M : Mem} (hx : x < m) : (vC m M x = -1 → M 72 x = -1) ∧ ∀ p : Nat, vC m M x = ((m + p : Nat) : Int) → M 72 x = (p : Int) := by
  rw [vC_b hx]
  by_cases c : M 72 x = -1
  · rw [if_pos c]; exact ⟨fun _ => c, fun p q => by omega⟩
  · rw [if_neg c]
    by_cases d : M 72 x < 0
    · rw [if_pos d]; exact ⟨fun q => by omega, fun p q => by omega⟩
    · rw [if_neg d]; exact ⟨fun q => by omega, fun p q => by omega⟩
theorem l_great {m r : Nat} {M : Mem} {ta : Nat → Nat} (hmr : m ≤ 5 ∧ r ≤ 4) (hF : Fnd m r (M 69) (M 70) (M 67) (dC m M) (vC m M) ta) (hl : ∀ b, b < m → 0 ≤ M 67 b ∧ M 67 b ≤ 30) (hf : ∀ k, k < m * r → 0 ≤ M 70 k ∧ M 70 k ≤ 30) :
    ∀ (j fuel i o : Nat) (a : Int), i + j = 5 → j < fuel → o < r → (1 ≤ a ∧ a ≤ 30) → ∃ z, fix (fun _ _ _ _ _ => none) k_Ya_greatestLoad_13 fuel (r : Int) a (o : Int) (i : Int) M = some (z, M) ∧ 1 ≤ z ∧ z ≤ a ∧ pok m r (M 70) (M 67) (vC m M) z j o := by
  intro j; induction j with
  | zero =>
    intro fuel i o a e hf' ho ha
    refine ⟨a, ?_, by omega, by omega, trivial⟩
    obtain ⟨f, rfl⟩ : ∃ f, fuel = f + 1 := ⟨fuel - 1, by omega⟩; rw [fix_s]; unfold k_Ya_greatestLoad_13
    repeat (first | with_reducible refine e_let ?_ | with_reducible refine e_cs ?_ | with_reducible refine e_clet ?_ | with_reducible refine e_cc ?_ | (with_reducible refine e_chk ?_ ?_; · (first | omega | ((try simp (disch := omega) only [w32_eq, w64_eq, ix_n, ix_e, sto_n, sto_e, sto_r, zf_r, Int.toNat_natCast, true_or, or_true, eq_self]) <;> (first | omega | decide)))) | (with_reducible refine e_cchk ?_ ?_; · (first | omega | ((try simp (disch := omega) only [w32_eq, w64_eq, ix_n, ix_e, sto_n, sto_e, sto_r, zf_r, Int.toNat_natCast, true_or, or_true, eq_self]) <;> (first | omega | decide)))) | (with_reducible refine e_t ?_ ?_; · (first | omega | ((try simp (disch := omega) only [w32_eq, w64_eq, ix_n, ix_e, sto_n, sto_e, sto_r, zf_r, Int.toNat_natCast, true_or, or_true, eq_self]) <;> (first | omega | decide)))) | (with_reducible refine e_f ?_ ?_; · (first | omega | ((try simp (disch := omega) only [w32_eq, w64_eq, ix_n, ix_e, sto_n, sto_e, sto_r, zf_r, Int.toNat_natCast, true_or, or_true, eq_self]) <;> (first | omega | decide)))) | (with_reducible refine e_ct ?_ ?_; · (first | omega | ((try simp (disch := omega) only [w32_eq, w64_eq, ix_n, ix_e, sto_n, sto_e, sto_r, zf_r, Int.toNat_natCast, true_or, or_true, eq_self]) <;> (first | omega | decide)))) | (with_reducible refine e_cf ?_ ?_; · (first | omega | ((try simp (disch := omega) only [w32_eq, w64_eq, ix_n, ix_e, sto_n, sto_e, sto_r, zf_r, Int.toNat_natCast, true_or, or_true, eq_self]) <;> (first | omega | decide)))))
    rfl
  | succ j ih =>
    intro fuel i o a e hf' ho ha
    have hj : (i : Int) + 1 = ((i + 1 : Nat) : Int) := by omega
    have eo : ix (o : Int) = o := ix_n (by omega)
    obtain ⟨f, rfl⟩ : ∃ f, fuel = f + 1 := ⟨fuel - 1, by omega⟩
    obtain ⟨x, hx, v1, t1, d1, dx, rest⟩ := way_b hF ho
    rw [vC_o] at v1
    have ex : ix (x : Int) = x := ix_n (by omega)
    rcases rest with ⟨v2, l2⟩ | ⟨p, hp, hpo, v2, t2, d2, f2⟩
    · have e72 := (vC_n hx).1 v2
      have hlx := hl x hx
      refine ⟨mn32 a (M 67 x), ?_, ?_⟩
      · rw [fix_s]; unfold k_Ya_greatestLoad_13 k_Ya_greatestLoad_83
        repeat (first | with_reducible refine e_let ?_ | with_reducible refine e_cs ?_ | with_reducible refine e_clet ?_ | with_reducible refine e_cc ?_ | (with_reducible refine e_chk ?_ ?_; · (first | omega | ((try simp (disch := omega) only [w32_eq, w64_eq, ix_n, ix_e, sto_n, sto_e, sto_r, zf_r, Int.toNat_natCast, true_or, or_true, eq_self, eo, v1, ex, e72]) <;> (first | omega | decide)))) | (with_reducible refine e_cchk ?_ ?_; · (first | omega | ((try simp (disch := omega) only [w32_eq, w64_eq, ix_n, ix_e, sto_n, sto_e, sto_r, zf_r, Int.toNat_natCast, true_or, or_true, eq_self, eo, v1, ex, e72]) <;> (first | omega | decide)))) | (with_reducible refine e_t ?_ ?_; · (first | omega | ((try simp (disch := omega) only [w32_eq, w64_eq, ix_n, ix_e, sto_n, sto_e, sto_r, zf_r, Int.toNat_natCast, true_or, or_true, eq_self, eo, v1, ex, e72]) <;> (first | omega | decide)))) | (with_reducible refine e_f ?_ ?_; · (first | omega | ((try simp (disch := omega) only [w32_eq, w64_eq, ix_n, ix_e, sto_n, sto_e, sto_r, zf_r, Int.toNat_natCast, true_or, or_true, eq_self, eo, v1, ex, e72]) <;> (first | omega | decide)))) | (with_reducible refine e_ct ?_ ?_; · (first | omega | ((try simp (disch := omega) only [w32_eq, w64_eq, ix_n, ix_e, sto_n, sto_e, sto_r, zf_r, Int.toNat_natCast, true_or, or_true, eq_self, eo, v1, ex, e72]) <;> (first | omega | decide)))) | (with_reducible refine e_cf ?_ ?_; · (first | omega | ((try simp (disch := omega) only [w32_eq, w64_eq, ix_n, ix_e, sto_n, sto_e, sto_r, zf_r, Int.toNat_natCast, true_or, or_true, eq_self, eo, v1, ex, e72]) <;> (first | omega | decide)))))
        have end' : ∀ z : Int, fix (fun _ _ _ _ _ => none) k_Ya_greatestLoad_13 f (r : Int) z (-1) ((i + 1 : Nat) : Int) M = some (z, M) := fun z => by
          obtain ⟨f', rfl⟩ : ∃ f', f = f' + 1 := ⟨f - 1, by omega⟩
          rw [fix_s]; unfold k_Ya_greatestLoad_13
          by_cases c : i + 1 < 5
          · refine e_t (by rw [w32_eq (by omega) (by omega)]; omega) (e_t (by decide) rfl)
          · refine e_f (by rw [w32_eq (by omega) (by omega)]; omega) rfl
        rw [hj, eo, v1, ex, e72]
        exact end' _
      · have hmn : mn32 a (M 67 x) ≤ a ∧ mn32 a (M 67 x) ≤ M 67 x ∧ 1 ≤ mn32 a (M 67 x) := by
          unfold mn32
          rw [w32_eq (x := a) (by omega) (by omega), w32_eq (x := M 67 x) (by omega) (by omega)]
          split <;> omega
        refine ⟨hmn.2.2, hmn.1, fun y hy q => ?_⟩
        rw [vC_o, v1] at q
        have : y = x := by omega
        subst this
        exact ⟨fun _ => hmn.2.1, fun p _ q => by rw [v2] at q; omega⟩
    · have e72 := (vC_n hx).2 p v2
      have ek : (x : Int) * (r : Int) + (p : Int) = ((x * r + p : Nat) : Int) := by push_cast; rfl
      have hk := way_20 hmr.1 hmr.2 hx hp
      have ekx : ix ((x * r + p : Nat) : Int) = x * r + p := ix_n (by omega)
      have hfx := hf _ (way_l hx hp)
      have hmn : mn32 a (M 70 (x * r + p)) ≤ a ∧ mn32 a (M 70 (x * r + p)) ≤ M 70 (x * r + p) ∧ 1 ≤ mn32 a (M 70 (x * r + p)) := by
        unfold mn32
        rw [w32_eq (x := a) (by omega) (by omega), w32_eq (x := M 70 (x * r + p)) (by omega) (by omega)]
        split <;> omega
      obtain ⟨z, z1, z2, z3, z4⟩ := ih f (i + 1) p (mn32 a (M 70 (x * r + p))) (by omega) (by omega) hp (by omega)
      refine ⟨z, ?_, z2, by omega, fun y hy q => ?_⟩
      · rw [fix_s]; unfold k_Ya_greatestLoad_13 k_Ya_greatestLoad_83
        repeat (first | with_reducible refine e_let ?_ | with_reducible refine e_cs ?_ | with_reducible refine e_clet ?_ | with_reducible refine e_cc ?_ | (with_reducible refine e_chk ?_ ?_; · (first | omega | ((try simp (disch := omega) only [w32_eq, w64_eq, ix_n, ix_e, sto_n, sto_e, sto_r, zf_r, Int.toNat_natCast, true_or, or_true, eq_self, eo, v1, ex, e72, ek]) <;> (first | omega | decide)))) | (with_reducible refine e_cchk ?_ ?_; · (first | omega | ((try simp (disch := omega) only [w32_eq, w64_eq, ix_n, ix_e, sto_n, sto_e, sto_r, zf_r, Int.toNat_natCast, true_or, or_true, eq_self, eo, v1, ex, e72, ek]) <;> (first | omega | decide)))) | (with_reducible refine e_t ?_ ?_; · (first | omega | ((try simp (disch := omega) only [w32_eq, w64_eq, ix_n, ix_e, sto_n, sto_e, sto_r, zf_r, Int.toNat_natCast, true_or, or_true, eq_self, eo, v1, ex, e72, ek]) <;> (first | omega | decide)))) | (with_reducible refine e_f ?_ ?_; · (first | omega | ((try simp (disch := omega) only [w32_eq, w64_eq, ix_n, ix_e, sto_n, sto_e, sto_r, zf_r, Int.toNat_natCast, true_or, or_true, eq_self, eo, v1, ex, e72, ek]) <;> (first | omega | decide)))) | (with_reducible refine e_ct ?_ ?_; · (first | omega | ((try simp (disch := omega) only [w32_eq, w64_eq, ix_n, ix_e, sto_n, sto_e, sto_r, zf_r, Int.toNat_natCast, true_or, or_true, eq_self, eo, v1, ex, e72, ek]) <;> (first | omega | decide)))) | (with_reducible refine e_cf ?_ ?_; · (first | omega | ((try simp (disch := omega) only [w32_eq, w64_eq, ix_n, ix_e, sto_n, sto_e, sto_r, zf_r, Int.toNat_natCast, true_or, or_true, eq_self, eo, v1, ex, e72, ek]) <;> (first | omega | decide)))))
        rw [hj, eo, v1, ex, e72, ek, ekx]
        exact z1
      · rw [vC_o, v1] at q
        have : y = x := by omega
        subst this
        refine ⟨fun q => by rw [v2] at q; omega, fun p' _ q => ?_⟩
        rw [v2] at q
        have : p' = p := by omega
        subst this
        exact ⟨by omega, z4⟩
theorem l_carry {m r : Nat} {B : Mem} {ta : Nat → Nat} {hv wn : Nat → Int} {z T : Int} (hmr : m ≤ 5 ∧ r ≤ 4) (hz : 0 ≤ z) (hc : ∀ k, k < m * r → 0 ≤ B 69 k ∧ B 69 k ≤ 100) (hF : Fnd m r (B 69) (B 70) (B 67) (dC m B) (vC m B) ta) :
    ∀ (j fuel i o : Nat) (M : Mem), i + j = 5 → j < fuel → o < r → (∀ x : Nat, x < m → vC m B (m + o) = (x : Int) → rkS m ta x < j) → Fr [67, 68, 70] [] B M → AI m r (B 69) hv wn (B 70) (B 67) (dC m B) ta z T o (M 70) (M 67) (M 68) → pok m r (B 70) (B 67) (vC m B) z j o →
    Ok (fix (fun _ _ _ _ _ => none) k_Ya_carry_16 fuel (r : Int) z (o : Int) (i : Int) M) (fun _ M' => FI m r hv wn (M' 70) (M' 67) (M' 68) ∧ (∃ pot, Cer m r (B 69) (M' 70) (M' 67) pot) ∧ csS m r (B 69) (M' 70) = T ∧ M' 68 = M 68) := by
  intro j; induction j with
  | zero =>
    intro fuel i o M e hf' ho hr hFr hA hp
    obtain ⟨x, hx, v1, -⟩ := way_b hF ho
    have := hr x hx v1
    have := rk_b (ta := ta) hx
    omega
  | succ j ih =>
    intro fuel i o M e hf' ho hr hFr hA hpk
    have hj : (i : Int) + 1 = ((i + 1 : Nat) : Int) := by omega
    have eo : ix (o : Int) = o := ix_n (by omega)
    obtain ⟨f, rfl⟩ : ∃ f, fuel = f + 1 := ⟨fuel - 1, by omega⟩
    obtain ⟨x, hx, v1, t1, d1, dx, rest⟩ := way_b hF ho
    have hrx := hr x hx v1
    have pkx := hpk x hx v1
    rw [vC_o] at v1
    have ex : ix (x : Int) = x := ix_n (by omega)
    have u74 := hFr.c 74 (by decide) (by decide)
    have u72 := hFr.c 72 (by decide) (by decide)
    have ek : (x : Int) * (r : Int) + (o : Int) = ((x * r + o : Nat) : Int) := by push_cast; rfl
    have hk := way_20 hmr.1 hmr.2 hx ho
    have eko : ix ((x * r + o : Nat) : Int) = x * r + o := ix_n (by omega)
    rw [fix_s]; unfold k_Ya_carry_16
    refine ok_t (by first | omega | ((try simp (disch := omega) only [w32_eq, w64_eq, ix_n, ix_e, sto_n, sto_e, sto_r, zf_r, Int.toNat_natCast, true_or, or_true, eq_self]) <;> (first | omega | decide))) (ok_f (by first | omega | ((try simp (disch := omega) only [w32_eq, w64_eq, ix_n, ix_e, sto_n, sto_e, sto_r, zf_r, Int.toNat_natCast, true_or, or_true, eq_self]) <;> (first | omega | decide))) (ok_chk (by first | omega | ((try simp (disch := omega) only [w32_eq, w64_eq, ix_n, ix_e, sto_n, sto_e, sto_r, zf_r, Int.toNat_natCast, true_or, or_true, eq_self]) <;> (first | omega | decide))) (ok_let ?_)))
    rw [eo, u74, v1]
    refine ok_f (by first | omega | ((try simp (disch := omega) only [w32_eq, w64_eq, ix_n, ix_e, sto_n, sto_e, sto_r, zf_r, Int.toNat_natCast, true_or, or_true, eq_self]) <;> (first | omega | decide))) (ok_chk (by first | omega | ((try simp (disch := omega) only [w32_eq, w64_eq, ix_n, ix_e, sto_n, sto_e, sto_r, zf_r, Int.toNat_natCast, true_or, or_true, eq_self]) <;> (first | omega | decide))) (ok_let ?_))
    rw [ek, eko]
    refine ok_chk (by first | omega | ((try simp (disch := omega) only [w32_eq, w64_eq, ix_n, ix_e, sto_n, sto_e, sto_r, zf_r, Int.toNat_natCast, true_or, or_true, eq_self]) <;> (first | omega | decide))) (ok_let (ok_chk (by first | omega | ((try simp (disch := omega) only [w32_eq, w64_eq, ix_n, ix_e, sto_n, sto_e, sto_r, zf_r, Int.toNat_natCast, true_or, or_true, eq_self]) <;> (first | omega | decide))) (ok_let (ok_chk (by first | omega | ((try simp (disch := omega) only [w32_eq, w64_eq, ix_n, ix_e, sto_n, sto_e, sto_r, zf_r, Int.toNat_natCast, true_or, or_true, eq_self]) <;> (first | omega | decide))) (ok_let ?_)))))
    rw [ex, sto_r (show 72 ≠ 70 by decide), u72]
    rcases rest with ⟨v2, l2⟩ | ⟨p, hp, hpo, v2, t2, d2, f2⟩
    · have e72 := (vC_n hx).1 v2
      have hzl := pkx.1 v2
      rw [e72]
      refine ok_t (by decide) (ok_chk (by first | omega | ((try simp (disch := omega) only [w32_eq, w64_eq, ix_n, ix_e, sto_n, sto_e, sto_r, zf_r, Int.toNat_natCast, true_or, or_true, eq_self]) <;> (first | omega | decide))) (ok_let (ok_chk (by first | omega | ((try simp (disch := omega) only [w32_eq, w64_eq, ix_n, ix_e, sto_n, sto_e, sto_r, zf_r, Int.toNat_natCast, true_or, or_true, eq_self]) <;> (first | omega | decide))) (ok_let ?_))))
      unfold k_Ya_carry_109
      refine ok_let ?_
      rw [hj]
      obtain ⟨a1, a2, a3⟩ := ai_end hc hF hz ho hx t1 d1 dx l2 hzl hA
      have fin : ∀ M' : Mem, M' 70 = up (M 70) (x * r + o) (M 70 (x * r + o) + z) → M' 67 = up (M 67) x (M 67 x - z) → M' 68 = M 68 → FI m r hv wn (M' 70) (M' 67) (M' 68) ∧ (∃ pot, Cer m r (B 69) (M' 70) (M' 67) pot) ∧ csS m r (B 69) (M' 70) = T ∧ M' 68 = M 68 := fun M' q1 q2 q3 => by
        rw [q1, q2, q3]; exact ⟨a1, a2, a3, rfl⟩
      have g := fin (sto (sto M 70 (x * r + o) (M 70 (x * r + o) + z)) 67 x (M 67 x - z)) (by rw [sto_r (by decide), sto_up]) (by rw [sto_up, sto_r (by decide)]) (by rw [sto_r (by decide), sto_r (by decide)])
      obtain ⟨f', rfl⟩ : ∃ f', f = f' + 1 := ⟨f - 1, by have := rk_b (ta := ta) hx; omega⟩
      rw [fix_s]
      rw [sto_r (show 67 ≠ 70 by decide)]
      by_cases c : i + 1 < 5
      · exact ok_t (by rw [w32_eq (by omega) (by omega)]; omega) (ok_t (by decide) (ok_ret g))
      · exact ok_f (by rw [w32_eq (by omega) (by omega)]; omega) (ok_ret g)
    · have e72 := (vC_n hx).2 p v2
      have hzl := pkx.2 p hp v2
      have ep : (x : Int) * (r : Int) + (p : Int) = ((x * r + p : Nat) : Int) := by push_cast; rfl
      have hkp := way_20 hmr.1 hmr.2 hx hp
      have ekp : ix ((x * r + p : Nat) : Int) = x * r + p := ix_n (by omega)
      have npo : x * r + p ≠ x * r + o := by omega
      rw [e72, ep, ekp]
      refine ok_f (by first | omega | ((try simp (disch := omega) only [w32_eq, w64_eq, ix_n, ix_e, sto_n, sto_e, sto_r, zf_r, Int.toNat_natCast, true_or, or_true, eq_self]) <;> (first | omega | decide))) (ok_chk (by first | omega | ((try simp (disch := omega) only [w32_eq, w64_eq, ix_n, ix_e, sto_n, sto_e, sto_r, zf_r, Int.toNat_natCast, true_or, or_true, eq_self]) <;> (first | omega | decide))) (ok_let (ok_chk (by first | omega | ((try simp (disch := omega) only [w32_eq, w64_eq, ix_n, ix_e, sto_n, sto_e, sto_r, zf_r, Int.toNat_natCast, true_or, or_true, eq_self]) <;> (first | omega | decide))) (ok_let ?_))))
      unfold k_Ya_carry_109
      refine ok_let ?_
      rw [hj]
      have w1 : sto M 70 (x * r + o) (M 70 (x * r + o) + z) 70 (x * r + p) = M 70 (x * r + p) := sto_n npo
      rw [w1]
      have q70 : sto (sto M 70 (x * r + o) (M 70 (x * r + o) + z)) 70 (x * r + p) (M 70 (x * r + p) - z) 70 = up (up (M 70) (x * r + o) (M 70 (x * r + o) + z)) (x * r + p) (M 70 (x * r + p) - z) := by rw [sto_up, sto_up]
      have nx := ih f (i + 1) p (sto (sto M 70 (x * r + o) (M 70 (x * r + o) + z)) 70 (x * r + p) (M 70 (x * r + p) - z)) (by omega) (by omega) hp (fun y hy q => ?_) (hFr.trans (Fr.trans (fr_stoA (by decide)) (fr_stoA (by decide)))) ?_ hzl.2
      · refine ok_mono nx (fun _ M' h => ⟨h.1, h.2.1, h.2.2.1, ?_⟩)
        rw [h.2.2.2, sto_r (by decide), sto_r (by decide)]
      · obtain ⟨y', hy', w', t', -⟩ := way_b hF hp
        have : y' = y := by rw [w'] at q; omega
        subst this
        have := rk_lt (m := m) (ta := ta) hy' (show ta y' < ta x by omega)
        omega
      · rw [q70, sto_r (show 67 ≠ 70 by decide), sto_r (show 67 ≠ 70 by decide), sto_r (show 68 ≠ 70 by decide), sto_r (show 68 ≠ 70 by decide)]
        exact ai_mid hz ho hx hp hpo t1 t2 d1 dx d2 hzl.1 hA
theorem ai_0 {m r : Nat} {c hv wn f0 lf0 wt d via : Nat → Int} {ta : Nat → Nat} {z : Int} {o : Nat} (hF : Fnd m r c f0 lf0 d via ta) (hI : FI m r hv wn f0 lf0 wt) (ho : o < r) (hz : z ≤ wt o) : AI m r c hv wn f0 lf0 d ta z (csS m r c f0 + z * d (m + o)) o f0 lf0 (up wt o (wt o - z)) := by
  obtain ⟨-, -, -, f4, -⟩ := hF
  obtain ⟨i1, i2, i3⟩ := hI
  refine ⟨fun b p hb hp => ⟨i1 b p hb hp, (f4 b p hb hp).2⟩, fun b hb => ⟨(i2 b hb).1, (i2 b hb).2, fun q => q⟩, fun p hp => ?_, rfl, fun b hb _ => ⟨rfl, fun p hp => rfl⟩⟩
  have := i3 p hp
  by_cases c : p = o
  · subst c; rw [up_e, if_pos rfl]; omega
  · rw [up_n c, if_neg c]; omega
theorem fi_bd {m r : Nat} {hv wn f lf wt : Nat → Int} (h : FI m r hv wn f lf wt) (h1 : ∀ b, b < m → hv b ≤ 30) (h2 : ∀ o, o < r → wn o ≤ 30) : (∀ k, k < m * r → 0 ≤ f k ∧ f k ≤ 30) ∧ (∀ b, b < m → 0 ≤ lf b ∧ lf b ≤ 30) ∧ ∀ o, o < r → 0 ≤ wt o ∧ wt o ≤ 30 := by
  obtain ⟨i1, i2, i3⟩ := h
  refine ⟨fun k hk => ?_, fun b hb => ?_, fun o ho => ?_⟩
  · have hr : 0 < r := by
      by_cases c : 0 < r
      · exact c
      · have : r = 0 := by omega
        rw [this, Nat.mul_zero] at hk; omega
    have e : k / r * r + k % r = k := by rw [Nat.mul_comm]; exact Nat.div_add_mod k r
    have hb : k / r < m := Nat.div_lt_of_lt_mul (by rw [Nat.mul_comm]; exact hk)
    have ho : k % r < r := Nat.mod_lt _ hr
    have g1 := i1 _ _ hb ho
    have g2 := i3 _ ho
    have g3 := sm_ge (w := fun b => f (b * r + k % r)) m (fun b hb => i1 b _ hb ho) (k / r) hb
    have g4 := h2 _ ho
    unfold clS at g2
    rw [e] at g1 g3
    omega
  · have := i2 b hb
    have := h1 b hb
    have g : 0 ≤ rwS r f b := sm_nn r (fun o ho => i1 b o hb ho)
    omega
  · have := i3 o ho
    have := h2 o ho
    have g : 0 ≤ clS m r f o := sm_nn m (fun b hb => i1 b o hb ho)
    omega
theorem fi_left {m r : Nat} {hv wn f lf wt : Nat → Int} (h : FI m r hv wn f lf wt) (hs : sm wn r ≤ sm hv m) {o : Nat} (ho : o < r) (hw : 0 < wt o) : ∃ b, b < m ∧ 0 < lf b := by
  obtain ⟨i1, i2, i3⟩ := h
  refine Classical.byContradiction fun q => ?_
  have z : sm lf m = 0 := sm_0 m (fun b hb => by
    have := (i2 b hb).1
    by_cases c : 0 < lf b
    · exact absurd ⟨b, hb, c⟩ q
    · omega)
  have e1 : sm hv m = sm lf m + sm (rwS r f) m := by
    rw [← sm_add]; exact sm_ext m (fun b hb => (i2 b hb).2.symm)
  have e2 : sm wn r = sm wt r + sm (clS m r f) r := by
    rw [← sm_add]; exact sm_ext r (fun o ho => (i3 o ho).2.symm)
  have e3 : sm (rwS r f) m = sm (clS m r f) r := sm_swap m
  have g := sm_ge (w := wt) r (fun o ho => (i3 o ho).1) o ho
  omega
theorem sm_2 {g : Nat → Int} {r : Nat} : ∀ m : Nat, sm g (m * r) = sm (fun b => sm (fun o => g (b * r + o)) r) m
  | 0 => by rw [Nat.zero_mul]; rfl
  | m + 1 => by
    rw [Nat.add_mul, Nat.one_mul, sm_split, sm_2 m]; rfl
theorem l_lc63 {m r : Nat} {M : Mem} (hmr : m ≤ 5 ∧ r ≤ 4) : ∀ j fuel k : Nat, k + j = m * r → j < fuel → fix (fun _ _ _ _ _ => none) k_Ya_leastCost_63 fuel (m : Int) (r : Int) (sm (fun k => M 69 k * M 70 k) k) (k : Int) M = some (csS m r (M 69) (M 70), M) := by
  have b1 : m * r ≤ 5 * 4 := Nat.mul_le_mul hmr.1 hmr.2
  have em : (m : Int) * (r : Int) = ((m * r : Nat) : Int) := by push_cast; rfl
  intro j; induction j with
  | zero =>
    intro fuel k e hf
    obtain ⟨f, rfl⟩ : ∃ f, fuel = f + 1 := ⟨fuel - 1, by omega⟩; rw [fix_s]; unfold k_Ya_leastCost_63
    rw [em]
    refine e_f (by first | omega | ((try simp (disch := omega) only [w32_eq, w64_eq, ix_n, ix_e, sto_n, sto_e, sto_r, zf_r, Int.toNat_natCast, true_or, or_true, eq_self]) <;> (first | omega | decide))) ?_
    rw [show k = m * r by omega, sm_2]; rfl
  | succ j ih =>
    intro fuel k e hf
    have hj : (k : Int) + 1 = ((k + 1 : Nat) : Int) := by omega
    have ek : ix (k : Int) = k := ix_n (by omega)
    obtain ⟨f, rfl⟩ : ∃ f, fuel = f + 1 := ⟨fuel - 1, by omega⟩; rw [fix_s]
    have := ih f (k + 1) (by omega) (by omega)
    unfold k_Ya_leastCost_63
    rw [em]
    refine e_t (by first | omega | ((try simp (disch := omega) only [w32_eq, w64_eq, ix_n, ix_e, sto_n, sto_e, sto_r, zf_r, Int.toNat_natCast, true_or, or_true, eq_self]) <;> (first | omega | decide))) (e_chk (by first | omega | ((try simp (disch := omega) only [w32_eq, w64_eq, ix_n, ix_e, sto_n, sto_e, sto_r, zf_r, Int.toNat_natCast, true_or, or_true, eq_self]) <;> (first | omega | decide))) (e_let (e_chk (by first | omega | ((try simp (disch := omega) only [w32_eq, w64_eq, ix_n, ix_e, sto_n, sto_e, sto_r, zf_r, Int.toNat_natCast, true_or, or_true, eq_self]) <;> (first | omega | decide))) (e_let (e_let (e_let ?_))))))
    rw [ek, hj, Int.mul_comm (M 70 k)]
    exact this
theorem l_lc10 {m r : Nat} {B : Mem} {hv wn : Nat → Int} (hmr : m ≤ 5 ∧ r ≤ 4) (hc : ∀ k, k < m * r → 0 ≤ B 69 k ∧ B 69 k ≤ 100) (h1 : ∀ b, b < m → hv b ≤ 30) (h2 : ∀ o, o < r → wn o ≤ 30) (hs : sm wn r ≤ sm hv m) :
    ∀ (j fuel i : Nat) (M : Mem), i + j = 120 → j < fuel → Fr [67, 68, 70, 71, 72, 73, 74] [] B M → FI m r hv wn (M 70) (M 67) (M 68) → (∃ pot, Cer m r (B 69) (M 70) (M 67) pot) → sm (M 68) r ≤ j →
    Ok (fix (fun _ _ _ _ => none) k_Ya_leastCost_10 fuel (m : Int) (r : Int) (i : Int) M) (fun v _ => ∃ f lf, FI m r hv wn f lf (fun _ => 0) ∧ (∃ pot, Cer m r (B 69) f lf pot) ∧ v = csS m r (B 69) f) := by
  have fin : ∀ M : Mem, M 69 = B 69 → FI m r hv wn (M 70) (M 67) (M 68) → (∃ pot, Cer m r (B 69) (M 70) (M 67) pot) → (∀ o, o < r → M 68 o = 0) → Ok (k_Ya_leastCost_58 (m : Int) (r : Int) M) (fun v _ => ∃ f lf, FI m r hv wn f lf (fun _ => 0) ∧ (∃ pot, Cer m r (B 69) f lf pot) ∧ v = csS m r (B 69) f) := by
    intro M e69 hI hC hz
    have b1 : m * r ≤ 5 * 4 := Nat.mul_le_mul hmr.1 hmr.2
    unfold k_Ya_leastCost_58
    have q := l_lc63 (M := M) hmr (m * r) FU 0 (by omega) (by unfold FU; omega)
    refine ⟨_, _, q, M 70, M 67, ⟨hI.1, hI.2.1, fun o ho => ?_⟩, hC, by rw [e69]⟩
    have := hI.2.2 o ho
    rw [hz o ho] at this
    exact this
  intro j; induction j with
  | zero =>
    intro fuel i M e hf hFr hI hC hsm
    obtain ⟨f, rfl⟩ : ∃ f, fuel = f + 1 := ⟨fuel - 1, by omega⟩; rw [fix_s]; unfold k_Ya_leastCost_10
    refine ok_f (by first | omega | ((try simp (disch := omega) only [w32_eq, w64_eq, ix_n, ix_e, sto_n, sto_e, sto_r, zf_r, Int.toNat_natCast, true_or, or_true, eq_self]) <;> (first | omega | decide))) (fin M (hFr.c 69 (by decide) (by decide)) hI hC (fun o ho => ?_))
    have g := sm_ge (w := M 68) r (fun o ho => (hI.2.2 o ho).1) o ho
    have := (hI.2.2 o ho).1
    omega
  | succ j ih =>
    intro fuel i M e hf hFr hI hC hsm
    have hj : (i : Int) + 1 = ((i + 1 : Nat) : Int) := by omega
    have u69 := hFr.c 69 (by decide) (by decide)
    obtain ⟨bd1, bd2, bd3⟩ := fi_bd hI h1 h2
    obtain ⟨pot, hC'⟩ := hC
    obtain ⟨f, rfl⟩ : ∃ f, fuel = f + 1 := ⟨fuel - 1, by omega⟩; rw [fix_s]; unfold k_Ya_leastCost_10
    refine ok_t (by first | omega | ((try simp (disch := omega) only [w32_eq, w64_eq, ix_n, ix_e, sto_n, sto_e, sto_r, zf_r, Int.toNat_natCast, true_or, or_true, eq_self]) <;> (first | omega | decide))) (ok_call (s_findWays (m := m) (r := r) (M := M) (pot := pot) ⟨hmr, fun k hk => ⟨by rw [u69]; exact hc k hk, bd1 k hk⟩⟩ bd2 (by rw [u69]; exact hC')) (fun _ X hX => ?_))
    obtain ⟨x1, xF⟩ := hX
    have x67 := xF.c 67 (by decide) (by decide)
    have x68 := xF.c 68 (by decide) (by decide)
    have x69 := xF.c 69 (by decide) (by decide)
    have x70 := xF.c 70 (by decide) (by decide)
    obtain ⟨v, e1, e2⟩ := cheap_ok (r := r) (M := X) hmr.2 (by rw [x68]; exact bd3) (fun o ho hw => by
      rw [x68] at hw
      obtain ⟨ta, hF⟩ := x1 (fi_left hI hs ho hw)
      have g1 := hF.1 (m + o) (by omega)
      have g2 := hF.2.2.1 o ho
      rw [dC_o] at g1 g2
      omega)
    refine ok_call_eq e1 ?_
    rcases e2 with ⟨rfl, hz⟩ | ⟨o, rfl, ho, hw⟩
    · refine ok_t (by decide) (fin X (by rw [x69, u69]) (by rw [x70, x67, x68]; exact hI) ⟨pot, by rw [x70, x67]; exact hC'⟩ hz)
    · have hw' := hw
      rw [x68] at hw'
      obtain ⟨ta, hF⟩ := x1 (fi_left hI hs ho hw')
      rw [← x69, ← x70, ← x67] at hF
      have eo : ix (o : Int) = o := ix_n (by omega)
      have hwo := bd3 o ho
      rw [← x68] at hwo
      obtain ⟨z, z1, z2, z3, z4⟩ := l_great (M := X) hmr hF (by rw [x67]; exact bd2) (by rw [x70]; exact bd1) 5 FU 0 o (X 68 o) (by omega) (by unfold FU; omega) ho (by omega)
      refine ok_f (by first | omega | ((try simp (disch := omega) only [w32_eq, w64_eq, ix_n, ix_e, sto_n, sto_e, sto_r, zf_r, Int.toNat_natCast, true_or, or_true, eq_self]) <;> (first | omega | decide))) (ok_call_eq (v := z) (M := X) ?_ ?_)
      · unfold d_Ya_greatestLoad
        refine e_chk (by first | omega | ((try simp (disch := omega) only [w32_eq, w64_eq, ix_n, ix_e, sto_n, sto_e, sto_r, zf_r, Int.toNat_natCast, true_or, or_true, eq_self]) <;> (first | omega | decide))) (e_let ?_)
        rw [eo]; exact z1
      · have hI' : FI m r hv wn (X 70) (X 67) (X 68) := by rw [x70, x67, x68]; exact hI
        refine ok_call (Q := fun _ M' => (FI m r hv wn (M' 70) (M' 67) (M' 68) ∧ (∃ pot, Cer m r (X 69) (M' 70) (M' 67) pot) ∧ M' 68 = up (X 68) o (X 68 o - z)) ∧ Fr [67, 68, 70] [] X M') (ok_fr ?_ (fun r hr => w_Ya_carry hr)) (fun _ Y hY => ?_)
        · unfold d_Ya_carry
          refine ok_chk (by first | omega | ((try simp (disch := omega) only [w32_eq, w64_eq, ix_n, ix_e, sto_n, sto_e, sto_r, zf_r, Int.toNat_natCast, true_or, or_true, eq_self]) <;> (first | omega | decide))) (ok_let (ok_chk (by first | omega | ((try simp (disch := omega) only [w32_eq, w64_eq, ix_n, ix_e, sto_n, sto_e, sto_r, zf_r, Int.toNat_natCast, true_or, or_true, eq_self]) <;> (first | omega | decide))) (ok_let ?_)))
          rw [eo]
          have s : ∀ c, c ≠ 68 → sto X 68 o (X 68 o - z) c = X c := fun c h => sto_r h
          have sd : dC m (sto X 68 o (X 68 o - z)) = dC m X := by unfold dC; rw [s 71 (by decide), s 73 (by decide)]
          have sv : vC m (sto X 68 o (X 68 o - z)) = vC m X := by unfold vC; rw [s 72 (by decide), s 74 (by decide)]
          have q := l_carry (B := sto X 68 o (X 68 o - z)) (ta := ta) (hv := hv) (wn := wn) (z := z) (T := csS m r (X 69) (X 70) + z * dC m X (m + o)) hmr (by omega) (by rw [s 69 (by decide), x69, u69]; exact hc) (by rw [s 69 (by decide), s 70 (by decide), s 67 (by decide), sd, sv]; exact hF) 5 FU 0 o (sto X 68 o (X 68 o - z)) (by omega) (by unfold FU; omega) ho (fun x hx _ => by have := rk_b (ta := ta) hx; omega) Fr.rfl' (by
            rw [s 69 (by decide), s 70 (by decide), s 67 (by decide), sd, sto_up]
            exact ai_0 hF hI' ho z3) (by rw [s 70 (by decide), s 67 (by decide), sv]; exact z4)
          refine ok_mono q (fun _ M' h => ⟨h.1, ?_, ?_⟩)
          · rw [← s 69 (by decide)]; exact h.2.1
          · rw [h.2.2.2, sto_up]
        · obtain ⟨⟨y1, y2, y3⟩, yF⟩ := hY
          refine ok_let ?_
          rw [hj]
          refine ih f (i + 1) Y (by omega) (by omega) (Fr.trans hFr (Fr.trans (xF.mono (by decide) (by decide)) (yF.mono (by decide) (by decide)))) y1 ?_ ?_
          · rw [x69, u69] at y2; exact y2
          · rw [y3, sm_up r ho, x68]; omega
theorem s_leastCost {m r : Nat} {M : Mem} (hmr : m ≤ 5 ∧ r ≤ 4) (hc : ∀ k, k < m * r → 0 ≤ M 69 k ∧ M 69 k ≤ 100) (h1 : ∀ b, b < m → 0 ≤ M 67 b ∧ M 67 b ≤ 30) (h2 : ∀ o, o < r → 0 ≤ M 68 o ∧ M 68 o ≤ 30) (hs : sm (M 68) r ≤ sm (M 67) m) :
    Ok (d_Ya_leastCost (m : Int) (r : Int) M) (fun v M' => (∃ f lf, FI m r (M 67) (M 68) f lf (fun _ => 0) ∧ (∃ pot, Cer m r (M 69) f lf pot) ∧ v = csS m r (M 69) f) ∧ Fr [67, 68, 70, 71, 72, 73, 74] [] M M') := by
  refine ok_fr ?_ (fun r hr => w_Ya_leastCost hr)
  unfold d_Ya_leastCost
  refine ok_call_eq (s_fill1 (by decide)) ?_
  have z : ∀ c, c ≠ 70 → zf M 70 0 20 0 c = M c := fun c h => zf_r h
  have z0 : ∀ k, k < m * r → zf M 70 0 20 0 70 k = 0 := fun k hk => by
    have b1 : m * r ≤ 5 * 4 := Nat.mul_le_mul hmr.1 hmr.2
    rw [zf_c, if_pos (by omega)]
  have q := l_lc10 (B := zf M 70 0 20 0) (hv := M 67) (wn := M 68) hmr (by rw [z 69 (by decide)]; exact hc) (fun b hb => (h1 b hb).2) (fun o ho => (h2 o ho).2) hs 120 FU 0 (zf M 70 0 20 0) (by omega) (by unfold FU; omega) Fr.rfl' ⟨fun b o hb ho => by rw [z0 _ (way_l hb ho)]; exact Int.le_refl _, fun b hb => ?_, fun o ho => ?_⟩ ⟨fun _ => 0, fun b o hb ho => ?_, fun _ _ _ => rfl, fun _ _ => ⟨Int.le_refl _, show (0 : Int) ≤ 36000 by decide⟩⟩ ?_
  · rw [z 69 (by decide)] at q; exact q
  · rw [z 67 (by decide)]
    refine ⟨(h1 b hb).1, ?_⟩
    unfold rwS
    rw [sm_0 r (fun o ho => z0 _ (way_l hb ho))]; omega
  · rw [z 68 (by decide)]
    refine ⟨(h2 o ho).1, ?_⟩
    unfold clS
    rw [sm_0 m (fun b hb => z0 _ (way_l hb ho))]; omega
  · rw [z0 _ (way_l hb ho), z 69 (by decide)]
    have := hc _ (way_l hb ho)
    exact ⟨by show (0 : Int) ≤ 0 + _; omega, fun h => absurd h (by decide)⟩
  · rw [z 68 (by decide)]
    have := sm_b (w := M 68) (c := 30) r (fun o ho => (h2 o ho).2)
    omega
