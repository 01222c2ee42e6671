/-! on whom votes hang: the model adds and takes back -/
theorem bit_at {s k : Nat} (hs : s < 2147483648) (hk : k < 31) : an32 (sr32 (s : Int) (k : Int)) 1 = ((bt s k : Nat) : Int) := by
  have hle : s / 2 ^ k ≤ s := Nat.div_le_self _ _
  rw [sr32_nat hs hk]
  have := an32_nat (x := s / 2 ^ k) (y := 1) (by omega) (by decide)
  rw [show ((1 : Nat) : Int) = 1 from rfl] at this
  rw [this, Nat.and_one_is_mod]; rfl
/-- the votes that a set adds to district d -/
def adR (op : Nat → Nat) (ds u : Nat → Int) (s d n : Nat) : Int := sm (fun k => if bt s k = 1 ∧ ds (op k) = (d : Int) then u (op k) else 0) n
theorem l_addF {s m N : Nat} {op : Nat → Nat} {M0 : Mem} {sg : Int} (hs : s < 2147483648) (hm : m ≤ 20) (hop : ∀ k, k < m → M0 173 k = (op k : Int) ∧ op k < 20 ∧ (0 ≤ M0 115 (op k) ∧ M0 115 (op k) ≤ 5)) :
    ∀ j fuel i : Nat, i + j = m → j < fuel → fix (fun _ _ _ _ _ _ => none) k_Mo_add_3 fuel (s : Int) (m : Int) 0 sg (i : Int) (sc M0 175 (fun d => M0 175 d + w32 sg * adR op (M0 115) (M0 177) s d i)) = some (0, sc M0 175 (fun d => M0 175 d + w32 sg * adR op (M0 115) (M0 177) s d m)) := by
  intro j; induction j with
  | zero =>
    intro fuel i e hf
    obtain ⟨f, rfl⟩ : ∃ f, fuel = f + 1 := ⟨fuel - 1, by omega⟩; rw [fix_s]; unfold k_Mo_add_3
    repeat (first | with_reducible refine e_let ?_ | with_reducible refine e_cs ?_ | with_reducible refine e_clet ?_ | with_reducible refine e_cc ?_ | (with_reducible refine e_chk ?_ ?_; · (first | omega | ((try simp (disch := omega) only [w32_eq, w64_eq, ix_n, ix_e, sto_n, sto_e, sto_r, zf_r, Int.toNat_natCast, true_or, or_true, eq_self]) <;> (first | omega | decide)))) | (with_reducible refine e_cchk ?_ ?_; · (first | omega | ((try simp (disch := omega) only [w32_eq, w64_eq, ix_n, ix_e, sto_n, sto_e, sto_r, zf_r, Int.toNat_natCast, true_or, or_true, eq_self]) <;> (first | omega | decide)))) | (with_reducible refine e_t ?_ ?_; · (first | omega | ((try simp (disch := omega) only [w32_eq, w64_eq, ix_n, ix_e, sto_n, sto_e, sto_r, zf_r, Int.toNat_natCast, true_or, or_true, eq_self]) <;> (first | omega | decide)))) | (with_reducible refine e_f ?_ ?_; · (first | omega | ((try simp (disch := omega) only [w32_eq, w64_eq, ix_n, ix_e, sto_n, sto_e, sto_r, zf_r, Int.toNat_natCast, true_or, or_true, eq_self]) <;> (first | omega | decide)))) | (with_reducible refine e_ct ?_ ?_; · (first | omega | ((try simp (disch := omega) only [w32_eq, w64_eq, ix_n, ix_e, sto_n, sto_e, sto_r, zf_r, Int.toNat_natCast, true_or, or_true, eq_self]) <;> (first | omega | decide)))) | (with_reducible refine e_cf ?_ ?_; · (first | omega | ((try simp (disch := omega) only [w32_eq, w64_eq, ix_n, ix_e, sto_n, sto_e, sto_r, zf_r, Int.toNat_natCast, true_or, or_true, eq_self]) <;> (first | omega | decide)))))
    rw [show i = m by omega]
  | succ j ih =>
    intro fuel i e hf
    have hj : (i : Int) + 1 = ((i + 1 : Nat) : Int) := by omega
    have ei : ix (i : Int) = i := ix_n (by omega)
    obtain ⟨h1, h2, h3⟩ := hop i (by omega)
    have hb := bt_b s i
    have eo : ix (op i : Int) = op i := ix_n (by omega)
    have ed : ix (M0 115 (op i)) = (M0 115 (op i)).toNat := ix_e (by omega) (by omega)
    have sA : ∀ d, adR op (M0 115) (M0 177) s d (i + 1) = adR op (M0 115) (M0 177) s d i + (if bt s i = 1 ∧ M0 115 (op i) = (d : Int) then M0 177 (op i) else 0) := fun d => rfl
    obtain ⟨f, rfl⟩ : ∃ f, fuel = f + 1 := ⟨fuel - 1, by omega⟩; rw [fix_s]
    have := ih f (i + 1) (by omega) (by omega)
    rw [← hj] at this
    unfold k_Mo_add_3
    refine e_t (by first | omega | ((try simp (disch := omega) only [w32_eq, w64_eq, ix_n, ix_e, sto_n, sto_e, sto_r, zf_r, Int.toNat_natCast, true_or, or_true, eq_self]) <;> (first | omega | decide))) ?_
    rw [bit_at hs (by omega), w32_eq (x := ((bt s i : Nat) : Int)) (by omega) (by omega)]
    by_cases c : bt s i = 0
    · refine e_t (by omega) ?_
      unfold k_Mo_add_89
      refine e_let ?_
      have e1 : (fun d => M0 175 d + w32 sg * adR op (M0 115) (M0 177) s d i) = (fun d => M0 175 d + w32 sg * adR op (M0 115) (M0 177) s d (i + 1)) := by
        funext d; rw [sA d, if_neg (by omega), Int.add_zero]
      rw [e1]; exact this
    · refine e_f (by omega) (e_chk (by first | omega | ((try simp (disch := omega) only [w32_eq, w64_eq, ix_n, ix_e, sto_n, sto_e, sto_r, zf_r, Int.toNat_natCast, true_or, or_true, eq_self]) <;> (first | omega | decide))) (e_let ?_))
      rw [ei, sc_r (show 173 ≠ 175 by decide), h1]
      refine e_t (by decide) (e_chk (by first | omega | ((try simp (disch := omega) only [w32_eq, w64_eq, ix_n, ix_e, sto_n, sto_e, sto_r, zf_r, Int.toNat_natCast, true_or, or_true, eq_self]) <;> (first | omega | decide))) (e_let ?_))
      rw [eo, sc_r (show 115 ≠ 175 by decide)]
      refine e_chk (by first | omega | ((try simp (disch := omega) only [w32_eq, w64_eq, ix_n, ix_e, sto_n, sto_e, sto_r, zf_r, Int.toNat_natCast, true_or, or_true, eq_self]) <;> (first | omega | decide))) (e_let (e_chk (by first | omega | ((try simp (disch := omega) only [w32_eq, w64_eq, ix_n, ix_e, sto_n, sto_e, sto_r, zf_r, Int.toNat_natCast, true_or, or_true, eq_self]) <;> (first | omega | decide))) (e_let (e_chk (by first | omega | ((try simp (disch := omega) only [w32_eq, w64_eq, ix_n, ix_e, sto_n, sto_e, sto_r, zf_r, Int.toNat_natCast, true_or, or_true, eq_self]) <;> (first | omega | decide))) (e_let ?_)))))
      unfold k_Mo_add_89
      refine e_let ?_
      rw [ed, sc_e, sc_r (show 177 ≠ 175 by decide), sto_sc]
      have e1 : up (fun d => M0 175 d + w32 sg * adR op (M0 115) (M0 177) s d i) (M0 115 (op i)).toNat (M0 175 (M0 115 (op i)).toNat + w32 sg * adR op (M0 115) (M0 177) s (M0 115 (op i)).toNat i + w32 sg * M0 177 (op i)) = (fun d => M0 175 d + w32 sg * adR op (M0 115) (M0 177) s d (i + 1)) := by
        funext d
        unfold up
        rw [sA d]
        by_cases q : d = (M0 115 (op i)).toNat
        · rw [if_pos q, if_pos (by omega), Int.mul_add, q]; omega
        · rw [if_neg q, if_neg (by omega), Int.add_zero]
      rw [e1]; exact this
theorem s_addF {s m : Nat} {op : Nat → Nat} {M : Mem} {sg : Int} (hs : s < 2147483648) (hm : m ≤ 20) (hop : ∀ k, k < m → M 173 k = (op k : Int) ∧ op k < 20 ∧ (0 ≤ M 115 (op k) ∧ M 115 (op k) ≤ 5)) : d_Mo_add (s : Int) (m : Int) 0 sg M = some (0, sc M 175 (fun d => M 175 d + w32 sg * adR op (M 115) (M 177) s d m)) := by
  unfold d_Mo_add
  have q := l_addF (N := 0) (M0 := M) (sg := sg) hs hm hop m FU 0 (by omega) (by unfold FU; omega)
  have e : (fun d => M 175 d + w32 sg * adR op (M 115) (M 177) s d 0) = M 175 := by
    funext d; show M 175 d + w32 sg * 0 = M 175 d; rw [Int.mul_zero]; omega
  rw [e, sc_0] at q; exact q
theorem l_addA {s m N : Nat} {op : Nat → Nat} {M0 : Mem} {sg : Int} (hs : s < 2147483648) (hm : m ≤ 20) (hop : ∀ k, k < m → M0 173 k = (op k : Int) ∧ op k < 20 ∧ (0 ≤ M0 115 (op k) ∧ M0 115 (op k) ≤ 5)) :
    ∀ j fuel i : Nat, i + j = m → j < fuel → fix (fun _ _ _ _ _ _ => none) k_Mo_add_3 fuel (s : Int) (m : Int) 1 sg (i : Int) (sc M0 176 (fun d => M0 176 d + w32 sg * adR op (M0 115) (M0 177) s d i)) = some (0, sc M0 176 (fun d => M0 176 d + w32 sg * adR op (M0 115) (M0 177) s d m)) := by
  intro j; induction j with
  | zero =>
    intro fuel i e hf
    obtain ⟨f, rfl⟩ : ∃ f, fuel = f + 1 := ⟨fuel - 1, by omega⟩; rw [fix_s]; unfold k_Mo_add_3
    repeat (first | with_reducible refine e_let ?_ | with_reducible refine e_cs ?_ | with_reducible refine e_clet ?_ | with_reducible refine e_cc ?_ | (with_reducible refine e_chk ?_ ?_; · (first | omega | ((try simp (disch := omega) only [w32_eq, w64_eq, ix_n, ix_e, sto_n, sto_e, sto_r, zf_r, Int.toNat_natCast, true_or, or_true, eq_self]) <;> (first | omega | decide)))) | (with_reducible refine e_cchk ?_ ?_; · (first | omega | ((try simp (disch := omega) only [w32_eq, w64_eq, ix_n, ix_e, sto_n, sto_e, sto_r, zf_r, Int.toNat_natCast, true_or, or_true, eq_self]) <;> (first | omega | decide)))) | (with_reducible refine e_t ?_ ?_; · (first | omega | ((try simp (disch := omega) only [w32_eq, w64_eq, ix_n, ix_e, sto_n, sto_e, sto_r, zf_r, Int.toNat_natCast, true_or, or_true, eq_self]) <;> (first | omega | decide)))) | (with_reducible refine e_f ?_ ?_; · (first | omega | ((try simp (disch := omega) only [w32_eq, w64_eq, ix_n, ix_e, sto_n, sto_e, sto_r, zf_r, Int.toNat_natCast, true_or, or_true, eq_self]) <;> (first | omega | decide)))) | (with_reducible refine e_ct ?_ ?_; · (first | omega | ((try simp (disch := omega) only [w32_eq, w64_eq, ix_n, ix_e, sto_n, sto_e, sto_r, zf_r, Int.toNat_natCast, true_or, or_true, eq_self]) <;> (first | omega | decide)))) | (with_reducible refine e_cf ?_ ?_; · (first | omega | ((try simp (disch := omega) only [w32_eq, w64_eq, ix_n, ix_e, sto_n, sto_e, sto_r, zf_r, Int.toNat_natCast, true_or, or_true, eq_self]) <;> (first | omega | decide)))))
    rw [show i = m by omega]
  | succ j ih =>
    intro fuel i e hf
    have hj : (i : Int) + 1 = ((i + 1 : Nat) : Int) := by omega
    have ei : ix (i : Int) = i := ix_n (by omega)
    obtain ⟨h1, h2, h3⟩ := hop i (by omega)
    have hb := bt_b s i
    have eo : ix (op i : Int) = op i := ix_n (by omega)
    have ed : ix (M0 115 (op i)) = (M0 115 (op i)).toNat := ix_e (by omega) (by omega)
    have sA : ∀ d, adR op (M0 115) (M0 177) s d (i + 1) = adR op (M0 115) (M0 177) s d i + (if bt s i = 1 ∧ M0 115 (op i) = (d : Int) then M0 177 (op i) else 0) := fun d => rfl
    obtain ⟨f, rfl⟩ : ∃ f, fuel = f + 1 := ⟨fuel - 1, by omega⟩; rw [fix_s]
    have := ih f (i + 1) (by omega) (by omega)
    rw [← hj] at this
    unfold k_Mo_add_3
    refine e_t (by first | omega | ((try simp (disch := omega) only [w32_eq, w64_eq, ix_n, ix_e, sto_n, sto_e, sto_r, zf_r, Int.toNat_natCast, true_or, or_true, eq_self]) <;> (first | omega | decide))) ?_
    rw [bit_at hs (by omega), w32_eq (x := ((bt s i : Nat) : Int)) (by omega) (by omega)]
    by_cases c : bt s i = 0
    · refine e_t (by omega) ?_
      unfold k_Mo_add_89
      refine e_let ?_
      have e1 : (fun d => M0 176 d + w32 sg * adR op (M0 115) (M0 177) s d i) = (fun d => M0 176 d + w32 sg * adR op (M0 115) (M0 177) s d (i + 1)) := by
        funext d; rw [sA d, if_neg (by omega), Int.add_zero]
      rw [e1]; exact this
    · refine e_f (by omega) (e_chk (by first | omega | ((try simp (disch := omega) only [w32_eq, w64_eq, ix_n, ix_e, sto_n, sto_e, sto_r, zf_r, Int.toNat_natCast, true_or, or_true, eq_self]) <;> (first | omega | decide))) (e_let ?_))
      rw [ei, sc_r (show 173 ≠ 176 by decide), h1]
      refine e_f (by decide) (e_chk (by first | omega | ((try simp (disch := omega) only [w32_eq, w64_eq, ix_n, ix_e, sto_n, sto_e, sto_r, zf_r, Int.toNat_natCast, true_or, or_true, eq_self]) <;> (first | omega | decide))) (e_let ?_))
      rw [eo, sc_r (show 115 ≠ 176 by decide)]
      refine e_chk (by first | omega | ((try simp (disch := omega) only [w32_eq, w64_eq, ix_n, ix_e, sto_n, sto_e, sto_r, zf_r, Int.toNat_natCast, true_or, or_true, eq_self]) <;> (first | omega | decide))) (e_let (e_chk (by first | omega | ((try simp (disch := omega) only [w32_eq, w64_eq, ix_n, ix_e, sto_n, sto_e, sto_r, zf_r, Int.toNat_natCast, true_or, or_true, eq_self]) <;> (first | omega | decide))) (e_let (e_chk (by first | omega | ((try simp (disch := omega) only [w32_eq, w64_eq, ix_n, ix_e, sto_n, sto_e, sto_r, zf_r, Int.toNat_natCast, true_or, or_true, eq_self]) <;> (first | omega | decide))) (e_let ?_)))))
      unfold k_Mo_add_89
      refine e_let ?_
      rw [ed, sc_e, sc_r (show 177 ≠ 176 by decide), sto_sc]
      have e1 : up (fun d => M0 176 d + w32 sg * adR op (M0 115) (M0 177) s d i) (M0 115 (op i)).toNat (M0 176 (M0 115 (op i)).toNat + w32 sg * adR op (M0 115) (M0 177) s (M0 115 (op i)).toNat i + w32 sg * M0 177 (op i)) = (fun d => M0 176 d + w32 sg * adR op (M0 115) (M0 177) s d (i + 1)) := by
        funext d
        unfold up
        rw [sA d]
        by_cases q : d = (M0 115 (op i)).toNat
        · rw [if_pos q, if_pos (by omega), Int.mul_add, q]; omega
        · rw [if_neg q, if_neg (by omega), Int.add_zero]
      rw [e1]; exact this
theorem s_addA {s m : Nat} {op : Nat → Nat} {M : Mem} {sg : Int} (hs : s < 2147483648) (hm : m ≤ 20) (hop : ∀ k, k < m → M 173 k = (op k : Int) ∧ op k < 20 ∧ (0 ≤ M 115 (op k) ∧ M 115 (op k) ≤ 5)) : d_Mo_add (s : Int) (m : Int) 1 sg M = some (0, sc M 176 (fun d => M 176 d + w32 sg * adR op (M 115) (M 177) s d m)) := by
  unfold d_Mo_add
  have q := l_addA (N := 0) (M0 := M) (sg := sg) hs hm hop m FU 0 (by omega) (by unfold FU; omega)
  have e : (fun d => M 176 d + w32 sg * adR op (M 115) (M 177) s d 0) = M 176 := by
    funext d; show M 176 d + w32 sg * 0 = M 176 d; rw [Int.mul_zero]; omega
  rw [e, sc_0] at q; exact q
theorem HgS_u {n : Nat} {ds v fr g : Nat → Int} {G : Nat} {x y : Int} (hx : HgS n ds v fr g G x) (hy : HgS n ds v fr g G y) : x = y := by
  have sb : ∀ C : Nat → Int, (∀ f, C f = 0 ∨ (C f = 1 ∧ fr f = 1 ∧ f < n)) → sbs n fr C := fun C h f _ => by
    rcases h f with q | q
    · exact Or.inl q
    · exact Or.inr ⟨q.1, q.2.1⟩
  rcases hx with ⟨hx, h1⟩ | ⟨C, L, hx, c1, c2, c3, c4, c5⟩
  · rcases hy with ⟨hy, -⟩ | ⟨C', L', hy, d1, d2, d3, d4, d5⟩
    · rw [hx, hy]
    · exact absurd d2 (h1 C' (sb C' d1))
  · rcases hy with ⟨hy, h2⟩ | ⟨C', L', hy, d1, d2, d3, d4, d5⟩
    · exact absurd c2 (h2 C (sb C c1))
    · have l1 := c4 C' (sb C' d1) d2
      have l2 := d4 C (sb C c1) c2
      have eL : L = L' := by omega
      have e : ∀ f, f < n → C' f = C f := by
        rcases c5 C' (sb C' d1) d2 (by omega) with q | ⟨f, f1, f2, f3, f4⟩
        · exact q
        · rcases d5 C (sb C c1) c2 (by omega) with q | ⟨h, h1, h2, h3, h4⟩
          · exact fun f hf => (q f hf).symm
          · exfalso
            by_cases p : f < h
            · have := f4 h p h1
              omega
            · by_cases r : h < f
              · have := h4 f r f1
                omega
              · have : f = h := by omega
                subst this
                omega
      rw [hx, hy]
      exact sm_ext n (fun f hf => by rw [e f hf])
