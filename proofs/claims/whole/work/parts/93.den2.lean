/-! what a text's marks come to: the model -/
theorem s_pushR {x z : Int} {h : Nat} {M : Mem} (h1 : M 111 72 = (h : Int)) (h2 : h < 600) : d_Mo_push x z M = some (0, sto (sto (sto M 155 h x) 158 h z) 111 72 ((h + 1 : Nat) : Int)) := by
  have x0 : ix (h : Int) = h := ix_n (by omega)
  unfold d_Mo_push
  repeat (first | with_reducible refine e_let ?_ | with_reducible refine e_cs ?_ | with_reducible refine e_clet ?_ | with_reducible refine e_cc ?_ | (with_reducible refine e_chk ?_ ?_; · (first | omega | ((try simp (disch := omega) only [w32_eq, w64_eq, ix_n, ix_e, sto_n, sto_e, sto_r, zf_r, Int.toNat_natCast, true_or, or_true, eq_self, h1, x0]) <;> (first | omega | decide)))) | (with_reducible refine e_cchk ?_ ?_; · (first | omega | ((try simp (disch := omega) only [w32_eq, w64_eq, ix_n, ix_e, sto_n, sto_e, sto_r, zf_r, Int.toNat_natCast, true_or, or_true, eq_self, h1, x0]) <;> (first | omega | decide)))) | (with_reducible refine e_t ?_ ?_; · (first | omega | ((try simp (disch := omega) only [w32_eq, w64_eq, ix_n, ix_e, sto_n, sto_e, sto_r, zf_r, Int.toNat_natCast, true_or, or_true, eq_self, h1, x0]) <;> (first | omega | decide)))) | (with_reducible refine e_f ?_ ?_; · (first | omega | ((try simp (disch := omega) only [w32_eq, w64_eq, ix_n, ix_e, sto_n, sto_e, sto_r, zf_r, Int.toNat_natCast, true_or, or_true, eq_self, h1, x0]) <;> (first | omega | decide)))) | (with_reducible refine e_ct ?_ ?_; · (first | omega | ((try simp (disch := omega) only [w32_eq, w64_eq, ix_n, ix_e, sto_n, sto_e, sto_r, zf_r, Int.toNat_natCast, true_or, or_true, eq_self, h1, x0]) <;> (first | omega | decide)))) | (with_reducible refine e_cf ?_ ?_; · (first | omega | ((try simp (disch := omega) only [w32_eq, w64_eq, ix_n, ix_e, sto_n, sto_e, sto_r, zf_r, Int.toNat_natCast, true_or, or_true, eq_self, h1, x0]) <;> (first | omega | decide)))))
  rw [h1, sto_r (by decide), h1, x0, sto_r (by decide), sto_r (by decide), h1]
  rfl
def rop (w : Int) : Int := if w ≤ 10 then w - 1 else if w ≤ 12 then w + 2 else w - 3
theorem s_both {h : Nat} {w v : Int} {A B : Int × Int} {M : Mem} (hw : 4 ≤ w ∧ w ≤ 15) (hv : 0 ≤ v ∧ v < 1048576) (H : StR h A B M) : Ok (d_Mo_both (rop w) v M) (fun _ M' => PoR h (bnV w v A B) M M') := by
  obtain ⟨h1, h2, h3, h4, h5, h6⟩ := H
  have x0 : ix (((h + 2 : Nat) : Int) - 2) = h := by rw [ix_e (by omega) (by omega)]; omega
  have x1 : ix (((h + 2 : Nat) : Int) - 2 + 1) = h + 1 := by rw [ix_e (by omega) (by omega)]; omega
  have pa : A.2 = 0 ∨ A.2 = 1 := by omega
  have pb : B.2 = 0 ∨ B.2 = 1 := by omega
  have m72 : (sto M 111 72 (((h + 2 : Nat) : Int) - 2)) 111 72 = (h : Int) := by rw [sto_e]; omega
  have fin : ∀ x z : Int, w64 x = (bnV w v A B).1 → z % 2 = (bnV w v A B).2 → Ok (bcall (d_Mo_push x z (sto M 111 72 (((h + 2 : Nat) : Int) - 2))) fun _ M2 => some (0, M2)) (fun _ M' => PoR h (bnV w v A B) M M') := fun x z q1 q2 => by
    refine ok_call_eq (s_pushR m72 (by omega)) ?_
    refine ok_ret ⟨sto_e, ?_, ?_, fun i hi => ⟨?_, ?_⟩⟩
    · rw [sto_r (by decide), sto_r (by decide), sto_e]; exact q1
    · rw [sto_r (by decide), sto_e]; exact q2
    · simp (disch := omega) only [w32_eq, w64_eq, ix_n, ix_e, sto_n, sto_e, sto_r, zf_r, Int.toNat_natCast]
    · simp (disch := omega) only [w32_eq, w64_eq, ix_n, ix_e, sto_n, sto_e, sto_r, zf_r, Int.toNat_natCast]
  have k64 : ∀ s0 : Int, ((s0 = 0 ∧ A.2 = 0 ∧ B.2 = 0) ∨ (s0 = 1 ∧ ¬ (A.2 = 0 ∧ B.2 = 0))) → Ok (k_Mo_both_64 (rop w) v (M 155 h) (M 155 (h + 1)) s0 (sto M 111 72 (((h + 2 : Nat) : Int) - 2))) (fun _ M' => PoR h (bnV w v A B) M M') := fun s0 q => by
    unfold k_Mo_both_64
    by_cases c1 : w ≤ 10
    · have er : rop w = w - 1 := by unfold rop; rw [if_pos c1]
      have eV : bnV w v A B = if A.2 ≠ 0 ∨ B.2 ≠ 0 ∨ ((w = 7 ∨ w = 8) ∧ B.1 = 0) then (0, 1) else (arV w A.1 B.1, 0) := by
        unfold bnV
        rw [if_neg (by omega), if_neg (by omega), if_neg (by omega)]
      rw [er]
      refine ok_f (by rw [w32_eq (by omega) (by omega)]; omega) ?_
      refine ok_f (by rw [w32_eq (by omega) (by omega)]; omega) ?_
      refine ok_t (by rw [w32_eq (by omega) (by omega)]; omega) ?_
      have kno : (A.2 ≠ 0 ∨ B.2 ≠ 0 ∨ ((w = 7 ∨ w = 8) ∧ B.1 = 0)) → Ok (k_Mo_both_218 (w - 1) (M 155 h) (M 155 (h + 1)) (sto M 111 72 (((h + 2 : Nat) : Int) - 2))) (fun _ M' => PoR h (bnV w v A B) M M') := fun z => by
        unfold k_Mo_both_218 k_Mo_both_223 k_Mo_both_318
        refine ok_f (by decide) (fin 0 1 ?_ ?_)
        · rw [eV, if_pos z]; rfl
        · rw [eV, if_pos z]; rfl
      have kva : ¬ (A.2 ≠ 0 ∨ B.2 ≠ 0 ∨ ((w = 7 ∨ w = 8) ∧ B.1 = 0)) → Ok (k_Mo_both_222 (w - 1) (M 155 h) (M 155 (h + 1)) (sto M 111 72 (((h + 2 : Nat) : Int) - 2))) (fun _ M' => PoR h (bnV w v A B) M M') := fun z => by
        have e1 : (bnV w v A B).1 = arV w A.1 B.1 := by rw [eV, if_neg z]
        have e2 : (bnV w v A B).2 = 0 := by rw [eV, if_neg z]
        have e3 : ∀ x : Int, w64 x = arV w (w64 (M 155 h)) (w64 (M 155 (h + 1))) → Ok (bcall (d_Mo_push x 0 (sto M 111 72 (((h + 2 : Nat) : Int) - 2))) fun _ M2 => some (0, M2)) (fun _ M' => PoR h (bnV w v A B) M M') := fun x q => fin x 0 (by rw [q, e1, h3, h5]) (by rw [e2]; rfl)
        unfold k_Mo_both_222 k_Mo_both_223 k_Mo_both_318
        unfold arV at e3
        rcases (show w = 4 ∨ w = 5 ∨ w = 6 ∨ w = 7 ∨ w = 8 ∨ w = 9 ∨ w = 10 by omega) with e | e | e | e | e | e | e <;> subst e
        · repeat (first | with_reducible refine ok_let ?_ | with_reducible refine ok_cs ?_ | with_reducible refine ok_clet ?_ | with_reducible refine ok_cc ?_ | (with_reducible refine ok_chk ?_ ?_; · (first | omega | ((try simp (disch := omega) only [w32_eq, w64_eq, ix_n, ix_e, sto_n, sto_e, sto_r, zf_r, Int.toNat_natCast, true_or, or_true, eq_self]) <;> (first | omega | decide)))) | (with_reducible refine ok_cchk ?_ ?_; · (first | omega | ((try simp (disch := omega) only [w32_eq, w64_eq, ix_n, ix_e, sto_n, sto_e, sto_r, zf_r, Int.toNat_natCast, true_or, or_true, eq_self]) <;> (first | omega | decide)))) | (with_reducible refine ok_t ?_ ?_; · (first | omega | ((try simp (disch := omega) only [w32_eq, w64_eq, ix_n, ix_e, sto_n, sto_e, sto_r, zf_r, Int.toNat_natCast, true_or, or_true, eq_self]) <;> (first | omega | decide)))) | (with_reducible refine ok_f ?_ ?_; · (first | omega | ((try simp (disch := omega) only [w32_eq, w64_eq, ix_n, ix_e, sto_n, sto_e, sto_r, zf_r, Int.toNat_natCast, true_or, or_true, eq_self]) <;> (first | omega | decide)))) | (with_reducible refine ok_ct ?_ ?_; · (first | omega | ((try simp (disch := omega) only [w32_eq, w64_eq, ix_n, ix_e, sto_n, sto_e, sto_r, zf_r, Int.toNat_natCast, true_or, or_true, eq_self]) <;> (first | omega | decide)))) | (with_reducible refine ok_cf ?_ ?_; · (first | omega | ((try simp (disch := omega) only [w32_eq, w64_eq, ix_n, ix_e, sto_n, sto_e, sto_r, zf_r, Int.toNat_natCast, true_or, or_true, eq_self]) <;> (first | omega | decide)))))
          exact e3 _ (by rw [if_pos rfl]; exact w64_add)
        · repeat (first | with_reducible refine ok_let ?_ | with_reducible refine ok_cs ?_ | with_reducible refine ok_clet ?_ | with_reducible refine ok_cc ?_ | (with_reducible refine ok_chk ?_ ?_; · (first | omega | ((try simp (disch := omega) only [w32_eq, w64_eq, ix_n, ix_e, sto_n, sto_e, sto_r, zf_r, Int.toNat_natCast, true_or, or_true, eq_self]) <;> (first | omega | decide)))) | (with_reducible refine ok_cchk ?_ ?_; · (first | omega | ((try simp (disch := omega) only [w32_eq, w64_eq, ix_n, ix_e, sto_n, sto_e, sto_r, zf_r, Int.toNat_natCast, true_or, or_true, eq_self]) <;> (first | omega | decide)))) | (with_reducible refine ok_t ?_ ?_; · (first | omega | ((try simp (disch := omega) only [w32_eq, w64_eq, ix_n, ix_e, sto_n, sto_e, sto_r, zf_r, Int.toNat_natCast, true_or, or_true, eq_self]) <;> (first | omega | decide)))) | (with_reducible refine ok_f ?_ ?_; · (first | omega | ((try simp (disch := omega) only [w32_eq, w64_eq, ix_n, ix_e, sto_n, sto_e, sto_r, zf_r, Int.toNat_natCast, true_or, or_true, eq_self]) <;> (first | omega | decide)))) | (with_reducible refine ok_ct ?_ ?_; · (first | omega | ((try simp (disch := omega) only [w32_eq, w64_eq, ix_n, ix_e, sto_n, sto_e, sto_r, zf_r, Int.toNat_natCast, true_or, or_true, eq_self]) <;> (first | omega | decide)))) | (with_reducible refine ok_cf ?_ ?_; · (first | omega | ((try simp (disch := omega) only [w32_eq, w64_eq, ix_n, ix_e, sto_n, sto_e, sto_r, zf_r, Int.toNat_natCast, true_or, or_true, eq_self]) <;> (first | omega | decide)))))
          exact e3 _ (by rw [if_neg (by decide), if_pos rfl]; exact w64_sub)
        · repeat (first | with_reducible refine ok_let ?_ | with_reducible refine ok_cs ?_ | with_reducible refine ok_clet ?_ | with_reducible refine ok_cc ?_ | (with_reducible refine ok_chk ?_ ?_; · (first | omega | ((try simp (disch := omega) only [w32_eq, w64_eq, ix_n, ix_e, sto_n, sto_e, sto_r, zf_r, Int.toNat_natCast, true_or, or_true, eq_self]) <;> (first | omega | decide)))) | (with_reducible refine ok_cchk ?_ ?_; · (first | omega | ((try simp (disch := omega) only [w32_eq, w64_eq, ix_n, ix_e, sto_n, sto_e, sto_r, zf_r, Int.toNat_natCast, true_or, or_true, eq_self]) <;> (first | omega | decide)))) | (with_reducible refine ok_t ?_ ?_; · (first | omega | ((try simp (disch := omega) only [w32_eq, w64_eq, ix_n, ix_e, sto_n, sto_e, sto_r, zf_r, Int.toNat_natCast, true_or, or_true, eq_self]) <;> (first | omega | decide)))) | (with_reducible refine ok_f ?_ ?_; · (first | omega | ((try simp (disch := omega) only [w32_eq, w64_eq, ix_n, ix_e, sto_n, sto_e, sto_r, zf_r, Int.toNat_natCast, true_or, or_true, eq_self]) <;> (first | omega | decide)))) | (with_reducible refine ok_ct ?_ ?_; · (first | omega | ((try simp (disch := omega) only [w32_eq, w64_eq, ix_n, ix_e, sto_n, sto_e, sto_r, zf_r, Int.toNat_natCast, true_or, or_true, eq_self]) <;> (first | omega | decide)))) | (with_reducible refine ok_cf ?_ ?_; · (first | omega | ((try simp (disch := omega) only [w32_eq, w64_eq, ix_n, ix_e, sto_n, sto_e, sto_r, zf_r, Int.toNat_natCast, true_or, or_true, eq_self]) <;> (first | omega | decide)))))
          exact e3 _ (by rw [if_neg (by decide), if_neg (by decide), if_pos rfl]; exact w64_mul)
        · have hy : ¬ w64 (M 155 (h + 1)) = 0 := fun q => z (Or.inr (Or.inr ⟨Or.inl rfl, by rw [← h5]; exact q⟩))
          repeat (first | with_reducible refine ok_let ?_ | with_reducible refine ok_cs ?_ | with_reducible refine ok_clet ?_ | with_reducible refine ok_cc ?_ | (with_reducible refine ok_chk ?_ ?_; · (first | omega | ((try simp (disch := omega) only [w32_eq, w64_eq, ix_n, ix_e, sto_n, sto_e, sto_r, zf_r, Int.toNat_natCast, true_or, or_true, eq_self]) <;> (first | omega | decide)))) | (with_reducible refine ok_cchk ?_ ?_; · (first | omega | ((try simp (disch := omega) only [w32_eq, w64_eq, ix_n, ix_e, sto_n, sto_e, sto_r, zf_r, Int.toNat_natCast, true_or, or_true, eq_self]) <;> (first | omega | decide)))) | (with_reducible refine ok_t ?_ ?_; · (first | omega | ((try simp (disch := omega) only [w32_eq, w64_eq, ix_n, ix_e, sto_n, sto_e, sto_r, zf_r, Int.toNat_natCast, true_or, or_true, eq_self]) <;> (first | omega | decide)))) | (with_reducible refine ok_f ?_ ?_; · (first | omega | ((try simp (disch := omega) only [w32_eq, w64_eq, ix_n, ix_e, sto_n, sto_e, sto_r, zf_r, Int.toNat_natCast, true_or, or_true, eq_self]) <;> (first | omega | decide)))) | (with_reducible refine ok_ct ?_ ?_; · (first | omega | ((try simp (disch := omega) only [w32_eq, w64_eq, ix_n, ix_e, sto_n, sto_e, sto_r, zf_r, Int.toNat_natCast, true_or, or_true, eq_self]) <;> (first | omega | decide)))) | (with_reducible refine ok_cf ?_ ?_; · (first | omega | ((try simp (disch := omega) only [w32_eq, w64_eq, ix_n, ix_e, sto_n, sto_e, sto_r, zf_r, Int.toNat_natCast, true_or, or_true, eq_self]) <;> (first | omega | decide)))))
          exact e3 _ (by rw [if_neg (by decide), if_neg (by decide), if_neg (by decide), if_pos rfl]; rfl)
        · have hy : ¬ w64 (M 155 (h + 1)) = 0 := fun q => z (Or.inr (Or.inr ⟨Or.inr rfl, by rw [← h5]; exact q⟩))
          repeat (first | with_reducible refine ok_let ?_ | with_reducible refine ok_cs ?_ | with_reducible refine ok_clet ?_ | with_reducible refine ok_cc ?_ | (with_reducible refine ok_chk ?_ ?_; · (first | omega | ((try simp (disch := omega) only [w32_eq, w64_eq, ix_n, ix_e, sto_n, sto_e, sto_r, zf_r, Int.toNat_natCast, true_or, or_true, eq_self]) <;> (first | omega | decide)))) | (with_reducible refine ok_cchk ?_ ?_; · (first | omega | ((try simp (disch := omega) only [w32_eq, w64_eq, ix_n, ix_e, sto_n, sto_e, sto_r, zf_r, Int.toNat_natCast, true_or, or_true, eq_self]) <;> (first | omega | decide)))) | (with_reducible refine ok_t ?_ ?_; · (first | omega | ((try simp (disch := omega) only [w32_eq, w64_eq, ix_n, ix_e, sto_n, sto_e, sto_r, zf_r, Int.toNat_natCast, true_or, or_true, eq_self]) <;> (first | omega | decide)))) | (with_reducible refine ok_f ?_ ?_; · (first | omega | ((try simp (disch := omega) only [w32_eq, w64_eq, ix_n, ix_e, sto_n, sto_e, sto_r, zf_r, Int.toNat_natCast, true_or, or_true, eq_self]) <;> (first | omega | decide)))) | (with_reducible refine ok_ct ?_ ?_; · (first | omega | ((try simp (disch := omega) only [w32_eq, w64_eq, ix_n, ix_e, sto_n, sto_e, sto_r, zf_r, Int.toNat_natCast, true_or, or_true, eq_self]) <;> (first | omega | decide)))) | (with_reducible refine ok_cf ?_ ?_; · (first | omega | ((try simp (disch := omega) only [w32_eq, w64_eq, ix_n, ix_e, sto_n, sto_e, sto_r, zf_r, Int.toNat_natCast, true_or, or_true, eq_self]) <;> (first | omega | decide)))))
          exact e3 _ (by rw [if_neg (by decide), if_neg (by decide), if_neg (by decide), if_neg (by decide), if_pos rfl]; rfl)
        · repeat (first | with_reducible refine ok_let ?_ | with_reducible refine ok_cs ?_ | with_reducible refine ok_clet ?_ | with_reducible refine ok_cc ?_ | (with_reducible refine ok_chk ?_ ?_; · (first | omega | ((try simp (disch := omega) only [w32_eq, w64_eq, ix_n, ix_e, sto_n, sto_e, sto_r, zf_r, Int.toNat_natCast, true_or, or_true, eq_self]) <;> (first | omega | decide)))) | (with_reducible refine ok_cchk ?_ ?_; · (first | omega | ((try simp (disch := omega) only [w32_eq, w64_eq, ix_n, ix_e, sto_n, sto_e, sto_r, zf_r, Int.toNat_natCast, true_or, or_true, eq_self]) <;> (first | omega | decide)))) | (with_reducible refine ok_t ?_ ?_; · (first | omega | ((try simp (disch := omega) only [w32_eq, w64_eq, ix_n, ix_e, sto_n, sto_e, sto_r, zf_r, Int.toNat_natCast, true_or, or_true, eq_self]) <;> (first | omega | decide)))) | (with_reducible refine ok_f ?_ ?_; · (first | omega | ((try simp (disch := omega) only [w32_eq, w64_eq, ix_n, ix_e, sto_n, sto_e, sto_r, zf_r, Int.toNat_natCast, true_or, or_true, eq_self]) <;> (first | omega | decide)))) | (with_reducible refine ok_ct ?_ ?_; · (first | omega | ((try simp (disch := omega) only [w32_eq, w64_eq, ix_n, ix_e, sto_n, sto_e, sto_r, zf_r, Int.toNat_natCast, true_or, or_true, eq_self]) <;> (first | omega | decide)))) | (with_reducible refine ok_cf ?_ ?_; · (first | omega | ((try simp (disch := omega) only [w32_eq, w64_eq, ix_n, ix_e, sto_n, sto_e, sto_r, zf_r, Int.toNat_natCast, true_or, or_true, eq_self]) <;> (first | omega | decide)))))
          refine e3 _ ?_
          rw [if_neg (by decide), if_neg (by decide), if_neg (by decide), if_neg (by decide), if_neg (by decide), if_pos rfl]
          unfold mn64
          by_cases c : w64 (M 155 (h + 1)) < w64 (M 155 h)
          · rw [if_pos c, if_neg (by omega)]
          · rw [if_neg c]
            by_cases d : w64 (M 155 h) < w64 (M 155 (h + 1))
            · rw [if_pos d]
            · rw [if_neg d]; omega
        · repeat (first | with_reducible refine ok_let ?_ | with_reducible refine ok_cs ?_ | with_reducible refine ok_clet ?_ | with_reducible refine ok_cc ?_ | (with_reducible refine ok_chk ?_ ?_; · (first | omega | ((try simp (disch := omega) only [w32_eq, w64_eq, ix_n, ix_e, sto_n, sto_e, sto_r, zf_r, Int.toNat_natCast, true_or, or_true, eq_self]) <;> (first | omega | decide)))) | (with_reducible refine ok_cchk ?_ ?_; · (first | omega | ((try simp (disch := omega) only [w32_eq, w64_eq, ix_n, ix_e, sto_n, sto_e, sto_r, zf_r, Int.toNat_natCast, true_or, or_true, eq_self]) <;> (first | omega | decide)))) | (with_reducible refine ok_t ?_ ?_; · (first | omega | ((try simp (disch := omega) only [w32_eq, w64_eq, ix_n, ix_e, sto_n, sto_e, sto_r, zf_r, Int.toNat_natCast, true_or, or_true, eq_self]) <;> (first | omega | decide)))) | (with_reducible refine ok_f ?_ ?_; · (first | omega | ((try simp (disch := omega) only [w32_eq, w64_eq, ix_n, ix_e, sto_n, sto_e, sto_r, zf_r, Int.toNat_natCast, true_or, or_true, eq_self]) <;> (first | omega | decide)))) | (with_reducible refine ok_ct ?_ ?_; · (first | omega | ((try simp (disch := omega) only [w32_eq, w64_eq, ix_n, ix_e, sto_n, sto_e, sto_r, zf_r, Int.toNat_natCast, true_or, or_true, eq_self]) <;> (first | omega | decide)))) | (with_reducible refine ok_cf ?_ ?_; · (first | omega | ((try simp (disch := omega) only [w32_eq, w64_eq, ix_n, ix_e, sto_n, sto_e, sto_r, zf_r, Int.toNat_natCast, true_or, or_true, eq_self]) <;> (first | omega | decide)))))
          refine e3 _ ?_
          rw [if_neg (by decide), if_neg (by decide), if_neg (by decide), if_neg (by decide), if_neg (by decide), if_neg (by decide)]
          unfold mx64
          by_cases c : w64 (M 155 (h + 1)) < w64 (M 155 h)
          · rw [if_pos c, if_pos c]
          · rw [if_neg c, if_neg c]
      have k211 : A.2 = 0 ∧ B.2 = 0 → w = 7 ∨ w = 8 → Ok (k_Mo_both_211 (w - 1) (M 155 h) (M 155 (h + 1)) (sto M 111 72 (((h + 2 : Nat) : Int) - 2))) (fun _ M' => PoR h (bnV w v A B) M M') := fun z1 z2 => by
        unfold k_Mo_both_211
        rw [h5]
        by_cases cz : B.1 = 0
        · exact ok_t cz (kno (Or.inr (Or.inr ⟨z2, cz⟩)))
        · exact ok_f cz (kva (by omega))
      rcases q with ⟨q1, q2, q3⟩ | ⟨q1, q2⟩
      · refine ok_t (by rw [q1]; decide) ?_
        by_cases c7 : w = 7
        · exact ok_t (by rw [c7]; decide) (k211 ⟨q2, q3⟩ (Or.inl c7))
        · refine ok_f (by rw [w32_eq (by omega) (by omega)]; omega) ?_
          by_cases c8 : w = 8
          · exact ok_t (by rw [c8]; decide) (k211 ⟨q2, q3⟩ (Or.inr c8))
          · refine ok_f (by rw [w32_eq (by omega) (by omega)]; omega) (kva (by omega))
      · refine ok_f (by rw [q1]; decide) (kno (by omega))
    · by_cases c2 : w ≤ 12
      · have er : rop w = w + 2 := by unfold rop; rw [if_neg c1, if_pos c2]
        rw [er]
        unfold k_Mo_both_78 k_Mo_both_96
        rcases (show w = 11 ∨ w = 12 by omega) with e | e <;> subst e
        · refine ok_t (by decide) (ok_t (by decide) (fin _ 0 ?_ rfl))
          rw [an64_w, h3, h5]; rfl
        · refine ok_f (by decide) (ok_t (by decide) (ok_f (by decide) (fin _ 0 ?_ rfl)))
          rw [or64_w, h3, h5]; rfl
      · have er : rop w = w - 3 := by unfold rop; rw [if_neg c1, if_neg c2]
        have eV : bnV w v A B = (if A.2 = 0 ∧ B.2 = 0 ∧ cmV w A.1 B.1 ≠ (if v = 1 then 1 else 0) then 1 else 0, 0) := by
          unfold bnV
          rw [if_neg (by omega), if_neg (by omega), if_pos (by omega)]
        rw [er]
        refine ok_f (by rw [w32_eq (by omega) (by omega)]; omega) ?_
        refine ok_f (by rw [w32_eq (by omega) (by omega)]; omega) ?_
        refine ok_f (by rw [w32_eq (by omega) (by omega)]; omega) ?_
        have k181 : ∀ o n1 : Int, A.2 = 0 ∧ B.2 = 0 → o = cmV w A.1 B.1 → n1 = (if v = 1 then 1 else 0) → Ok (k_Mo_both_181 o n1 (sto M 111 72 (((h + 2 : Nat) : Int) - 2))) (fun _ M' => PoR h (bnV w v A B) M M') := fun o n1 z e e' => by
          have ob : o = 0 ∨ o = 1 := by
            rw [e]; unfold cmV
            repeat' split
            all_goals omega
          have nb : n1 = 0 ∨ n1 = 1 := by rw [e']; split <;> omega
          unfold k_Mo_both_181 k_Mo_both_188 k_Mo_both_189
          rw [w32_eq (x := o) (by omega) (by omega), w32_eq (x := n1) (by omega) (by omega)]
          by_cases c : o = n1
          · refine ok_t c (fin 0 0 ?_ (by rw [eV]; rfl))
            rw [eV]
            show (0 : Int) = if _ then _ else _
            rw [if_neg (fun y => y.2.2 (by rw [← e, ← e']; exact c))]
          · refine ok_f c (fin 1 0 ?_ (by rw [eV]; rfl))
            rw [eV]
            show (1 : Int) = if _ then _ else _
            rw [if_pos ⟨z.1, z.2, by rw [← e, ← e']; exact c⟩]
        have k161 : ∀ o : Int, o = cmV w A.1 B.1 → Ok (k_Mo_both_161 v s0 o (sto M 111 72 (((h + 2 : Nat) : Int) - 2))) (fun _ M' => PoR h (bnV w v A B) M M') := fun o e => by
          unfold k_Mo_both_161
          rcases q with ⟨q1, q2⟩ | ⟨q1, q2⟩
          · refine ok_t (by rw [q1]; decide) ?_
            by_cases c : v = 1
            · exact ok_t (by rw [c]; decide) (k181 o 1 q2 e (by rw [if_pos c]))
            · exact ok_f (by rw [w32_eq (by omega) (by omega)]; exact c) (k181 o 0 q2 e (by rw [if_neg c]))
          · unfold k_Mo_both_188 k_Mo_both_189
            refine ok_f (by rw [q1]; decide) (fin 0 0 ?_ (by rw [eV]; rfl))
            rw [eV]
            show (0 : Int) = if _ then _ else _
            rw [if_neg (fun y => q2 ⟨y.1, y.2.1⟩)]
        rw [h3, h5]
        unfold cmV at k161
        by_cases d1 : w = 13
        · refine ok_t (by rw [d1]; decide) ?_
          by_cases c : A.1 < B.1
          · exact ok_t c (k161 1 (by rw [if_pos d1, if_pos c]))
          · exact ok_f c (k161 0 (by rw [if_pos d1, if_neg c]))
        · refine ok_f (by rw [w32_eq (by omega) (by omega)]; omega) ?_
          by_cases d2 : w = 14
          · refine ok_t (by rw [d2]; decide) ?_
            by_cases c : B.1 < A.1
            · exact ok_t c (k161 1 (by rw [if_neg d1, if_pos d2, if_pos c]))
            · exact ok_f c (k161 0 (by rw [if_neg d1, if_pos d2, if_neg c]))
          · refine ok_f (by rw [w32_eq (by omega) (by omega)]; omega) ?_
            by_cases c : A.1 = B.1
            · exact ok_t c (k161 1 (by rw [if_neg d1, if_neg d2, if_pos c]))
            · exact ok_f c (k161 0 (by rw [if_neg d1, if_neg d2, if_neg c]))
  unfold d_Mo_both k_Mo_both_59
  rw [h1]
  refine ok_let ?_
  refine ok_let ?_
  rw [sto_e]
  refine ok_let ?_
  refine ok_chk (by rw [w32_eq (by omega) (by omega)]; omega) ?_
  rw [x0, sto_r (by decide)]
  refine ok_let ?_
  refine ok_let ?_
  refine ok_chk (by rw [w32_eq (by omega) (by omega)]; omega) ?_
  rw [x1]
  refine ok_let ?_
  refine ok_let ?_
  refine ok_chk (by rw [w32_eq (by omega) (by omega)]; omega) ?_
  rw [sto_r (by decide), x0, h4]
  refine ok_let ?_
  by_cases ca : A.2 = 0
  · refine ok_t (by rw [ca]; decide) ?_
    refine ok_let ?_
    refine ok_chk (by rw [w32_eq (by omega) (by omega)]; omega) ?_
    rw [x1, h6]
    refine ok_let ?_
    by_cases cb : B.2 = 0
    · exact ok_t (by rw [cb]; decide) (k64 0 (Or.inl ⟨rfl, ca, cb⟩))
    · exact ok_f (by rw [w32_eq (by omega) (by omega)]; exact cb) (k64 1 (Or.inr ⟨rfl, fun q => cb q.2⟩))
  · exact ok_f (by rw [w32_eq (by omega) (by omega)]; exact ca) (k64 1 (Or.inr ⟨rfl, fun q => ca q.1⟩))
/-- a mark's two parts -/
theorem dv_20 {w v : Int} (hw : 0 ≤ w ∧ w ≤ 20) (hv : 0 ≤ v ∧ v < 1048576) : dv32 (1048576 * w + v) 1048576 = w ∧ rm32 (1048576 * w + v) 1048576 = v := by
  unfold dv32 rm32
  rw [w32_eq (by omega) (by omega), w32_eq (by decide) (by decide), Int.tdiv_eq_ediv_of_nonneg (by omega), Int.tmod_eq_emod_of_nonneg (by omega)]
  omega
theorem rop_b {w : Int} (hw : 4 ≤ w ∧ w ≤ 15) : 3 ≤ rop w ∧ rop w ≤ 14 := by
  unfold rop; split
  · omega
  · split <;> omega
theorem s_doesB {h : Nat} {w v : Int} {k : Int} {A B : Int × Int} {M : Mem} (hw : 4 ≤ w ∧ w ≤ 15) (hv : 0 ≤ v ∧ v < 1048576) (H : StR h A B M) : ∃ M', d_Mo_does (1048576 * rop w + v) k M = some (k + 1, M') ∧ PoR h (bnV w v A B) M M' ∧ Fr [155, 158] [(111, 72)] M M' := by
  have rb := rop_b hw
  obtain ⟨e1, e2⟩ := dv_20 (w := rop w) (v := v) (by omega) hv
  obtain ⟨v', M', e3, e4⟩ := s_both hw hv H
  refine ⟨M', ?_, e4, (w_Mo_both e3).mono (by decide) (by decide)⟩
  unfold d_Mo_does
  rw [e1, e2, blet_s, blet_s, w32_eq (x := rop w) (by omega) (by omega)]
  rw [if_neg (by omega), if_neg (by omega), if_neg (by omega), if_neg (by omega), if_neg (by omega), e3]
  rfl
