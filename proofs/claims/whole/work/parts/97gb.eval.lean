/-! what a text answers: the model -/
theorem l_work {t D : Nat} {nm : Nat → Int} {F : Nat → Fnn} {V : Nat → Int} {M0 : Mem} {L : Nat} (ht : t < 4) (hT : TxI t D nm F M0) (hL : L < D) : ∀ (r fuel d : Nat) (M : Mem), d + r = L + 1 → r < fuel → Fr [155, 157, 158, 159] [(111, 72), (111, 108)] M0 M → VlR F V d M → Ok (fix (fun _ _ _ _ => none) k_Mo_work_2 fuel (t : Int) (L : Int) (d : Int) M) (fun _ M' => VlR F V (L + 1) M') := by
  obtain ⟨hD, -, hd, -⟩ := hT
  intro r; induction r with
  | zero =>
    intro fuel d M e hf hF hV
    obtain ⟨f, rfl⟩ : ∃ f, fuel = f + 1 := ⟨fuel - 1, by omega⟩; rw [fix_s]; unfold k_Mo_work_2
    refine ok_t (by rw [w32_eq (by omega) (by omega), w32_eq (by omega) (by omega)]; omega) (ok_ret ?_)
    rw [← show d = L + 1 by omega]; exact hV
  | succ r ih =>
    intro fuel d M e hf hF hV
    obtain ⟨e1, e2, p1, p2, -, -, x3, x4, -, -, x7, x8, x9, -, x11⟩ := hd d (by omega)
    obtain ⟨f, rfl⟩ : ∃ f, fuel = f + 1 := ⟨fuel - 1, by omega⟩
    have xd : ix (d : Int) = d := ix_n (by omega)
    have key : ∀ R2 : Int → Int → Int → Mem → Res, (∀ M' : Mem, Fr [155, 157, 158, 159] [(111, 72), (111, 108)] M0 M' → VlR F V (d + 1) M' → Ok (R2 (t : Int) (L : Int) ((d + 1 : Nat) : Int) M') (fun _ M' => VlR F V (L + 1) M')) → Ok (k_Mo_work_2 R2 (t : Int) (L : Int) (d : Int) M) (fun _ M' => VlR F V (L + 1) M') := fun R2 hR => by
      unfold k_Mo_work_2
      refine ok_f (by rw [w32_eq (by omega) (by omega), w32_eq (by omega) (by omega)]; omega) (ok_let (ok_chk (by rw [w32_eq (by omega) (by omega)]; omega) ?_))
      have fA : Fr [155, 157, 158, 159] [(111, 72), (111, 108)] M0 (sto M 111 72 0) := hF.trans (fr_stoF (by decide))
      have u149 := fA.c 149 (by decide) (by decide)
      have u150 := fA.c 150 (by decide) (by decide)
      rw [u149, show ix (11 * (t : Int) + (d : Int)) = 11 * t + d by rw [ix_e (by omega) (by omega)]; omega, x3]
      refine ok_let (ok_chk (by rw [w32_eq (by omega) (by omega)]; omega) ?_)
      rw [show ix (11 * (t : Int) + (d : Int) + 1) = 11 * t + d + 1 by rw [ix_e (by omega) (by omega)]; omega, x4]
      refine ok_let ?_
      obtain ⟨M1, f1, y0, y1, y2, y3⟩ := x11 t R2 (L : Int) (d : Int) p2 0 FU (sto M 111 72 0) ht (Nat.le_refl _) (by omega) (fun i i1 i2 => by rw [u150]) sto_e (by omega) (by unfold FU; omega)
      obtain ⟨g, eg⟩ : ∃ g, f1 = g + 1 := ⟨f1 - 1, by unfold FU at y0; omega⟩
      clear y0
      rw [y1]
      obtain ⟨z1, z2, z3, -⟩ := y3
      have fB : Fr [155, 157, 158, 159] [(111, 72), (111, 108)] M0 M1 := fA.trans (y2.mono (by decide) (by decide))
      have r35 : M1 157 = M 157 := by rw [y2.c 157 (by decide) (by decide), sto_r (by decide)]
      have r36 : M1 159 = M 159 := by rw [y2.c 159 (by decide) (by decide), sto_r (by decide)]
      have r34 : M1 156 = M 156 := by rw [y2.c 156 (by decide) (by decide), sto_r (by decide)]
      have ev1 : vlR (sto M 111 72 0) (F d) = F d V (vls F V d).1 (vls F V d).2 := by
        unfold vlR
        rw [sto_r (by decide), sto_r (by decide), sto_r (by decide), hV.1]
        exact x9 _ _ _ _ _ (fun i hi => hV.2 i hi)
      rw [eg, fix_s]
      have key2 : ∀ R40 : Int → Int → Int → Int → Int → Mem → Res, k_Mo_work_40 R2 R40 (t : Int) (L : Int) (d : Int) (p2 : Int) (p2 : Int) M1 = R2 (t : Int) (L : Int) ((d + 1 : Nat) : Int) (sto (sto M1 157 d (M1 155 0)) 159 d (M1 158 0 % 2)) := fun R40 => by
        unfold k_Mo_work_40
        refine e_f (Int.lt_irrefl _) (e_let (e_chk (by rw [w32_eq (by omega) (by omega)]; omega) (e_let (e_let (e_chk (by rw [w32_eq (by omega) (by omega)]; omega) (e_let (e_let ?_)))))))
        rw [xd, sto_r (by decide), show ((d + 1 : Nat) : Int) = (d : Int) + 1 by omega]
      rw [key2]
      refine hR _ (fB.trans (Fr.trans (fr_stoA (by decide)) (fr_stoA (by decide)))) ⟨?_, fun i hi => ?_⟩
      · rw [sto_r (by decide), sto_r (by decide), r34]; exact hV.1
      · by_cases ci : i = d
        · subst ci
          rw [sto_r (show 157 ≠ 159 by decide), sto_e, sto_e]
          refine ⟨?_, ?_⟩
          · rw [z2, ev1]
            show _ = (up _ _ _) _
            rw [up_e]
          · rw [show M1 158 0 % 2 % 2 = M1 158 0 % 2 by omega, z3, ev1]
            show _ = (up _ _ _) _
            rw [up_e]
        · rw [sto_r (show 157 ≠ 159 by decide), sto_n ci, sto_n ci, sto_r (show 159 ≠ 157 by decide), r35, r36]
          have := hV.2 i (by omega)
          show _ = (up _ _ _) _ ∧ _ = (up _ _ _) _
          rw [up_n ci, up_n ci]; exact this
    rw [fix_s]
    exact key _ (fun M' h1 h2 => ih f (d + 1) M' (by omega) (by omega) h1 h2)
