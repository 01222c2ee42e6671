/-! what a text answers -/
def vls (F : Nat → Fnn) (V : Nat → Int) : Nat → (Nat → Int) × (Nat → Int)
  | 0 => (fun _ => 0, fun _ => 0)
  | d + 1 => (up (vls F V d).1 d (F d V (vls F V d).1 (vls F V d).2).1, up (vls F V d).2 d (F d V (vls F V d).1 (vls F V d).2).2)
def TxI (i D : Nat) (nm : Nat → Int) (F : Nat → Fnn) (M : Mem) : Prop := D ≤ 10 ∧ M 148 i = (D : Int) ∧ (∀ j, j < D → ∃ e1 e2 p1 p2 : Nat, (if j = 0 then 0 else M (41 + 4 * i) (j - 1)) = (e1 : Int) ∧ M (41 + 4 * i) j = (e2 : Int) ∧ M 149 (11 * i + j) = (p1 : Int) ∧ M 149 (11 * i + j + 1) = (p2 : Int) ∧ e1 ≤ e2 ∧ e2 ≤ 500 ∧ p1 ≤ p2 ∧ p2 ≤ 500 ∧ Lcl j (F j) ∧ DnC 37 (F j) (M (40 + 4 * i)) e1 e2 ∧ DnR 37 (F j) (fun k => M 150 (1100 * i + k)) p1 p2) ∧ (∀ q, q < 7 → M (42 + 4 * i) q = ndF nm (asC q) D 0) ∧ (∀ j, j < D → M 153 (10 * i + j) = cv (nm j) ∧ 0 ≤ nm j ∧ nm j < 282429536481) ∧ ∀ j k, j < k → k < D → nm j ≠ nm k
def VlC (F : Nat → Fnn) (V : Nat → Int) (d : Nat) (M : Mem) : Prop := ev (M 34) = V ∧ ∀ i, i < d → w64 (M 35 i) = (vls F V d).1 i ∧ M 36 i % 2 = (vls F V d).2 i
def VlR (F : Nat → Fnn) (V : Nat → Int) (d : Nat) (M : Mem) : Prop := ev (M 156) = V ∧ ∀ i, i < d → w64 (M 157 i) = (vls F V d).1 i ∧ M 159 i % 2 = (vls F V d).2 i
theorem l_reck {t D : Nat} {nm : Nat → Int} {F : Nat → Fnn} {V : Nat → Int} {M0 : Mem} {L : Nat} (ht : t < 4) (hT : TxI t D nm F M0) (hL : L < D) : ∀ (r fuel d : Nat) (M : Mem), d + r = L + 1 → r < fuel → Fr [35, 36, 37, 38] [(32, 8)] M0 M → VlC F V d M → Ok (fix (fun _ _ _ => none) (k_As_reckonDefs_2 (39 + 4 * t)) fuel (L : Int) (d : Int) M) (fun _ M' => VlC F V (L + 1) M') := by
  obtain ⟨hD, -, hd, -⟩ := hT
  intro r; induction r with
  | zero =>
    intro fuel d M e hf hF hV
    obtain ⟨f, rfl⟩ : ∃ f, fuel = f + 1 := ⟨fuel - 1, by omega⟩; rw [fix_s]; unfold k_As_reckonDefs_2
    refine ok_t (by rw [w32_eq (by omega) (by omega), w32_eq (by omega) (by omega)]; omega) (ok_ret ?_)
    rw [← show d = L + 1 by omega]; exact hV
  | succ r ih =>
    intro fuel d M e hf hF hV
    obtain ⟨e1, e2, p1, p2, x1, x2, -, -, x5, x6, -, -, x9, x10, -⟩ := hd d (by omega)
    have frK2 : ∀ {M' : Mem}, Fr [35, 36, 37, 38] [(32, 8)] M0 M' → ∀ c, 39 ≤ c → M' c = M0 c := fun {M'} h c hc => h.c c (by simp only [List.mem_cons, List.not_mem_nil, or_false]; omega) (fun q hq => by simp only [List.mem_cons, List.not_mem_nil, or_false] at hq; subst hq; show 32 ≠ c; omega)
    obtain ⟨f, rfl⟩ : ∃ f, fuel = f + 1 := ⟨fuel - 1, by omega⟩
    have xd : ix (d : Int) = d := ix_n (by omega)
    have key : ∀ R2 : Int → Int → Mem → Res, (∀ M' : Mem, Fr [35, 36, 37, 38] [(32, 8)] M0 M' → VlC F V (d + 1) M' → Ok (R2 (L : Int) ((d + 1 : Nat) : Int) M') (fun _ M' => VlC F V (L + 1) M')) → Ok (k_As_reckonDefs_2 (39 + 4 * t) R2 (L : Int) (d : Int) M) (fun _ M' => VlC F V (L + 1) M') := fun R2 hR => by
      unfold k_As_reckonDefs_2
      refine ok_f (by rw [w32_eq (by omega) (by omega), w32_eq (by omega) (by omega)]; omega) (ok_let ?_)
      have fA : Fr [35, 36, 37, 38] [(32, 8)] M0 (sto M 32 8 0) := hF.trans (fr_stoF (by decide))
      have st : d_Tx_startOf (39 + 4 * t) (d : Int) (sto M 32 8 0) = some ((e1 : Int), sto M 32 8 0) := by
        unfold d_Tx_startOf
        by_cases c0 : d = 0
        · rw [if_pos c0] at x1
          rw [if_pos (by rw [c0]; decide), ← x1]
        · rw [if_neg c0] at x1
          rw [if_neg (by rw [w32_eq (by omega) (by omega)]; omega), chk_t (by rw [w32_eq (by omega) (by omega)]; omega), blet_s, show ix ((d : Int) - 1) = d - 1 by rw [ix_e (by omega) (by omega)]; omega, show 39 + 4 * t + 2 = 41 + 4 * t by omega, frK2 fA _ (by omega), x1]
      refine ok_call_eq st ?_
      have h37 : (sto M 32 8 0) (39 + 4 * t + 2) ((d : Int)).toNat = (e2 : Int) := by
        rw [show 39 + 4 * t + 2 = 41 + 4 * t by omega, frK2 fA _ (by omega), Int.toNat_natCast, x2]
      obtain ⟨M1, y1, y2, y3⟩ := x10 (39 + 4 * t) R2 (L : Int) (d : Int) e2 0 FU (sto M 32 8 0) (by omega) (by omega) (by omega) (by omega) (Nat.le_refl _) x6 h37 (fun i i1 i2 => by rw [show 39 + 4 * t + 1 = 40 + 4 * t by omega, frK2 fA _ (by omega)]) sto_e (by omega) (by unfold FU; omega)
      rw [y1]
      obtain ⟨z1, z2, z3, -⟩ := y3
      have fB : Fr [35, 36, 37, 38] [(32, 8)] M0 M1 := fA.trans (y2.mono (by decide) (by decide))
      have r35 : M1 35 = M 35 := by rw [y2.c 35 (by decide) (by decide), sto_r (by decide)]
      have r36 : M1 36 = M 36 := by rw [y2.c 36 (by decide) (by decide), sto_r (by decide)]
      have r34 : M1 34 = M 34 := by rw [y2.c 34 (by decide) (by decide), sto_r (by decide)]
      have ev1 : vlC (sto M 32 8 0) (F d) = F d V (vls F V d).1 (vls F V d).2 := by
        unfold vlC
        rw [sto_r (by decide), sto_r (by decide), sto_r (by decide), hV.1]
        exact x9 _ _ _ _ _ (fun i hi => hV.2 i hi)
      have key2 : ∀ R19 : Int → Int → Int → Mem → Res, k_As_reckonDefs_19 (39 + 4 * t) R2 R19 (L : Int) (d : Int) (e2 : Int) M1 = R2 (L : Int) ((d + 1 : Nat) : Int) (sto (sto M1 35 d (M1 37 0)) 36 d (M1 38 0 % 2)) := fun R19 => by
        unfold k_As_reckonDefs_19
        refine e_chk (by rw [w32_eq (by omega) (by omega)]; omega) (e_let ?_)
        rw [xd, show 39 + 4 * t + 2 = 41 + 4 * t by omega, frK2 fB _ (by omega), x2]
        refine e_f (Int.lt_irrefl _) (e_let (e_chk (by rw [w32_eq (by omega) (by omega)]; omega) (e_let (e_let (e_chk (by rw [w32_eq (by omega) (by omega)]; omega) (e_let (e_let ?_)))))))
        rw [sto_r (by decide), show ((d + 1 : Nat) : Int) = (d : Int) + 1 by omega]
      obtain ⟨g, eg⟩ : ∃ g, FU + e1 - e2 = g + 1 := ⟨FU + e1 - e2 - 1, by unfold FU; omega⟩
      rw [eg, fix_s]
      rw [key2]
      refine hR _ (fB.trans (Fr.trans (fr_stoA (by decide)) (fr_stoA (by decide)))) ⟨?_, fun i hi => ?_⟩
      · rw [sto_r (by decide), sto_r (by decide), r34]; exact hV.1
      · by_cases ci : i = d
        · subst ci
          rw [sto_r (show 35 ≠ 36 by decide), sto_e, sto_e]
          refine ⟨?_, ?_⟩
          · rw [z2, ev1]
            show _ = (up _ _ _) _
            rw [up_e]
          · rw [show M1 38 0 % 2 % 2 = M1 38 0 % 2 by omega, z3, ev1]
            show _ = (up _ _ _) _
            rw [up_e]
        · rw [sto_r (show 35 ≠ 36 by decide), sto_n ci, sto_n ci, sto_r (show 36 ≠ 35 by decide), r35, r36]
          have := hV.2 i (by omega)
          show _ = (up _ _ _) _ ∧ _ = (up _ _ _) _
          rw [up_n ci, up_n ci]; exact this
    rw [fix_s]
    exact key _ (fun M' h1 h2 => ih f (d + 1) M' (by omega) (by omega) h1 h2)
