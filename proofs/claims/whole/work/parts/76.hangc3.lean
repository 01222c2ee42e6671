/-! on whom votes hang: what the component answers -/
def HgS (n : Nat) (ds v fr g : Nat → Int) (G : Nat) (x : Int) : Prop := (x = -1 ∧ ∀ a, sbs n fr a → ¬ trn n ds v g G a) ∨ ∃ (C : Nat → Int) (L : Int), x = numS C n ∧ (∀ f, C f = 0 ∨ (C f = 1 ∧ fr f = 1 ∧ f < n)) ∧ trn n ds v g G C ∧ sm C n = L ∧ (∀ a, sbs n fr a → trn n ds v g G a → L ≤ sm a n) ∧ lsT n ds v fr g G L C
def frS (M : Mem) (n : Nat) : Nat → Int := fun f => if f < n ∧ M 12 f = -1 then 1 else 0
theorem sm_01 {a : Nat → Int} {n : Nat} {fr : Nat → Int} (h : sbs n fr a) : sm a n ≤ n := by
  have := sm_b (w := a) (c := 1) n (fun f hf => by rcases h f hf with q | q <;> omega)
  omega
theorem s_least {n : Nat} {ds v x : Nat → Int} {M : Mem} (hn : n ≤ 20) (h5 : M 5 0 = (n : Int)) (hv : ∀ f, 0 ≤ v f ∧ v f ≤ 1000) (h105 : ∀ f, f < n → w32 (M 105 f) = v f) (h6 : ∀ f, f < n → M 6 f = ds f ∧ (0 ≤ ds f ∧ ds f ≤ 5)) (h12 : ∀ f, f < n → -1 ≤ M 12 f ∧ M 12 f ≤ 1) (hx : ∀ d, d < 6 → w32 (M 104 d) = x d ∧ (-20000 ≤ x d ∧ x d ≤ 20000)) :
    Ok (d_Ba_leastSetThatTurns M) (fun r M' => HgS n ds v (frS M n) (fun d => if 0 < whS x 6 then - x d else x d) (if 0 < whS x 6 then 0 else 1) r ∧ M' 0 0 = M 0 0) := by
  have hds : ∀ f, f < n → 0 ≤ ds f ∧ ds f ≤ 5 := fun f hf => (h6 f hf).2
  have hv0 : ∀ f, 0 ≤ v f := fun f => (hv f).1
  have h01 : ∀ f, frS M n f = 0 ∨ frS M n f = 1 := fun f => by unfold frS; split <;> simp
  have prep : Ok (d_Ba_prepareToTurn M) (fun r M' => r = ((if 0 < whS x 6 then 0 else 1 : Nat) : Int) ∧ ∃ B, Ord n B v ∧ RdC n ds v (frS M n) (fun d => if 0 < whS x 6 then - x d else x d) B M' ∧ M' 0 0 = M 0 0) := by
    unfold d_Ba_prepareToTurn
    refine ok_call_eq (s_whole (x := x) (fun d hd => (hx d hd).1)) ?_
    have ha : (if 0 < whS x 6 then (1 : Int) else 0) = 0 ∨ (if 0 < whS x 6 then (1 : Int) else 0) = 1 := by split <;> simp
    refine l_prep7 (M0 := M) ha hx (fun M1 F1 h108 => ?_) 6 FU 0 M (by omega) (by unfold FU; omega) Fr.rfl' (fun d hd => by omega)
    refine ok_mono (l_prep47 (n := n) (v := v) (fr := frS M n) (M0 := M1) hn (by rw [F1.f 5 0 (by decide) (by decide)]; exact h5) (fun k hk => by rw [F1.c 105 (by decide) (by decide)]; exact h105 k hk) (fun f hf => ?_) ha n FU 0 M1 (by omega) (by unfold FU; omega) Fr.rfl' ⟨fun _ => 0, ⟨fun j hj => by omega, fun i j hi hj => by omega, fun f hf => by omega, fun i j _ hj => by omega⟩, fun k hk => by omega⟩ (fun k hk => by omega)) (fun r M' h => ?_)
    · rw [F1.c 12 (by decide) (by decide)]
      have := h12 f hf
      unfold frS
      by_cases c : M 12 f = -1
      · rw [if_pos ⟨hf, c⟩]; exact Or.inl ⟨c, rfl⟩
      · rw [if_neg (fun q => c q.2)]; exact Or.inr ⟨by omega, rfl⟩
    · obtain ⟨z1, F2, ⟨B, hO, hB⟩, z3⟩ := h
      refine ⟨?_, B, hO, ⟨?_, fun f hf => ⟨?_, hB f hf, z3 f hf, ?_⟩, fun d hd => ?_⟩, ?_⟩
      · rw [z1]; split <;> rfl
      · rw [F2.f 5 0 (by decide) (by decide), F1.f 5 0 (by decide) (by decide)]; exact h5
      · rw [F2.c 105 (by decide) (by decide), F1.c 105 (by decide) (by decide)]; exact h105 f hf
      · rw [F2.c 6 (by decide) (by decide), F1.c 6 (by decide) (by decide)]; exact (h6 f hf).1
      · rw [F2.c 108 (by decide) (by decide), h108 d hd]
        by_cases c : 0 < whS x 6
        · rw [if_pos c, if_neg (by decide)]; exact (if_pos c).symm
        · rw [if_neg c, if_pos rfl]; exact (if_neg c).symm
      · rw [F2.f 0 0 (by decide) (by decide), F1.f 0 0 (by decide) (by decide)]
  have hG : (if 0 < whS x 6 then 0 else 1 : Nat) ≤ 1 := by split <;> omega
  have hgb : ∀ d, d < 6 → -20000 ≤ (if 0 < whS x 6 then - x d else x d) ∧ (if 0 < whS x 6 then - x d else x d) ≤ 20000 := fun d hd => by
    have := (hx d hd).2
    split <;> omega
  generalize (if 0 < whS x 6 then 0 else 1 : Nat) = G at *
  generalize hgg : (fun d => if 0 < whS x 6 then - x d else x d) = g at *
  have hgb' : ∀ d, d < 6 → -20000 ≤ g d ∧ g d ≤ 20000 := fun d hd => by rw [← hgg]; exact hgb d hd
  unfold d_Ba_leastSetThatTurns
  refine ok_call prep (fun r M1 h => ?_)
  obtain ⟨hr, B, hO, hR, h00⟩ := h
  rw [hr]
  refine ok_call (s_reach hG hn hR hO hv h01 hds (fun d hd => by have := hgb' d hd; omega)) (fun L M2 h => ?_)
  obtain ⟨hL, F2⟩ := h
  have fb := fw_b (n := n) (G := G) (B := B) (ds := ds) (v := v) (fr := frS M n) (g := g) hn
  have hR2 := hR.on F2
  have h00' : M2 0 0 = M 0 0 := by rw [F2.f 0 0 (by decide) (by decide)]; exact h00
  rw [hL]
  by_cases c : fwS n B ds v (frS M n) g G < 1000
  · refine ok_t (by first | omega | ((try simp (disch := omega) only [w32_eq, w64_eq, ix_n, ix_e, sto_n, sto_e, sto_r, zf_r, Int.toNat_natCast, true_or, or_true, eq_self]) <;> (first | omega | decide))) (ok_let (ok_let ?_))
    rw [hR2.1]
    have q := l_least hG hn hO hv hds n FU (frS M n) g (fwS n B ds v (frS M n) g G) (fun _ => 0) M2 (Nat.le_refl _) (by unfold FU; omega) hR2 h01 (fun d hd => by have := hgb' d hd; omega) ⟨rfl, c⟩ (fun _ => Or.inl rfl) (fun _ _ => rfl)
    have e0 : numS (fun _ => 0) n = 0 := sm_0 n (fun f _ => Int.zero_mul _)
    rw [e0] at q
    refine ok_mono q (fun r M' h => ⟨Or.inr ?_, by rw [h.choose_spec.2.2.2]; exact h00'⟩)
    obtain ⟨C', z1, z2, z3, -⟩ := h
    obtain ⟨g1, g2, g3, g4⟩ := gre_ok hG hO hv0 hds n (frS M n) g (fwS n B ds v (frS M n) g G) (Nat.le_refl _) h01 (fun f h1 h2 => by omega) rfl c
    have eC : C' = grC (fun fr g => fwS n B ds v fr g G) ds v n (frS M n) g (fwS n B ds v (frS M n) g G) := by
      funext f; rw [z3 f]
      by_cases q : f < n
      · rw [if_pos q]
      · rw [if_neg q, grC_z n _ _ _ f (by omega)]
    rw [eC] at z1
    exact ⟨_, _, z1, g1, g2, g3, fun a ha ht => fw_low hG hO hv0 hds ha ht, g4⟩
  · refine ok_f (by first | omega | ((try simp (disch := omega) only [w32_eq, w64_eq, ix_n, ix_e, sto_n, sto_e, sto_r, zf_r, Int.toNat_natCast, true_or, or_true, eq_self]) <;> (first | omega | decide))) (ok_ret ⟨Or.inl ⟨rfl, fun a ha ht => ?_⟩, h00'⟩)
    have := fw_low (B := B) hG hO hv0 hds ha ht
    have := sm_01 ha
    omega
