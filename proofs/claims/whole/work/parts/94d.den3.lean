/-! ifs -/
/-- an if -/
def ifF (T F G : Fnn) : Fnn := fun V D E => if (T V D E).1 = 0 then G V D E else F V D E
theorem s_choose {h : Nat} {A B G : Int × Int} {M : Mem} (h1 : M 32 8 = ((h + 3 : Nat) : Int)) (h2 : h + 3 ≤ 64) (a1 : w64 (M 37 h) = A.1) (b1 : w64 (M 37 (h + 1)) = B.1) (b2 : M 38 (h + 1) % 2 = B.2) (g1 : w64 (M 37 (h + 2)) = G.1) (g2 : M 38 (h + 2) % 2 = G.2) : Ok (d_As_playStep 3 0 M) (fun _ M' => PoC h (if A.1 = 0 then G else B) M M') := by
  have x0 : ix (((h + 3 : Nat) : Int) - 2 - 1) = h := by rw [ix_e (by omega) (by omega)]; omega
  have x1 : ix (((h + 3 : Nat) : Int) - 2) = h + 1 := by rw [ix_e (by omega) (by omega)]; omega
  have x2 : ix (((h + 3 : Nat) : Int) - 2 + 1) = h + 2 := by rw [ix_e (by omega) (by omega)]; omega
  unfold d_As_playStep
  refine ok_f (by decide) (ok_f (by decide) (ok_f (by decide) (ok_t (by decide) ?_)))
  unfold d_As_choose k_As_choose_48
  rw [h1]
  refine ok_clet (ok_cf (by rw [w32_eq (by omega) (by omega)]; omega) (ok_clet (ok_clet ?_)))
  rw [sto_e]
  refine ok_clet (ok_cchk (by rw [w32_eq (by omega) (by omega)]; omega) ?_)
  rw [show (sto M 32 8 (((h + 3 : Nat) : Int) - 2)) 37 (ix (((h + 3 : Nat) : Int) - 2 - 1)) = M 37 h by rw [x0, sto_r (by decide)]]
  refine ok_clet ?_
  rw [a1]
  have fin : ∀ (z : Int) (j : Nat) (V : Int × Int), ix z = j → (0 ≤ w32 z ∧ w32 z < 64) → w64 (M 37 j) = V.1 → M 38 j % 2 = V.2 → Ok (bcall (blet (((h + 3 : Nat) : Int) - 2) fun v1 => chk (0 ≤ w32 z ∧ w32 z < 64) <| blet ((sto M 32 8 (((h + 3 : Nat) : Int) - 2)) 37 (ix z)) fun v3 => chk (0 ≤ w32 (v1 - 1) ∧ w32 (v1 - 1) < 64) <| blet (sto (sto M 32 8 (((h + 3 : Nat) : Int) - 2)) 37 (ix (v1 - 1)) v3) fun M5 => blet (M5 32 8) fun v6 => chk (0 ≤ w32 z ∧ w32 z < 64) <| blet (M5 38 (ix z) % 2) fun v8 => chk (0 ≤ w32 (v6 - 1) ∧ w32 (v6 - 1) < 64) <| blet (sto M5 38 (ix (v6 - 1)) v8) fun M10 => some (0, M10)) fun _ M18 => some (0, M18)) (fun _ M' => PoC h V M M') := fun z j V ez hz e1 e2 => by
    refine ok_clet (ok_cchk hz (ok_clet (ok_cchk (by rw [w32_eq (by omega) (by omega)]; omega) (ok_clet ?_))))
    rw [x0, ez, sto_r (show 37 ≠ 32 by decide), sto_r (show 32 ≠ 37 by decide), sto_e, sto_r (show 38 ≠ 37 by decide), sto_r (show 38 ≠ 32 by decide)]
    refine ok_clet (ok_cchk hz (ok_clet (ok_cchk (by rw [w32_eq (by omega) (by omega)]; omega) (ok_clet ?_))))
    rw [x0]
    refine ok_cs (ok_ret ⟨?_, ?_, ?_, fun i hi => ⟨?_, ?_⟩⟩)
    · simp (disch := omega) only [w32_eq, w64_eq, ix_n, ix_e, sto_n, sto_e, sto_r, zf_r, Int.toNat_natCast]; omega
    · simp (disch := omega) only [w32_eq, w64_eq, ix_n, ix_e, sto_n, sto_e, sto_r, zf_r, Int.toNat_natCast]; exact e1
    · rw [sto_e]; omega
    · simp (disch := omega) only [w32_eq, w64_eq, ix_n, ix_e, sto_n, sto_e, sto_r, zf_r, Int.toNat_natCast]
    · simp (disch := omega) only [w32_eq, w64_eq, ix_n, ix_e, sto_n, sto_e, sto_r, zf_r, Int.toNat_natCast]
  by_cases c : A.1 = 0
  · rw [if_pos c, if_pos c]
    refine ok_clet ?_
    exact fin _ (h + 2) G x2 (by rw [w32_eq (by omega) (by omega)]; omega) g1 g2
  · rw [if_neg c, if_neg c]
    refine ok_clet ?_
    exact fin _ (h + 1) B x1 (by rw [w32_eq (by omega) (by omega)]; omega) b1 b2
theorem dc_if {N0 N1 N p q r s : Nat} {T F G : Fnn} {C : Nat → Int} (hpq : p ≤ q) (hqr : q ≤ r) (hrs : r ≤ s) (h0 : DnC N0 T C p q) (h1 : DnC N1 F C q r) (h2 : DnC N1 G C r s) (hN0 : N0 ≤ N) (hN1 : N1 + 2 ≤ N) (hN3 : 3 ≤ N) (hC : C s = cdC 3 0) : DnC N (ifF T F G) C p (s + 1) := by
  intro K R2 a2 a3 e h fuel M g1 g2 g3 g4 g5 g6 g7 g8 g9 g10 g11
  obtain ⟨M1, x1, x2, x3⟩ := h0 K R2 a2 a3 e h fuel M g1 g2 g3 g4 (by omega) g6 g7 (fun i i1 i2 => g8 i i1 (by omega)) g9 (by omega) (by omega)
  obtain ⟨M2, y1, y2, y3⟩ := h1 K R2 a2 a3 e (h + 1) (fuel + p - q) M1 g1 g2 g3 g4 (by omega) g6 (by rw [frK x2 (by omega)]; exact g7) (fun i i1 i2 => by rw [frK x2 (by omega)]; exact g8 i (by omega) (by omega)) x3.1 (by omega) (by omega)
  have xy := x2.trans y2
  obtain ⟨M3, z1, z2, z3⟩ := h2 K R2 a2 a3 e (h + 2) (fuel + p - q + q - r) M2 g1 g2 g3 g4 (by omega) g6 (by rw [frK xy (by omega)]; exact g7) (fun i i1 i2 => by rw [frK xy (by omega)]; exact g8 i (by omega) (by omega)) y3.1 (by omega) (by omega)
  rw [vlC_f x2] at y3
  rw [vlC_f xy] at z3
  have xyz := xy.trans z2
  obtain ⟨a1, a2', a3', a4⟩ := x3
  obtain ⟨b1, b2, b3, b4⟩ := y3
  obtain ⟨c1, c2, c3, c4⟩ := z3
  obtain ⟨v', M4, u1, u2⟩ := s_choose (h := h) (A := vlC M T) (B := vlC M F) (G := vlC M G) (M := M3) c1 (by omega) (by rw [(c4 h (by omega)).1, (b4 h (by omega)).1, a2']) (by rw [(c4 (h + 1) (by omega)).1, b2]) (by rw [(c4 (h + 1) (by omega)).2, b3]) c2 c3
  refine ⟨M4, ?_, xyz.trans (w_As_playStep u1), ?_⟩
  · obtain ⟨f, ef⟩ : ∃ f, fuel + p - q + q - r + r - s = f + 1 := ⟨fuel + p - q + q - r + r - s - 1, by omega⟩
    rw [x1, y1, z1, ef, st_C (w := 3) (v := 0) g3 g4 (by omega) g6 (by rw [frK xyz (by omega)]; exact g7) (by decide) (by decide) (by rw [frK xyz (by omega), g8 s (by omega) (by omega)]; exact hC) u1]
    rw [show f = fuel + p - (s + 1) by omega]
  · obtain ⟨d1, d2, d3, d4⟩ := u2
    refine ⟨d1, d2, d3, fun i hi => ?_⟩
    exact ⟨by rw [(d4 i hi).1, (c4 i (by omega)).1, (b4 i (by omega)).1, (a4 i hi).1], by rw [(d4 i hi).2, (c4 i (by omega)).2, (b4 i (by omega)).2, (a4 i hi).2]⟩
theorem dr_if {N0 N1 N p q r s : Nat} {T F G : Fnn} {C : Nat → Int} (hpq : p ≤ q) (hqr : q + 1 ≤ r) (hrs : r + 1 ≤ s) (hs : s ≤ 1100) (h0 : DnR N0 T C p q) (hT : isT T) (h1 : DnR N1 F C (q + 1) r) (h2 : DnR N1 G C (r + 1) s) (hN0 : N0 ≤ N) (hN1 : N1 ≤ N) (hN2 : 1 ≤ N) (hC : C q = 1048576 * 15 + ((r + 1 : Nat) : Int)) (hC2 : C r = 1048576 * 16 + (s : Int)) : DnR N (ifF T F G) C p s := by
  intro T' R2 a2 a3 e h fuel M g1 g2 g3 g4 g5 g6 g7
  obtain ⟨M1, f1, x0, x1, x2, x3⟩ := h0 T' R2 a2 a3 e h fuel M g1 (by omega) g3 (fun i i1 i2 => g4 i i1 (by omega)) g5 (by omega) (by omega)
  obtain ⟨a1, a2', a3', a4⟩ := x3
  have x150 := x2.c 150 (by decide) (by decide)
  have xh : ix (((h + 1 : Nat) : Int) - 1) = h := by rw [ix_e (by omega) (by omega)]; omega
  obtain ⟨f2, ef⟩ : ∃ f, f1 = f + 1 := ⟨f1 - 1, by omega⟩
  have hv : (vlR M T).1 = 0 ∨ (vlR M T).1 = 1 := by
    rcases hT (ev (M 156)) (fun i => w64 (M 157 i)) (fun i => M 159 i % 2) with t | t
    · left; show (T _ _ _).1 = 0; rw [t]
    · right; show (T _ _ _).1 = 1; rw [t]
  have m72 : (sto M1 111 72 (((h + 1 : Nat) : Int) - 1)) 111 72 = (h : Int) := by rw [sto_e]; omega
  have fr2 : Fr [155, 158] [(111, 72)] M (sto M1 111 72 (((h + 1 : Nat) : Int) - 1)) := x2.trans (fr_stoF (by decide))
  have un : d_Mo_does (1048576 * 15 + ((r + 1 : Nat) : Int)) (q : Int) M1 = some (if (vlR M T).1 = 1 then (q : Int) + 1 else ((r + 1 : Nat) : Int), sto M1 111 72 (((h + 1 : Nat) : Int) - 1)) := by
    have hr1 : (0 : Int) ≤ ((r + 1 : Nat) : Int) ∧ ((r + 1 : Nat) : Int) < 1048576 := by omega
    unfold d_Mo_does
    rw [(dv_20 (w := 15) (v := ((r + 1 : Nat) : Int)) (by decide) hr1).1, (dv_20 (w := 15) (v := ((r + 1 : Nat) : Int)) (by decide) hr1).2]
    refine e_let (e_let (e_f (by decide) (e_f (by decide) (e_f (by decide) (e_t (by decide) ?_)))))
    rw [a1]
    refine e_let (e_let ?_)
    rw [sto_e]
    refine e_let (e_chk (by rw [w32_eq (by omega) (by omega)]; omega) ?_)
    rw [xh, sto_r (by decide)]
    refine e_let ?_
    rw [a2']
    by_cases c : (vlR M T).1 = 1
    · rw [if_pos c, if_pos c]
    · rw [if_neg c, if_neg c]
  have stp := st_R (R2 := R2) (a2 := a2) (a3 := a3) (fuel := f2) g1 (show q < e by omega) g3 (by rw [x150, g4 q (by omega) (by omega)]; exact hC) un
  have low : ∀ i, i < h → (sto M1 111 72 (((h + 1 : Nat) : Int) - 1)) 155 i = M 155 i ∧ (sto M1 111 72 (((h + 1 : Nat) : Int) - 1)) 158 i = M 158 i := fun i hi => ⟨by rw [sto_r (by decide)]; exact (a4 i hi).1, by rw [sto_r (by decide)]; exact (a4 i hi).2⟩
  rcases hv with hv | hv
  · rw [if_neg (by omega)] at stp
    obtain ⟨M3, f3, z0, z1, z2, z3⟩ := h2 T' R2 a2 a3 e h f2 _ g1 (by omega) g3 (fun i i1 i2 => by rw [fr2.c 150 (by decide) (by decide)]; exact g4 i (by omega) (by omega)) m72 (by omega) (by omega)
    rw [vlR_f fr2] at z3
    refine ⟨M3, f3, by omega, ?_, fr2.trans z2, ?_⟩
    · rw [x1, ef, stp, z1]
    · have e1 : vlR M (ifF T F G) = vlR M G := by
        show (if (vlR M T).1 = 0 then _ else _) = _
        rw [if_pos hv]; rfl
      rw [e1]
      obtain ⟨c1, c2, c3, c4⟩ := z3
      exact ⟨c1, c2, c3, fun i hi => ⟨(c4 i hi).1.trans (low i hi).1, (c4 i hi).2.trans (low i hi).2⟩⟩
  · rw [if_pos hv, show (q : Int) + 1 = ((q + 1 : Nat) : Int) by omega] at stp
    obtain ⟨M3, f3, z0, z1, z2, z3⟩ := h1 T' R2 a2 a3 e h f2 _ g1 (by omega) g3 (fun i i1 i2 => by rw [fr2.c 150 (by decide) (by decide)]; exact g4 i (by omega) (by omega)) m72 (by omega) (by omega)
    rw [vlR_f fr2] at z3
    have fr3 := fr2.trans z2
    have hs1 : (0 : Int) ≤ (s : Int) ∧ (s : Int) < 1048576 := by omega
    obtain ⟨f4, ef4⟩ : ∃ f, f3 = f + 1 := ⟨f3 - 1, by omega⟩
    have go : d_Mo_does (1048576 * 16 + (s : Int)) (r : Int) M3 = some ((s : Int), M3) := by
      unfold d_Mo_does
      rw [(dv_20 (w := 16) (v := (s : Int)) (by decide) hs1).1, (dv_20 (w := 16) (v := (s : Int)) (by decide) hs1).2]
      exact e_let (e_let (e_f (by decide) (e_f (by decide) (e_f (by decide) (e_f (by decide) (e_t (by decide) rfl))))))
    have stp2 := st_R (R2 := R2) (a2 := a2) (a3 := a3) (fuel := f4) g1 (show r < e by omega) g3 (by rw [fr3.c 150 (by decide) (by decide), g4 r (by omega) (by omega)]; exact hC2) go
    refine ⟨M3, f4, by omega, ?_, fr3, ?_⟩
    · rw [x1, ef, stp, z1, ef4, stp2]
    · have e1 : vlR M (ifF T F G) = vlR M F := by
        show (if (vlR M T).1 = 0 then _ else _) = _
        rw [if_neg (by omega)]; rfl
      rw [e1]
      obtain ⟨c1, c2, c3, c4⟩ := z3
      exact ⟨c1, c2, c3, fun i hi => ⟨(c4 i hi).1.trans (low i hi).1, (c4 i hi).2.trans (low i hi).2⟩⟩
theorem lcl_bin {d : Nat} {w v : Int} {F G : Fnn} (h1 : Lcl d F) (h2 : Lcl d G) : Lcl d (bnF w v F G) := fun V D E D' E' h => by
  unfold bnF; rw [h1 V D E D' E' h, h2 V D E D' E' h]
theorem lcl_if {d : Nat} {T F G : Fnn} (h0 : Lcl d T) (h1 : Lcl d F) (h2 : Lcl d G) : Lcl d (ifF T F G) := fun V D E D' E' h => by
  unfold ifF; rw [h0 V D E D' E' h, h1 V D E D' E' h, h2 V D E D' E' h]
theorem lcl_pu {d k v : Nat} (h : k = 2 → v < d) (hk : k ≤ 2) : Lcl d (puF k v) := fun V D E D' E' hh => by
  unfold puF
  by_cases c0 : k = 0
  · rw [if_pos c0, if_pos c0]
  · rw [if_neg c0, if_neg c0]
    by_cases c1 : k = 1
    · rw [if_pos c1, if_pos c1]
    · rw [if_neg c1, if_neg c1]
      obtain ⟨e1, e2⟩ := hh v (h (by omega))
      rw [e1, e2]
theorem isT_cmp {w v : Int} {F G : Fnn} (hw : 13 ≤ w) : isT (bnF w v F G) := fun V D E => by
  unfold bnF bnV
  rw [if_neg (by omega), if_neg (by omega), if_pos hw]
  by_cases c : (F V D E).2 = 0 ∧ (G V D E).2 = 0 ∧ cmV w (F V D E).1 (G V D E).1 ≠ (if v = 1 then 1 else 0)
  · rw [if_pos c]; exact Or.inr rfl
  · rw [if_neg c]; exact Or.inl rfl
theorem an01 : w64 (an64 0 0) = 0 ∧ w64 (an64 0 1) = 0 ∧ w64 (an64 1 0) = 0 ∧ w64 (an64 1 1) = 1 := by decide +kernel
theorem or01 : w64 (or64 0 0) = 0 ∧ w64 (or64 0 1) = 1 ∧ w64 (or64 1 0) = 1 ∧ w64 (or64 1 1) = 1 := by decide +kernel
theorem isT_join {w v : Int} {F G : Fnn} (hw : w = 11 ∨ w = 12) (h1 : isT F) (h2 : isT G) : isT (bnF w v F G) := fun V D E => by
  have p : ∀ x : Int, (x = 0 ∨ x = 1) → ((x, (0 : Int)) = ((0 : Int), (0 : Int)) ∨ (x, (0 : Int)) = ((1 : Int), (0 : Int))) := fun x hx => by
    rcases hx with e | e <;> rw [e]
    · exact Or.inl rfl
    · exact Or.inr rfl
  unfold bnF bnV
  rcases hw with e | e
  · rw [if_pos e]
    refine p _ ?_
    rcases h1 V D E with a | a <;> rcases h2 V D E with b | b <;> rw [a, b]
    · exact Or.inl an01.1
    · exact Or.inl an01.2.1
    · exact Or.inl an01.2.2.1
    · exact Or.inr an01.2.2.2
  · rw [if_neg (by omega), if_pos e]
    refine p _ ?_
    rcases h1 V D E with a | a <;> rcases h2 V D E with b | b <;> rw [a, b]
    · exact Or.inl or01.1
    · exact Or.inr or01.2.1
    · exact Or.inr or01.2.2.1
    · exact Or.inr or01.2.2.2
