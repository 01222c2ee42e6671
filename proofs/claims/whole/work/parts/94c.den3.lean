/-! joined -/
/-- two joined -/
def bnF (w v : Int) (F G : Fnn) : Fnn := fun V D E => bnV w v (F V D E) (G V D E)
def isT (F : Fnn) : Prop := ∀ V D E, F V D E = (0, 0) ∨ F V D E = (1, 0)
theorem dc_bin {N N1 p q r w v : Nat} {F G : Fnn} {C : Nat → Int} (hN : N1 + 1 ≤ N) (h2N : 2 ≤ N) (hpq : p ≤ q) (hqr : q ≤ r) (h1 : DnC N F C p q) (h2 : DnC N1 G C q r) (hw : 4 ≤ w ∧ w ≤ 15) (hv : v < 1048576) (hF : w = 11 ∨ w = 12 → isT F) (hC : C r = cdC (w : Int) (v : Int)) : DnC N (bnF (w : Int) (v : Int) F G) C p (r + 1) := by
  intro K R2 a2 a3 e h fuel M g1 g2 g3 g4 g5 g6 g7 g8 g9 g10 g11
  obtain ⟨M1, x1, x2, x3⟩ := h1 K R2 a2 a3 e h fuel M g1 g2 g3 g4 (by omega) g6 g7 (fun i i1 i2 => g8 i i1 (by omega)) g9 (by omega) (by omega)
  obtain ⟨M2, y1, y2, y3⟩ := h2 K R2 a2 a3 e (h + 1) (fuel + p - q) M1 g1 g2 g3 g4 (by omega) g6 (by rw [frK x2 (by omega)]; exact g7) (fun i i1 i2 => by rw [frK x2 (by omega)]; exact g8 i (by omega) (by omega)) x3.1 (by omega) (by omega)
  rw [vlC_f x2] at y3
  obtain ⟨a1, a2', a3', a4⟩ := x3
  obtain ⟨b1, b2, b3, b4⟩ := y3
  have b5 := b4 h (by omega)
  have H : StC h (vlC M F) (vlC M G) M2 := ⟨b1, by omega, by rw [b5.1, a2'], by rw [b5.2, a3'], b2, b3⟩
  obtain ⟨v', M3, z1, z2⟩ := s_bin (w := (w : Int)) (v := (v : Int)) (by omega) (by omega) (fun hh => by
    rcases hF (by omega) (ev (M 34)) (fun i => w64 (M 35 i)) (fun i => M 36 i % 2) with t | t
    · show (F _ _ _).2 = 0
      rw [t]
    · show (F _ _ _).2 = 0
      rw [t]) H
  have fr3 : Fr [37, 38] [(32, 8)] M M3 := (x2.trans y2).trans (w_As_playStep z1)
  refine ⟨M3, ?_, fr3, ?_⟩
  · obtain ⟨f, ef⟩ : ∃ f, fuel + p - q + q - r = f + 1 := ⟨fuel + p - q + q - r - 1, by omega⟩
    rw [x1, y1, ef, st_C g3 g4 (by omega) g6 (by rw [frK (x2.trans y2) (by omega)]; exact g7) (by omega) hv (by rw [frK (x2.trans y2) (by omega), g8 r (by omega) (by omega)]; exact hC) z1]
    rw [show f = fuel + p - (r + 1) by omega]
  · obtain ⟨c1, c2, c3, c4⟩ := z2
    refine ⟨c1, c2, c3, fun i hi => ?_⟩
    obtain ⟨c5, c6⟩ := c4 i hi
    obtain ⟨b6, b7⟩ := b4 i (by omega)
    obtain ⟨a5, a6⟩ := a4 i hi
    exact ⟨by rw [c5, b6, a5], by rw [c6, b7, a6]⟩
theorem dr_bin {N N1 p q r w v : Nat} {F G : Fnn} {C : Nat → Int} (hN : N1 + 1 ≤ N) (h2N : 2 ≤ N) (hpq : p ≤ q) (hqr : q ≤ r) (h1 : DnR N F C p q) (h2 : DnR N1 G C q r) (hw : 4 ≤ w ∧ w ≤ 15) (hv : v < 1048576) (hC : C r = 1048576 * rop (w : Int) + (v : Int)) : DnR N (bnF (w : Int) (v : Int) F G) C p (r + 1) := by
  intro T R2 a2 a3 e h fuel M g1 g2 g3 g4 g5 g6 g7
  obtain ⟨M1, f1, x0, x1, x2, x3⟩ := h1 T R2 a2 a3 e h fuel M g1 (by omega) g3 (fun i i1 i2 => g4 i i1 (by omega)) g5 (by omega) (by omega)
  obtain ⟨M2, f2, y0, y1, y2, y3⟩ := h2 T R2 a2 a3 e (h + 1) f1 M1 g1 (by omega) g3 (fun i i1 i2 => by rw [x2.c 150 (by decide) (by decide)]; exact g4 i (by omega) (by omega)) x3.1 (by omega) (by omega)
  rw [vlR_f x2] at y3
  obtain ⟨a1, a2', a3', a4⟩ := x3
  obtain ⟨b1, b2, b3, b4⟩ := y3
  have b5 := b4 h (by omega)
  have H : StR h (vlR M F) (vlR M G) M2 := ⟨b1, by omega, by rw [b5.1, a2'], by rw [b5.2, a3'], b2, b3⟩
  obtain ⟨M3, z1, z2, z3⟩ := s_doesB (w := (w : Int)) (v := (v : Int)) (k := (r : Int)) (by omega) (by omega) H
  have fr2 := x2.trans y2
  have fr3 : Fr [155, 158] [(111, 72)] M M3 := fr2.trans z3
  obtain ⟨f, ef⟩ : ∃ f, f2 = f + 1 := ⟨f2 - 1, by omega⟩
  refine ⟨M3, f, by omega, ?_, fr3, ?_⟩
  · have stp := st_R (R2 := R2) (a2 := a2) (a3 := a3) (fuel := f) g1 (show r < e by omega) g3 (by rw [fr2.c 150 (by decide) (by decide), g4 r (by omega) (by omega)]; exact hC) z1
    rw [show (r : Int) + 1 = ((r + 1 : Nat) : Int) by omega] at stp
    rw [x1, y1, ef, stp]
  · obtain ⟨c1, c2, c3, c4⟩ := z2
    refine ⟨c1, c2, c3, fun i hi => ?_⟩
    obtain ⟨c5, c6⟩ := c4 i hi
    obtain ⟨b6, b7⟩ := b4 i (by omega)
    obtain ⟨a5, a6⟩ := a4 i hi
    exact ⟨by rw [c5, b6, a5], by rw [c6, b7, a6]⟩
