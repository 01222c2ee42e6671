/-! pushed -/
/-- a number, a VARIABLE, a DEF: kind k = 0, 1, 2 -/
def puF (k v : Nat) : Fnn := fun V D E => if k = 0 then ((v : Int), 0) else if k = 1 then (V v, 0) else (D v, E v)
theorem dc_push {k v p : Nat} {C : Nat → Int} (hk : k = 0 ∨ (k = 1 ∧ v < 11) ∨ (k = 2 ∧ v < 10)) (hv : v < 1048576) (hC : C p = cdC (k : Int) (v : Int)) : DnC 1 (puF k v) C p (p + 1) := by
  intro K R2 a2 a3 e h fuel M g1 g2 g3 g4 g5 g6 g7 g8 g9 g10 g11
  obtain ⟨f, rfl⟩ : ∃ f, fuel = f + 1 := ⟨fuel - 1, by omega⟩
  have hc : M (K + 1) p = cdC (k : Int) (v : Int) := by rw [g8 p (by omega) (by omega), hC]
  have xv : ix (v : Int) = v := ix_n (by omega)
  have key : ∃ x z : Int, d_As_playStep (k : Int) (v : Int) M = some (0, sto (sto (sto M 37 h x) 38 h z) 32 8 ((h + 1 : Nat) : Int)) ∧ w64 x = (vlC M (puF k v)).1 ∧ z % 2 = (vlC M (puF k v)).2 := by
    have pp : ∀ x z : Int, (bcall (d_As_push x z M) fun _ M3 => some (0, M3)) = some (0, sto (sto (sto M 37 h x) 38 h z) 32 8 ((h + 1 : Nat) : Int)) := fun x z => e_call (s_pushC g9 (by omega)) rfl
    rcases hk with e1 | ⟨e1, e2⟩ | ⟨e1, e2⟩ <;> subst e1
    · refine ⟨w32 (v : Int), 0, ?_, ?_, rfl⟩
      · unfold d_As_playStep
        exact e_t (by decide) (pp _ _)
      · rw [w64_w32, w32_eq (by omega) (by omega)]; rfl
    · refine ⟨M 34 v, 0, ?_, ?_, rfl⟩
      · unfold d_As_playStep
        refine e_f (by decide) (e_t (by decide) (e_chk (by rw [w32_eq (by omega) (by omega)]; omega) (e_let ?_)))
        rw [xv]; exact pp _ _
      · unfold vlC puF ev
        rw [if_neg (by decide), if_pos rfl]
        show _ = if v < 11 then _ else _
        rw [if_pos e2]
    · refine ⟨M 35 v, M 36 v % 2, ?_, ?_, ?_⟩
      · unfold d_As_playStep
        refine e_f (by decide) (e_f (by decide) (e_t (by decide) (e_chk (by rw [w32_eq (by omega) (by omega)]; omega) (e_let (e_chk (by rw [w32_eq (by omega) (by omega)]; omega) (e_let ?_))))))
        rw [xv]; exact pp _ _
      · rfl
      · show M 36 v % 2 % 2 = M 36 v % 2
        omega
  obtain ⟨x, z, k1, k2, k3⟩ := key
  obtain ⟨q1, q2⟩ := po_pC (h := h) (M := M) k2 k3
  refine ⟨_, ?_, q2, q1⟩
  rw [show f + 1 + p - (p + 1) = f by omega]
  exact st_C g3 g4 (by omega) g6 g7 (by omega) hv hc k1
set_option maxHeartbeats 60000 in
theorem dr_push {k v p : Nat} {C : Nat → Int} (hk : k = 0 ∨ (k = 1 ∧ v < 11) ∨ (k = 2 ∧ v < 10)) (hv : v < 1048576) (hC : C p = 1048576 * (k : Int) + (v : Int)) : DnR 1 (puF k v) C p (p + 1) := by
  intro T R2 a2 a3 e h fuel M g1 g2 g3 g4 g5 g6 g7
  obtain ⟨f, rfl⟩ : ∃ f, fuel = f + 1 := ⟨fuel - 1, by omega⟩
  have hc : M 150 (1100 * T + p) = 1048576 * (k : Int) + (v : Int) := by rw [g4 p (by omega) (by omega), hC]
  have xv : ix (v : Int) = v := ix_n (by omega)
  have dd := dv_20 (w := (k : Int)) (v := (v : Int)) (by omega) (by omega)
  have h6 : h < 600 := by omega
  clear hc
  have key : ∃ x z : Int, d_Mo_does (1048576 * (k : Int) + (v : Int)) (p : Int) M = some ((p : Int) + 1, sto (sto (sto M 155 h x) 158 h z) 111 72 ((h + 1 : Nat) : Int)) ∧ w64 x = (vlR M (puF k v)).1 ∧ z % 2 = (vlR M (puF k v)).2 := by
    have pp : ∀ x z : Int, (bcall (d_Mo_push x z M) fun _ M3 => some ((p : Int) + 1, M3)) = some ((p : Int) + 1, sto (sto (sto M 155 h x) 158 h z) 111 72 ((h + 1 : Nat) : Int)) := fun x z => e_call (s_pushR g5 h6) rfl
    unfold d_Mo_does
    rw [dd.1, dd.2]
    clear dd
    rcases hk with e1 | ⟨e1, e2⟩ | ⟨e1, e2⟩ <;> subst e1
    · refine ⟨w32 (v : Int), 0, ?_, ?_, rfl⟩
      · refine e_let ?_
        refine e_let ?_
        refine e_t (by decide) ?_
        exact pp _ _
      · rw [w64_w32, w32_eq (by omega) (by omega)]; rfl
    · refine ⟨M 156 v, 0, ?_, ?_, rfl⟩
      · refine e_let ?_
        refine e_let ?_
        refine e_f (by decide) ?_
        refine e_t (by decide) ?_
        refine e_chk (by rw [w32_eq (by omega) (by omega)]; omega) ?_
        refine e_let ?_
        rw [xv]; exact pp _ _
      · unfold vlR puF ev
        rw [if_neg (by decide), if_pos rfl]
        show _ = if v < 11 then _ else _
        rw [if_pos e2]
    · refine ⟨M 157 v, M 159 v % 2, ?_, ?_, ?_⟩
      · refine e_let ?_
        refine e_let ?_
        refine e_f (by decide) ?_
        refine e_f (by decide) ?_
        refine e_t (by decide) ?_
        refine e_chk (by rw [w32_eq (by omega) (by omega)]; omega) ?_
        refine e_let ?_
        refine e_chk (by rw [w32_eq (by omega) (by omega)]; omega) ?_
        refine e_let ?_
        rw [xv]; exact pp _ _
      · rfl
      · show M 159 v % 2 % 2 = M 159 v % 2
        omega
  obtain ⟨x, z, k1, k2, k3⟩ := key
  obtain ⟨q1, q2⟩ := po_pR (h := h) (M := M) k2 k3
  refine ⟨_, f, by omega, ?_, q2, q1⟩
  have stp := st_R (R2 := R2) (a2 := a2) (a3 := a3) (fuel := f) g1 (show p < e by omega) g3 (by rw [g4 p (by omega) (by omega), hC]) k1
  rw [show (p : Int) + 1 = ((p + 1 : Nat) : Int) by omega] at stp
  exact stp
