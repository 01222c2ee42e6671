/-! what texts answer, on both sides -/
theorem agT {M M1 : Mem} (h : Ag TxL TxK M M1) {i : Nat} (hi : i < 4) : M1 (40 + 4 * i) = M (40 + 4 * i) ∧ M1 (41 + 4 * i) = M (41 + 4 * i) ∧ M1 (42 + 4 * i) = M (42 + 4 * i) := by
  rcases (show i = 0 ∨ i = 1 ∨ i = 2 ∨ i = 3 by omega) with e | e | e | e <;> subst e
  · exact ⟨h.c 40 (by decide), h.c 41 (by decide), h.c 42 (by decide)⟩
  · exact ⟨h.c 44 (by decide), h.c 45 (by decide), h.c 46 (by decide)⟩
  · exact ⟨h.c 48 (by decide), h.c 49 (by decide), h.c 50 (by decide)⟩
  · exact ⟨h.c 52 (by decide), h.c 53 (by decide), h.c 54 (by decide)⟩
theorem TxI.on {i D : Nat} {nm : Nat → Int} {F : Nat → Fnn} {M M1 : Mem} (h : TxI i D nm F M) (e1 : M1 148 i = M 148 i) (e2 : M1 (40 + 4 * i) = M (40 + 4 * i)) (e3 : M1 (41 + 4 * i) = M (41 + 4 * i)) (e4 : M1 (42 + 4 * i) = M (42 + 4 * i)) (e5 : ∀ j, j ≤ 10 → M1 149 (11 * i + j) = M 149 (11 * i + j)) (e6 : ∀ j, j < 1100 → M1 150 (1100 * i + j) = M 150 (1100 * i + j)) (e7 : ∀ j, j < 10 → M1 153 (10 * i + j) = M 153 (10 * i + j)) : TxI i D nm F M1 := by
  obtain ⟨h1, h2, h3, h4, h5, h6⟩ := h
  refine ⟨h1, by rw [e1]; exact h2, fun j hj => ?_, fun q hq => by rw [e4]; exact h4 q hq, fun j hj => by rw [e7 j (by omega)]; exact h5 j hj, h6⟩
  obtain ⟨a1, a2, b1, b2, x1, x2, x3, x4, x5, x6, x7, x8, x9, x10, x11⟩ := h3 j hj
  exact ⟨a1, a2, b1, b2, by rw [e3]; exact x1, by rw [e3]; exact x2, by rw [e5 j (by omega)]; exact x3, by rw [Nat.add_assoc, e5 (j + 1) (by omega)]; exact x4, x5, x6, x7, x8, x9, by rw [e2]; exact x10, x11.c (fun k k1 k2 => e6 k (by omega))⟩
theorem l_told {t D : Nat} {nm : Nat → Int} {F : Nat → Fnn} {M : Mem} {q : Nat} {wo : Int} (ht : t < 4) (hq : q < 7) (hT : TxI t D nm F M) : ∀ (r fuel k : Nat), k + r = D → r < fuel → fix (fun _ _ _ _ _ _ => none) k_Mo_told_18 fuel (spl q) wo (t : Int) (ndF nm (asC q) k 0) (k : Int) M = k_Mo_told_63 wo (t : Int) (ndF nm (asC q) D 0) M := by
  obtain ⟨hD, h148, -, -, h153, hdis⟩ := hT
  have ab := asC_b (q := q)
  have sb := cv_b (asC q)
  rw [asC_s hq] at sb
  have xt : ix (t : Int) = t := ix_n (by omega)
  intro r; induction r with
  | zero =>
    intro fuel k e hf
    obtain ⟨f, rfl⟩ : ∃ f, fuel = f + 1 := ⟨fuel - 1, by omega⟩
    have key : ∀ R : Int → Int → Int → Int → Int → Mem → Res, k_Mo_told_18 R (spl q) wo (t : Int) (ndF nm (asC q) k 0) (k : Int) M = k_Mo_told_63 wo (t : Int) (ndF nm (asC q) D 0) M := fun R => by
      unfold k_Mo_told_18
      refine e_f (by rw [w32_eq (by omega) (by omega)]; omega) (e_chk (by rw [w32_eq (by omega) (by omega)]; omega) (e_let ?_))
      rw [xt, h148]
      refine e_f (by rw [w32_eq (by omega) (by omega), w32_eq (by omega) (by omega)]; omega) ?_
      rw [show k = D by omega]
    rw [fix_s]; exact key _
  | succ r ih =>
    intro fuel k e hf
    obtain ⟨f, rfl⟩ : ∃ f, fuel = f + 1 := ⟨fuel - 1, by omega⟩
    obtain ⟨n1, n2, n3⟩ := h153 k (by omega)
    have nb := cv_b (nm k)
    have xk : ix (10 * (t : Int) + (k : Int)) = 10 * t + k := by rw [ix_e (by omega) (by omega)]; omega
    have key : ∀ R : Int → Int → Int → Int → Int → Mem → Res, k_Mo_told_18 R (spl q) wo (t : Int) (ndF nm (asC q) k 0) (k : Int) M = R (spl q) wo (t : Int) (ndF nm (asC q) (k + 1) 0) ((k + 1 : Nat) : Int) M := fun R => by
      unfold k_Mo_told_18 k_Mo_told_57
      refine e_f (by rw [w32_eq (by omega) (by omega)]; omega) (e_chk (by rw [w32_eq (by omega) (by omega)]; omega) (e_let ?_))
      rw [xt, h148]
      refine e_t (by rw [w32_eq (by omega) (by omega), w32_eq (by omega) (by omega)]; omega) (e_chk (by rw [w32_eq (by omega) (by omega)]; omega) (e_let ?_))
      rw [xk, n1, w64_eq (x := cv (nm k)) (by omega) (by omega), w64_eq (x := spl q) (by omega) (by omega), ndF_s, Nat.zero_add, show ((k + 1 : Nat) : Int) = (k : Int) + 1 by omega]
      by_cases c : nm k = asC q
      · rw [if_pos c]
        have hm : ndF nm (asC q) k 0 = -1 := ndF_m k 0 (fun j _ hj => by rw [← c]; exact hdis j k (by omega) (by omega))
        rw [if_pos hm]
        exact e_t (by rw [c]; exact asC_s hq) rfl
      · rw [if_neg c]
        refine e_f (fun z => c (cv_i ⟨n2, n3⟩ ab (by rw [asC_s hq]; exact z))) ?_
        by_cases c2 : ndF nm (asC q) k 0 = -1
        · rw [if_pos c2, c2]; rfl
        · rw [if_neg c2]; rfl
    rw [fix_s, key]
    exact ih f (k + 1) (by omega) (by omega)
theorem askI_of {N : Nat} {G : Nat → Nat → Fnn} {Ds : Nat → Nat} {Nm : Nat → Nat → Int} {dq : Nat → Nat → Int} {M : Mem} (hdq : ∀ i q, dq i q = ndF (Nm i) (asC q) (Ds i) 0) (hN : N ≤ 4) (h56 : M 111 56 = (N : Int)) (h32 : M 32 0 = (N : Int)) (hfr : ∀ i, i < N → M (39 + 4 * i) 0 = M 147 i ∧ 0 ≤ M 147 i ∧ M 147 i ≤ 519) (hT : ∀ i, i < N → TxI i (Ds i) (Nm i) (G i) M) : AskI (afn G dq (M 147) N) M := by
  refine ⟨by omega, by rw [h32, h56], fun i hi => hfr i (by omega), fun q w e => afn_b, fun M1 ag q hq w hw => ?_⟩
  have eN : (M 111 56).toNat = N := by omega
  rw [eN]
  have fb := fcF_r (fr := M 147) (w := w) N
  have hT1 : ∀ i, i < N → TxI i (Ds i) (Nm i) (G i) M1 := fun i hi => by
    obtain ⟨g1, g2, g3⟩ := agT ag (show i < 4 by omega)
    exact (hT i hi).on (by rw [ag.c 148 (by decide)]) g1 g2 g3 (fun j _ => by rw [ag.c 149 (by decide)]) (fun j _ => by rw [ag.c 150 (by decide)]) (fun j _ => by rw [ag.c 153 (by decide)])
  obtain ⟨s0, -, -⟩ := s_sti hq
  obtain ⟨-, -, -, b4, b5⟩ := q_lh (q := q)
  have xq : ix (q : Int) = q := ix_n (by omega)
  have wo : w64 (qwo q) = qwo q := w64_eq (by omega) (by omega)
  have wo2 : w32 (qwo q) = qwo q := w32_eq (by omega) (by omega)
  refine ⟨fun h2 => ?_, ?_⟩
  · unfold d_As_ask
    refine ok_chk (by rw [w32_eq (by omega) (by omega)]; omega) (ok_let (ok_let ?_))
    rw [xq, s0, wo2, h2]
    refine ok_let ?_
    unfold afn
    by_cases c0 : fcF (M 147) w N < 0
    · rw [if_pos c0]
      refine ok_t (by rw [w32_eq (by omega) (by omega)]; omega) ?_
      unfold k_As_ask_33
      refine ok_t (by decide) ?_
      have := s_ask78 (q := q) (z := qwo q) (M := M1) hq
      rw [wo] at this; exact this
    · rw [if_neg c0]
      obtain ⟨t, et⟩ : ∃ t : Nat, fcF (M 147) w N = (t : Int) := ⟨(fcF (M 147) w N).toNat, by omega⟩
      rw [et, Int.toNat_natCast]
      have ht : t < N := by omega
      have xt : ix (t : Int) = t := ix_n (by omega)
      have hTt := hT1 t ht
      have hTt' := hTt
      obtain ⟨hD, -, -, h42, -, -⟩ := hTt'
      have nb := ndF_b (nm := Nm t) (x := asC q) (Ds t) 0
      rw [← hdq t q] at nb
      refine ok_f (by rw [w32_eq (by omega) (by omega)]; omega) (ok_let (ok_chk (by rw [w32_eq (by omega) (by omega)]; omega) (ok_chk (by rw [w32_eq (by omega) (by omega)]; omega) ?_)))
      rw [xt, show 39 + 4 * t + 3 = 42 + 4 * t by omega, h42 q hq, ← hdq t q]
      refine ok_let ?_
      unfold k_As_ask_33
      by_cases cd : dq t q = -1
      · rw [cd, if_pos (show (-1 : Int) < 0 by decide)]
        refine ok_t (by decide) ?_
        have := s_ask78 (q := q) (z := qwo q) (M := M1) hq
        rw [wo] at this; exact this
      · obtain ⟨d, ed⟩ : ∃ d : Nat, dq t q = (d : Int) := ⟨(dq t q).toNat, by omega⟩
        rw [ed, Int.toNat_natCast, if_neg (show ¬ (d : Int) < 0 by omega), h2, et]
        have xd : ix (d : Int) = d := ix_n (by omega)
        refine ok_f (by rw [w32_eq (by omega) (by omega)]; omega) (ok_let (ok_chk (by rw [w32_eq (by omega) (by omega)]; omega) ?_))
        rw [xt]
        refine ok_call (l_reck (V := ev (M1 34)) (show t < 4 by omega) hTt (show d < Ds t by omega) (d + 1) FU 0 M1 (by omega) (by unfold FU; omega) Fr.rfl' ⟨rfl, fun i hi => by omega⟩) (fun _ M5 hV => ?_)
        obtain ⟨-, hV⟩ := hV
        obtain ⟨v1, v2⟩ := hV d (by omega)
        refine ok_chk (by rw [w32_eq (by omega) (by omega)]; omega) ?_
        rw [xd, v2]
        refine ok_let ?_
        have vb : M5 36 d % 2 = 0 ∨ M5 36 d % 2 = 1 := by omega
        rw [v2] at vb
        unfold k_As_ask_77
        by_cases cz : (vls (G t) (ev (M1 34)) (d + 1)).2 d = 0
        · rw [if_pos cz]
          refine ok_t (by rw [cz]; decide) (ok_chk (by rw [w32_eq (by omega) (by omega)]; omega) (ok_let ?_))
          have := s_ask78 (q := q) (z := M5 35 d) (M := M5) hq
          rw [v1] at this; exact this
        · rw [if_neg cz]
          refine ok_f (by rw [w32_eq (by omega) (by omega)]; exact cz) ?_
          have := s_ask78 (q := q) (z := qwo q) (M := M5) hq
          rw [wo] at this; exact this
  · unfold d_Mo_told
    have u56 := ag.f 111 56 (by decide)
    have u147 := ag.c 147 (by decide)
    have fA : Fr [155, 157, 158, 159] [(111, 72), (111, 108)] M1 (sto M1 111 108 0) := fr_stoF (by decide)
    refine ok_let ?_
    have sf := s_force (w := w) (M := sto M1 111 108 0) (by rw [sto_n (by decide), u56, h56]; omega) hw (fun i hi => by
      rw [sto_n (by decide), u56, h56] at hi
      rw [sto_r (by decide), u147]; exact (hfr i (by omega)).2)
    rw [sto_n (by decide), u56, eN, sto_r (show 147 ≠ 111 by decide), u147] at sf
    refine ok_call_eq sf ?_
    unfold afn
    by_cases c0 : fcF (M 147) w N < 0
    · rw [if_pos c0, show FU = 4294967295 + 1 from rfl, fix_s]
      have key : ∀ R : Int → Int → Int → Int → Int → Mem → Res, k_Mo_told_18 R (spl q) (qwo q) (fcF (M 147) w N) (-1) 0 (sto M1 111 108 0) = some (qwo q, sto M1 111 108 0) := fun R => by
        unfold k_Mo_told_18 k_Mo_told_63
        exact e_t (by rw [w32_eq (by omega) (by omega)]; exact c0) (e_t (by decide) rfl)
      rw [key]
      refine ok_ret ?_
      rw [wo]
    · rw [if_neg c0]
      obtain ⟨t, et⟩ : ∃ t : Nat, fcF (M 147) w N = (t : Int) := ⟨(fcF (M 147) w N).toNat, by omega⟩
      rw [et, Int.toNat_natCast]
      have ht : t < N := by omega
      have hTt : TxI t (Ds t) (Nm t) (G t) (sto M1 111 108 0) := (hT1 t ht).on (by rw [sto_r (by decide)]) (by rw [sto_r (by omega)]) (by rw [sto_r (by omega)]) (by rw [sto_r (by omega)]) (fun j _ => by rw [sto_r (by decide)]) (fun j _ => by rw [sto_r (by decide)]) (fun j _ => by rw [sto_r (by decide)])
      have hD := hTt.1
      have nb := ndF_b (nm := Nm t) (x := asC q) (Ds t) 0
      rw [← hdq t q] at nb
      have lt := l_told (wo := qwo q) (show t < 4 by omega) hq hTt (Ds t) FU 0 (by omega) (by unfold FU; omega)
      rw [show ndF (Nm t) (asC q) 0 0 = -1 from rfl] at lt
      rw [show ((0 : Nat) : Int) = 0 from rfl] at lt
      rw [lt, ← hdq t q]
      unfold k_Mo_told_63
      by_cases cd : dq t q = -1
      · rw [cd, if_pos (show (-1 : Int) < 0 by decide)]
        refine ok_t (by decide) (ok_ret ?_)
        rw [wo]
      · obtain ⟨d, ed⟩ : ∃ d : Nat, dq t q = (d : Int) := ⟨(dq t q).toNat, by omega⟩
        rw [ed, Int.toNat_natCast, if_neg (show ¬ (d : Int) < 0 by omega)]
        have xd : ix (d : Int) = d := ix_n (by omega)
        refine ok_f (by rw [w32_eq (by omega) (by omega)]; omega) ?_
        unfold d_Mo_work
        refine ok_call (l_work (V := ev (M1 156)) (show t < 4 by omega) hTt (show d < Ds t by omega) (d + 1) FU 0 (sto M1 111 108 0) (by omega) (by unfold FU; omega) Fr.rfl' ⟨by rw [sto_r (by decide)], fun i hi => by omega⟩) (fun _ M5 hV => ?_)
        obtain ⟨-, hV⟩ := hV
        obtain ⟨v1, v2⟩ := hV d (by omega)
        have vb : M5 159 d % 2 = 0 ∨ M5 159 d % 2 = 1 := by omega
        refine ok_chk (by rw [w32_eq (by omega) (by omega)]; omega) ?_
        rw [xd, v2]
        rw [v2] at vb
        refine ok_let (ok_chk (by rcases vb with z | z <;> rw [z] <;> decide) (ok_let ?_))
        rw [sto_e]
        refine ok_let ?_
        by_cases cz : (vls (G t) (ev (M1 156)) (d + 1)).2 d = 0
        · rw [if_pos cz]
          refine ok_t (by rw [cz]; decide) (ok_chk (by rw [w32_eq (by omega) (by omega)]; omega) ?_)
          rw [sto_r (by decide)]
          refine ok_let (ok_ret ?_)
          rw [v1]
        · rw [if_neg cz]
          refine ok_f (by rw [w32_eq (by omega) (by omega)]; exact cz) (ok_ret ?_)
          rw [wo]
