/-! what texts answer: the component alone, before the model has taken the text up -/
def TxC (i D : Nat) (nm : Nat → Int) (F : Nat → Fnn) (M : Mem) : Prop := D ≤ 10 ∧ (∀ j, j < D → ∃ e1 e2 : Nat, (if j = 0 then 0 else M (41 + 4 * i) (j - 1)) = (e1 : Int) ∧ M (41 + 4 * i) j = (e2 : Int) ∧ e1 ≤ e2 ∧ e2 ≤ 500 ∧ Lcl j (F j) ∧ DnC 37 (F j) (M (40 + 4 * i)) e1 e2) ∧ ∀ q, q < 7 → M (42 + 4 * i) q = ndF nm (asC q) D 0
theorem TxI.c {i D : Nat} {nm : Nat → Int} {F : Nat → Fnn} {M : Mem} (h : TxI i D nm F M) : TxC i D nm F M := by
  obtain ⟨h1, h2, h3, h4, h5, h6⟩ := h
  refine ⟨h1, fun j hj => ?_, h4⟩
  obtain ⟨a1, a2, b1, b2, x1, x2, x3, x4, x5, x6, x7, x8, x9, x10, x11⟩ := h3 j hj
  exact ⟨a1, a2, x1, x2, x5, x6, x9, x10⟩
theorem TxC.on {i D : Nat} {nm : Nat → Int} {F : Nat → Fnn} {M M1 : Mem} (h : TxC i D nm F M) (e2 : M1 (40 + 4 * i) = M (40 + 4 * i)) (e3 : M1 (41 + 4 * i) = M (41 + 4 * i)) (e4 : M1 (42 + 4 * i) = M (42 + 4 * i)) : TxC i D nm F M1 := by
  obtain ⟨h1, h3, h4⟩ := h
  refine ⟨h1, fun j hj => ?_, fun q hq => by rw [e4]; exact h4 q hq⟩
  obtain ⟨a1, a2, x1, x2, x5, x6, x9, x10⟩ := h3 j hj
  exact ⟨a1, a2, by rw [e3]; exact x1, by rw [e3]; exact x2, x5, x6, x9, by rw [e2]; exact x10⟩
theorem l_reckC {t D : Nat} {nm : Nat → Int} {F : Nat → Fnn} {V : Nat → Int} {M0 : Mem} {L : Nat} (ht : t < 4) (hT : TxC t D nm F M0) (hL : L < D) : ∀ (r fuel d : Nat) (M : Mem), d + r = L + 1 → r < fuel → Fr [35, 36, 37, 38] [(32, 8)] M0 M → VlC F V d M → Ok (fix (fun _ _ _ => none) (k_As_reckonDefs_2 (39 + 4 * t)) fuel (L : Int) (d : Int) M) (fun _ M' => VlC F V (L + 1) M') := by
  obtain ⟨hD, hd, -⟩ := hT
  intro r; induction r with
  | zero =>
    intro fuel d M e hf hF hV
    obtain ⟨f, rfl⟩ : ∃ f, fuel = f + 1 := ⟨fuel - 1, by omega⟩; rw [fix_s]; unfold k_As_reckonDefs_2
    refine ok_t (by rw [w32_eq (by omega) (by omega), w32_eq (by omega) (by omega)]; omega) (ok_ret ?_)
    rw [← show d = L + 1 by omega]; exact hV
  | succ r ih =>
    intro fuel d M e hf hF hV
    obtain ⟨e1, e2, x1, x2, x5, x6, x9, x10⟩ := hd d (by omega)
    have frK2 : ∀ {M' : Mem}, Fr [35, 36, 37, 38] [(32, 8)] M0 M' → ∀ c, 39 ≤ c → M' c = M0 c := fun {M'} h c hc => h.c c (by simp only [List.mem_cons, List.not_mem_nil, or_false]; omega) (fun q hq => by simp only [List.mem_cons, List.not_mem_nil, or_false] at hq; subst hq; show 32 ≠ c; omega)
    obtain ⟨f, rfl⟩ : ∃ f, fuel = f + 1 := ⟨fuel - 1, by omega⟩
    have xd : ix (d : Int) = d := ix_n (by omega)
    have key : ∀ R2 : Int → Int → Mem → Res, (∀ M' : Mem, Fr [35, 36, 37, 38] [(32, 8)] M0 M' → VlC F V (d + 1) M' → Ok (R2 (L : Int) ((d + 1 : Nat) : Int) M') (fun _ M' => VlC F V (L + 1) M')) → Ok (k_As_reckonDefs_2 (39 + 4 * t) R2 (L : Int) (d : Int) M) (fun _ M' => VlC F V (L + 1) M') := fun R2 hR => by
      unfold k_As_reckonDefs_2
      refine ok_f (by rw [w32_eq (by omega) (by omega), w32_eq (by omega) (by omega)]; omega) (ok_let ?_)
      have fA : Fr [35, 36, 37, 38] [(32, 8)] M0 (sto M 32 8 0) := hF.trans (fr_stoF (by decide))
      have st : d_Tx_startOf (39 + 4 * t) (d : Int) (sto M 32 8 0) = some ((e1 : Int), sto M 32 8 0) := by
        unfold d_Tx_startOf
        by_cases c0 : d = 0
        · rw [if_pos c0] at x1
          rw [if_pos (by rw [c0]; decide), ← x1]
        · rw [if_neg c0] at x1
          rw [if_neg (by rw [w32_eq (by omega) (by omega)]; omega), chk_t (by rw [w32_eq (by omega) (by omega)]; omega), blet_s, show ix ((d : Int) - 1) = d - 1 by rw [ix_e (by omega) (by omega)]; omega, show 39 + 4 * t + 2 = 41 + 4 * t by omega, frK2 fA _ (by omega), x1]
      refine ok_call_eq st ?_
      have h37 : (sto M 32 8 0) (39 + 4 * t + 2) ((d : Int)).toNat = (e2 : Int) := by
        rw [show 39 + 4 * t + 2 = 41 + 4 * t by omega, frK2 fA _ (by omega), Int.toNat_natCast, x2]
      obtain ⟨M1, y1, y2, y3⟩ := x10 (39 + 4 * t) R2 (L : Int) (d : Int) e2 0 FU (sto M 32 8 0) (by omega) (by omega) (by omega) (by omega) (Nat.le_refl _) x6 h37 (fun i i1 i2 => by rw [show 39 + 4 * t + 1 = 40 + 4 * t by omega, frK2 fA _ (by omega)]) sto_e (by omega) (by unfold FU; omega)
      rw [y1]
      obtain ⟨z1, z2, z3, -⟩ := y3
      have fB : Fr [35, 36, 37, 38] [(32, 8)] M0 M1 := fA.trans (y2.mono (by decide) (by decide))
      have r35 : M1 35 = M 35 := by rw [y2.c 35 (by decide) (by decide), sto_r (by decide)]
      have r36 : M1 36 = M 36 := by rw [y2.c 36 (by decide) (by decide), sto_r (by decide)]
      have r34 : M1 34 = M 34 := by rw [y2.c 34 (by decide) (by decide), sto_r (by decide)]
      have ev1 : vlC (sto M 32 8 0) (F d) = F d V (vls F V d).1 (vls F V d).2 := by
        unfold vlC
        rw [sto_r (by decide), sto_r (by decide), sto_r (by decide), hV.1]
        exact x9 _ _ _ _ _ (fun i hi => hV.2 i hi)
      have key2 : ∀ R19 : Int → Int → Int → Mem → Res, k_As_reckonDefs_19 (39 + 4 * t) R2 R19 (L : Int) (d : Int) (e2 : Int) M1 = R2 (L : Int) ((d + 1 : Nat) : Int) (sto (sto M1 35 d (M1 37 0)) 36 d (M1 38 0 % 2)) := fun R19 => by
        unfold k_As_reckonDefs_19
        refine e_chk (by rw [w32_eq (by omega) (by omega)]; omega) (e_let ?_)
        rw [xd, show 39 + 4 * t + 2 = 41 + 4 * t by omega, frK2 fB _ (by omega), x2]
        refine e_f (Int.lt_irrefl _) (e_let (e_chk (by rw [w32_eq (by omega) (by omega)]; omega) (e_let (e_let (e_chk (by rw [w32_eq (by omega) (by omega)]; omega) (e_let (e_let ?_)))))))
        rw [sto_r (by decide), show ((d + 1 : Nat) : Int) = (d : Int) + 1 by omega]
      obtain ⟨g, eg⟩ : ∃ g, FU + e1 - e2 = g + 1 := ⟨FU + e1 - e2 - 1, by unfold FU; omega⟩
      rw [eg, fix_s]
      rw [key2]
      refine hR _ (fB.trans (Fr.trans (fr_stoA (by decide)) (fr_stoA (by decide)))) ⟨?_, fun i hi => ?_⟩
      · rw [sto_r (by decide), sto_r (by decide), r34]; exact hV.1
      · by_cases ci : i = d
        · subst ci
          rw [sto_r (show 35 ≠ 36 by decide), sto_e, sto_e]
          refine ⟨?_, ?_⟩
          · rw [z2, ev1]
            show _ = (up _ _ _) _
            rw [up_e]
          · rw [show M1 38 0 % 2 % 2 = M1 38 0 % 2 by omega, z3, ev1]
            show _ = (up _ _ _) _
            rw [up_e]
        · rw [sto_r (show 35 ≠ 36 by decide), sto_n ci, sto_n ci, sto_r (show 36 ≠ 35 by decide), r35, r36]
          have := hV.2 i (by omega)
          show _ = (up _ _ _) _ ∧ _ = (up _ _ _) _
          rw [up_n ci, up_n ci]; exact this
    rw [fix_s]
    exact key _ (fun M' h1 h2 => ih f (d + 1) M' (by omega) (by omega) h1 h2)
def TcL : List Nat := [39, 40, 41, 42, 43, 44, 45, 46, 47, 48, 49, 50, 51, 52, 53, 54]
def TcK : List (Nat × Nat) := [(32, 0)]
def AskC (F : Nat → Int → (Nat → Int) → Int) (fr : Nat → Int) (N : Nat) (M : Mem) : Prop := N ≤ 4 ∧ M 32 0 = (N : Int) ∧ (∀ i, i < N → M (39 + 4 * i) 0 = fr i ∧ 0 ≤ fr i ∧ fr i ≤ 519) ∧ ∀ M1, Ag TcL TcK M M1 → ∀ q : Nat, q < 7 → ∀ w : Int, 0 ≤ w ∧ w ≤ 519 → M1 32 2 = fcF fr w N → Ok (d_As_ask (q : Int) M1) (fun v _ => w32 v = F q w (ev (M1 34)))
theorem agC {M M1 : Mem} (h : Ag TcL TcK M M1) {i : Nat} (hi : i < 4) : M1 (39 + 4 * i) = M (39 + 4 * i) ∧ M1 (40 + 4 * i) = M (40 + 4 * i) ∧ M1 (41 + 4 * i) = M (41 + 4 * i) ∧ M1 (42 + 4 * i) = M (42 + 4 * i) := by
  rcases (show i = 0 ∨ i = 1 ∨ i = 2 ∨ i = 3 by omega) with e | e | e | e <;> subst e
  · exact ⟨h.c 39 (by decide), h.c 40 (by decide), h.c 41 (by decide), h.c 42 (by decide)⟩
  · exact ⟨h.c 43 (by decide), h.c 44 (by decide), h.c 45 (by decide), h.c 46 (by decide)⟩
  · exact ⟨h.c 47 (by decide), h.c 48 (by decide), h.c 49 (by decide), h.c 50 (by decide)⟩
  · exact ⟨h.c 51 (by decide), h.c 52 (by decide), h.c 53 (by decide), h.c 54 (by decide)⟩
theorem begin_c {F : Nat → Int → (Nat → Int) → Int} {fr : Nat → Int} {N : Nat} {M0 M1 : Mem} (w : Int) {w' : Int} (h : AskC F fr N M0) (hg : Ag TcL TcK M0 M1) (hw : 0 ≤ w ∧ w ≤ 519) (e2 : w' = w) : d_As_begin w' M1 = some (0, sto (zf M1 34 0 11 0) 32 2 (fcF fr w N)) := by
  subst e2
  obtain ⟨h1, h2, h3, -⟩ := h
  have g2 := hg.f 32 0 (by decide)
  rw [s_begin (by rw [g2, h2]; omega) hw (fun i hi => ?_), g2, h2, Int.toNat_natCast]
  · rw [fcF_c (fr' := fr) _ (fun i hi => ?_)]
    rw [(agC hg (by omega)).1]; exact (h3 i (by omega)).1
  · rw [g2, h2] at hi
    rw [(agC hg (by omega)).1, (h3 i (by omega)).1]; exact (h3 i (by omega)).2
theorem ask_c {F : Nat → Int → (Nat → Int) → Int} {fr : Nat → Int} {N : Nat} {M0 M1 : Mem} (q : Nat) (w : Int) (E : Nat → Int) {q' : Int} (h : AskC F fr N M0) (hg : Ag TcL TcK M0 M1) (hq : q < 7) (hw : 0 ≤ w ∧ w ≤ 519) (e1 : q' = (q : Int)) (e2 : M1 32 2 = fcF fr w N) (e4 : ev (M1 34) = E) : Ok (d_As_ask q' M1) (fun v M2 => w32 v = F q w E ∧ Fr [35, 36, 37, 38] [(32, 8)] M1 M2) := by
  subst e1 e4
  exact ok_fr (h.2.2.2 M1 hg q hq _ hw e2) (fun r hr => w_As_ask hr)
theorem agc_of {M M1 : Mem} (h : ∀ c, c ≠ 34 → c ≠ 32 → M1 c = M c) (h0 : M1 32 0 = M 32 0) : Ag TcL TcK M M1 := by
  refine ⟨fun c hc => h c ?_ ?_, fun q hq => ?_⟩
  · simp only [TcL, List.mem_cons, List.not_mem_nil, or_false] at hc; omega
  · simp only [TcL, List.mem_cons, List.not_mem_nil, or_false] at hc; omega
  · simp only [TcK, List.mem_cons, List.not_mem_nil, or_false] at hq
    subst hq; exact h0
theorem askC_of {N : Nat} {G : Nat → Nat → Fnn} {Ds : Nat → Nat} {Nm : Nat → Nat → Int} {dq : Nat → Nat → Int} {fr : Nat → Int} {M : Mem} (hdq : ∀ i q, dq i q = ndF (Nm i) (asC q) (Ds i) 0) (hN : N ≤ 4) (h32 : M 32 0 = (N : Int)) (hfr : ∀ i, i < N → M (39 + 4 * i) 0 = fr i ∧ 0 ≤ fr i ∧ fr i ≤ 519) (hT : ∀ i, i < N → TxC i (Ds i) (Nm i) (G i) M) : AskC (afn G dq fr N) fr N M := by
  refine ⟨hN, h32, hfr, fun M1 ag q hq w hw h2 => ?_⟩
  have fb := fcF_r (fr := fr) (w := w) N
  have hT1 : ∀ i, i < N → TxC i (Ds i) (Nm i) (G i) M1 := fun i hi => by
    obtain ⟨-, g1, g2, g3⟩ := agC ag (show i < 4 by omega)
    exact (hT i hi).on g1 g2 g3
  obtain ⟨s0, -, -⟩ := s_sti hq
  obtain ⟨-, -, -, b4, b5⟩ := q_lh (q := q)
  have xq : ix (q : Int) = q := ix_n (by omega)
  have wo : w64 (qwo q) = qwo q := w64_eq (by omega) (by omega)
  have wo2 : w32 (qwo q) = qwo q := w32_eq (by omega) (by omega)
  unfold d_As_ask
  refine ok_chk (by rw [w32_eq (by omega) (by omega)]; omega) (ok_let (ok_let ?_))
  rw [xq, s0, wo2, h2]
  refine ok_let ?_
  unfold afn
  by_cases c0 : fcF fr w N < 0
  · rw [if_pos c0]
    refine ok_t (by rw [w32_eq (by omega) (by omega)]; omega) ?_
    unfold k_As_ask_33
    refine ok_t (by decide) ?_
    have := s_ask78 (q := q) (z := qwo q) (M := M1) hq
    rw [wo] at this; exact this
  · rw [if_neg c0]
    obtain ⟨t, et⟩ : ∃ t : Nat, fcF fr w N = (t : Int) := ⟨(fcF fr w N).toNat, by omega⟩
    rw [et, Int.toNat_natCast]
    have ht : t < N := by omega
    have xt : ix (t : Int) = t := ix_n (by omega)
    have hTt := hT1 t ht
    have hTt' := hTt
    obtain ⟨hD, -, h42⟩ := hTt'
    have nb := ndF_b (nm := Nm t) (x := asC q) (Ds t) 0
    rw [← hdq t q] at nb
    refine ok_f (by rw [w32_eq (by omega) (by omega)]; omega) (ok_let (ok_chk (by rw [w32_eq (by omega) (by omega)]; omega) (ok_chk (by rw [w32_eq (by omega) (by omega)]; omega) ?_)))
    rw [xt, show 39 + 4 * t + 3 = 42 + 4 * t by omega, h42 q hq, ← hdq t q]
    refine ok_let ?_
    unfold k_As_ask_33
    by_cases cd : dq t q = -1
    · rw [cd, if_pos (show (-1 : Int) < 0 by decide)]
      refine ok_t (by decide) ?_
      have := s_ask78 (q := q) (z := qwo q) (M := M1) hq
      rw [wo] at this; exact this
    · obtain ⟨d, ed⟩ : ∃ d : Nat, dq t q = (d : Int) := ⟨(dq t q).toNat, by omega⟩
      rw [ed, Int.toNat_natCast, if_neg (show ¬ (d : Int) < 0 by omega), h2, et]
      have xd : ix (d : Int) = d := ix_n (by omega)
      refine ok_f (by rw [w32_eq (by omega) (by omega)]; omega) (ok_let (ok_chk (by rw [w32_eq (by omega) (by omega)]; omega) ?_))
      rw [xt]
      refine ok_call (l_reckC (V := ev (M1 34)) (show t < 4 by omega) hTt (show d < Ds t by omega) (d + 1) FU 0 M1 (by omega) (by unfold FU; omega) Fr.rfl' ⟨rfl, fun i hi => by omega⟩) (fun _ M5 hV => ?_)
      obtain ⟨-, hV⟩ := hV
      obtain ⟨v1, v2⟩ := hV d (by omega)
      refine ok_chk (by rw [w32_eq (by omega) (by omega)]; omega) ?_
      rw [xd, v2]
      refine ok_let ?_
      have vb : M5 36 d % 2 = 0 ∨ M5 36 d % 2 = 1 := by omega
      rw [v2] at vb
      unfold k_As_ask_77
      by_cases cz : (vls (G t) (ev (M1 34)) (d + 1)).2 d = 0
      · rw [if_pos cz]
        refine ok_t (by rw [cz]; decide) (ok_chk (by rw [w32_eq (by omega) (by omega)]; omega) (ok_let ?_))
        have := s_ask78 (q := q) (z := M5 35 d) (M := M5) hq
        rw [v1] at this; exact this
      · rw [if_neg cz]
        refine ok_f (by rw [w32_eq (by omega) (by omega)]; exact cz) ?_
        have := s_ask78 (q := q) (z := qwo q) (M := M5) hq
        rw [wo] at this; exact this
theorem s_rankOfC {F : Nat → Int → (Nat → Int) → Int} {fr : Nat → Int} {N : Nat} {M0 M : Mem} (hA : AskC F fr N M0) (hg : Ag TcL TcK M0 M) {g : Nat} (h1 : g < 100) (h2 : 0 ≤ M 27 g ∧ M 27 g < 120) (h3 : 0 ≤ M 25 (M 27 g).toNat ∧ M 25 (M 27 g).toNat ≤ 519) (h4 : 0 ≤ M 29 g ∧ M 29 g ≤ 5) (h5 : 0 ≤ M 28 g ∧ M 28 g ≤ 5) (h6 : 0 ≤ M 22 (M 27 g).toNat - M 23 (M 27 g).toNat ∧ M 22 (M 27 g).toNat - M 23 (M 27 g).toNat ≤ 10000) (h7 : 0 ≤ M 17 (M 27 g).toNat ∧ M 17 (M 27 g).toNat < 20) (h8 : 0 ≤ M 6 (M 17 (M 27 g).toNat).toNat ∧ M 6 (M 17 (M 27 g).toNat).toNat ≤ 5) :
    Ok (d_PP_rankOf (g : Int) M) (fun v M' => w32 v = F 0 (M 25 (M 27 g).toNat) (rkC M g) ∧ Fr [34, 35, 36, 37, 38] [(32, 2), (32, 8)] M M') := by
  refine ok_fr ?_ (fun r hr => w_PP_rankOf hr)
  obtain ⟨k, hk⟩ : ∃ k : Nat, M 27 g = (k : Int) := ⟨(M 27 g).toNat, by omega⟩
  unfold rkC
  simp only [hk, Int.toNat_natCast] at h2 h3 h6 h7 h8 ⊢
  have hk2 : k < 120 := by omega
  unfold d_PP_rankOf
  repeat (first | with_reducible refine ok_let ?_ | with_reducible refine ok_cs ?_ | with_reducible refine ok_clet ?_ | with_reducible refine ok_cc ?_ | (with_reducible refine ok_chk ?_ ?_; · (first | omega | ((try simp (disch := omega) only [w32_eq, w64_eq, ix_n, ix_e, sto_n, sto_e, sto_r, zf_r, Int.toNat_natCast, true_or, or_true, eq_self, hk]) <;> (first | omega | decide)))) | (with_reducible refine ok_cchk ?_ ?_; · (first | omega | ((try simp (disch := omega) only [w32_eq, w64_eq, ix_n, ix_e, sto_n, sto_e, sto_r, zf_r, Int.toNat_natCast, true_or, or_true, eq_self, hk]) <;> (first | omega | decide)))) | (with_reducible refine ok_t ?_ ?_; · (first | omega | ((try simp (disch := omega) only [w32_eq, w64_eq, ix_n, ix_e, sto_n, sto_e, sto_r, zf_r, Int.toNat_natCast, true_or, or_true, eq_self, hk]) <;> (first | omega | decide)))) | (with_reducible refine ok_f ?_ ?_; · (first | omega | ((try simp (disch := omega) only [w32_eq, w64_eq, ix_n, ix_e, sto_n, sto_e, sto_r, zf_r, Int.toNat_natCast, true_or, or_true, eq_self, hk]) <;> (first | omega | decide)))) | (with_reducible refine ok_ct ?_ ?_; · (first | omega | ((try simp (disch := omega) only [w32_eq, w64_eq, ix_n, ix_e, sto_n, sto_e, sto_r, zf_r, Int.toNat_natCast, true_or, or_true, eq_self, hk]) <;> (first | omega | decide)))) | (with_reducible refine ok_cf ?_ ?_; · (first | omega | ((try simp (disch := omega) only [w32_eq, w64_eq, ix_n, ix_e, sto_n, sto_e, sto_r, zf_r, Int.toNat_natCast, true_or, or_true, eq_self, hk]) <;> (first | omega | decide)))))
  refine ok_call_eq (begin_c (M 25 k) hA hg h3 (by first | omega | ((try simp (disch := omega) only [w32_eq, w64_eq, ix_n, ix_e, sto_n, sto_e, sto_r, zf_r, Int.toNat_natCast, true_or, or_true, eq_self, hk]) <;> (first | omega | decide)))) ?_
  refine ok_call_eq (s_tellWeek (w := M (25) (ix (M 27 (ix g)))) (by first | omega | ((try simp (disch := omega) only [w32_eq, w64_eq, ix_n, ix_e, sto_n, sto_e, sto_r, zf_r, Int.toNat_natCast, true_or, or_true, eq_self, hk]) <;> (first | omega | decide)))) ?_
  repeat (first | with_reducible refine ok_let ?_ | with_reducible refine ok_cs ?_ | with_reducible refine ok_clet ?_ | with_reducible refine ok_cc ?_ | (with_reducible refine ok_chk ?_ ?_; · (first | omega | ((try simp (disch := omega) only [w32_eq, w64_eq, ix_n, ix_e, sto_n, sto_e, sto_r, zf_r, Int.toNat_natCast, true_or, or_true, eq_self, hk]) <;> (first | omega | decide)))) | (with_reducible refine ok_cchk ?_ ?_; · (first | omega | ((try simp (disch := omega) only [w32_eq, w64_eq, ix_n, ix_e, sto_n, sto_e, sto_r, zf_r, Int.toNat_natCast, true_or, or_true, eq_self, hk]) <;> (first | omega | decide)))) | (with_reducible refine ok_t ?_ ?_; · (first | omega | ((try simp (disch := omega) only [w32_eq, w64_eq, ix_n, ix_e, sto_n, sto_e, sto_r, zf_r, Int.toNat_natCast, true_or, or_true, eq_self, hk]) <;> (first | omega | decide)))) | (with_reducible refine ok_f ?_ ?_; · (first | omega | ((try simp (disch := omega) only [w32_eq, w64_eq, ix_n, ix_e, sto_n, sto_e, sto_r, zf_r, Int.toNat_natCast, true_or, or_true, eq_self, hk]) <;> (first | omega | decide)))) | (with_reducible refine ok_ct ?_ ?_; · (first | omega | ((try simp (disch := omega) only [w32_eq, w64_eq, ix_n, ix_e, sto_n, sto_e, sto_r, zf_r, Int.toNat_natCast, true_or, or_true, eq_self, hk]) <;> (first | omega | decide)))) | (with_reducible refine ok_cf ?_ ?_; · (first | omega | ((try simp (disch := omega) only [w32_eq, w64_eq, ix_n, ix_e, sto_n, sto_e, sto_r, zf_r, Int.toNat_natCast, true_or, or_true, eq_self, hk]) <;> (first | omega | decide)))))
  refine ok_call_eq (s_tell (by decide)) ?_
  repeat (first | with_reducible refine ok_let ?_ | with_reducible refine ok_cs ?_ | with_reducible refine ok_clet ?_ | with_reducible refine ok_cc ?_ | (with_reducible refine ok_chk ?_ ?_; · (first | omega | ((try simp (disch := omega) only [w32_eq, w64_eq, ix_n, ix_e, sto_n, sto_e, sto_r, zf_r, Int.toNat_natCast, true_or, or_true, eq_self, hk]) <;> (first | omega | decide)))) | (with_reducible refine ok_cchk ?_ ?_; · (first | omega | ((try simp (disch := omega) only [w32_eq, w64_eq, ix_n, ix_e, sto_n, sto_e, sto_r, zf_r, Int.toNat_natCast, true_or, or_true, eq_self, hk]) <;> (first | omega | decide)))) | (with_reducible refine ok_t ?_ ?_; · (first | omega | ((try simp (disch := omega) only [w32_eq, w64_eq, ix_n, ix_e, sto_n, sto_e, sto_r, zf_r, Int.toNat_natCast, true_or, or_true, eq_self, hk]) <;> (first | omega | decide)))) | (with_reducible refine ok_f ?_ ?_; · (first | omega | ((try simp (disch := omega) only [w32_eq, w64_eq, ix_n, ix_e, sto_n, sto_e, sto_r, zf_r, Int.toNat_natCast, true_or, or_true, eq_self, hk]) <;> (first | omega | decide)))) | (with_reducible refine ok_ct ?_ ?_; · (first | omega | ((try simp (disch := omega) only [w32_eq, w64_eq, ix_n, ix_e, sto_n, sto_e, sto_r, zf_r, Int.toNat_natCast, true_or, or_true, eq_self, hk]) <;> (first | omega | decide)))) | (with_reducible refine ok_cf ?_ ?_; · (first | omega | ((try simp (disch := omega) only [w32_eq, w64_eq, ix_n, ix_e, sto_n, sto_e, sto_r, zf_r, Int.toNat_natCast, true_or, or_true, eq_self, hk]) <;> (first | omega | decide)))))
  refine ok_call_eq (s_tell (by decide)) ?_
  have ex : ix (g : Int) = g := ix_n (by omega)
  rw [ex, hk]
  refine ok_call_eq (s_netOf hk2) ?_
  refine ok_call_eq (s_tell (by decide)) ?_
  repeat (first | with_reducible refine ok_let ?_ | with_reducible refine ok_cs ?_ | with_reducible refine ok_clet ?_ | with_reducible refine ok_cc ?_ | (with_reducible refine ok_chk ?_ ?_; · (first | omega | ((try simp (disch := omega) only [w32_eq, w64_eq, ix_n, ix_e, sto_n, sto_e, sto_r, zf_r, Int.toNat_natCast, true_or, or_true, eq_self, hk]) <;> (first | omega | decide)))) | (with_reducible refine ok_cchk ?_ ?_; · (first | omega | ((try simp (disch := omega) only [w32_eq, w64_eq, ix_n, ix_e, sto_n, sto_e, sto_r, zf_r, Int.toNat_natCast, true_or, or_true, eq_self, hk]) <;> (first | omega | decide)))) | (with_reducible refine ok_t ?_ ?_; · (first | omega | ((try simp (disch := omega) only [w32_eq, w64_eq, ix_n, ix_e, sto_n, sto_e, sto_r, zf_r, Int.toNat_natCast, true_or, or_true, eq_self, hk]) <;> (first | omega | decide)))) | (with_reducible refine ok_f ?_ ?_; · (first | omega | ((try simp (disch := omega) only [w32_eq, w64_eq, ix_n, ix_e, sto_n, sto_e, sto_r, zf_r, Int.toNat_natCast, true_or, or_true, eq_self, hk]) <;> (first | omega | decide)))) | (with_reducible refine ok_ct ?_ ?_; · (first | omega | ((try simp (disch := omega) only [w32_eq, w64_eq, ix_n, ix_e, sto_n, sto_e, sto_r, zf_r, Int.toNat_natCast, true_or, or_true, eq_self, hk]) <;> (first | omega | decide)))) | (with_reducible refine ok_cf ?_ ?_; · (first | omega | ((try simp (disch := omega) only [w32_eq, w64_eq, ix_n, ix_e, sto_n, sto_e, sto_r, zf_r, Int.toNat_natCast, true_or, or_true, eq_self, hk]) <;> (first | omega | decide)))))
  refine ok_call_eq (s_tell (by decide)) ?_
  have e1 : w32 (M 29 g) = M 29 g := w32_eq (by omega) (by omega)
  have e2 : w32 (M 28 g) = M 28 g := w32_eq (by omega) (by omega)
  have e3 : w32 (M 22 k - M 23 k) = M 22 k - M 23 k := w32_eq (by omega) (by omega)
  have e4 : w32 (M 6 (M 17 k).toNat) = M 6 (M 17 k).toNat := w32_eq (by omega) (by omega)
  have e5 : ix (k : Int) = k := ix_n (by omega)
  have e6 : ix (M 17 k) = (M 17 k).toNat := ix_e (by omega) (by omega)
  have g1 := e1; have g2 := e2
  refine ok_call (ask_c 0 (M 25 k) _ hA (Ag.trans hg (agc_of (fun c h h' => ?_) ?_)) (by decide) h3 rfl ?_ rfl) (fun v M' h => ok_ret ?_)
  · simp (disch := assumption) only [sto_r, zf_r]
  · simp (disch := decide) only [sto_r, sto_n, zf_r]
  · simp (disch := decide) only [sto_r, sto_e]
  · rw [h.1]
    have z : ∀ c : Nat, c ≠ 34 → zf M 34 0 11 0 c = M c := fun c h => zf_r h
    simp (disch := decide) only [sto_up, ev_up, sto_r, ev_zf, z, e1, e2, e3, e4, e5, e6]
    rw [show Int.toNat 0 = 0 from rfl, show Int.toNat 1 = 1 from rfl, show Int.toNat 4 = 4 from rfl, show Int.toNat 7 = 7 from rfl]
    rw [w64_eq (x := M 29 g) (by omega) (by omega), w64_eq (x := M 28 g) (by omega) (by omega), w64_eq (x := M 22 k - M 23 k) (by omega) (by omega), w64_eq (x := M 6 (M 17 k).toNat) (by omega) (by omega), w64_eq (x := M 25 k) (by omega) (by omega), w64_eq (x := M 25 k / 52) (by omega) (by omega)]
