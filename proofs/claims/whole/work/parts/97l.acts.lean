/-! acts: both take up the same text -/
def IvA (F : Nat → Int → (Nat → Int) → Int) (M : Mem) : Prop := ∃ (N : Nat) (G : Nat → Nat → Fnn) (Ds : Nat → Nat) (Nm : Nat → Nat → Int) (dq : Nat → Nat → Int), (∀ i q, dq i q = ndF (Nm i) (asC q) (Ds i) 0) ∧ N ≤ 4 ∧ M 111 56 = (N : Int) ∧ M 32 0 = (N : Int) ∧ (∀ i, i < N → M (39 + 4 * i) 0 = M 147 i ∧ 0 ≤ M 147 i ∧ M 147 i ≤ 519) ∧ (∀ i, i < N → TxI i (Ds i) (Nm i) (G i) M) ∧ F = afn G dq (M 147) N
theorem IvA.ask {F : Nat → Int → (Nat → Int) → Int} {M : Mem} (h : IvA F M) : AskI F M := by
  obtain ⟨N, G, Ds, Nm, dq, h1, h2, h3, h4, h5, h6, rfl⟩ := h
  exact askI_of h1 h2 h3 h4 h5 h6
theorem adM_r {M : Mem} {T c : Nat} {a2 : Int} (h1 : c < 39 + 4 * T ∨ 42 + 4 * T < c) (h2 : c ≠ 32) : adM M T a2 c = M c := by
  unfold adM
  rw [sto_r h2, sto_r (by omega), cpy_r (by omega), cpy_r (by omega), cpy_r (by omega), sto_r (by omega), sto_r (by omega)]
theorem adM_n {M : Mem} {T j : Nat} {a2 : Int} (hT : T < 4) : adM M T a2 (39 + 4 * T) 0 = a2 ∧ (j < 500 → adM M T a2 (40 + 4 * T) j = M 58 j) ∧ (j < 10 → adM M T a2 (41 + 4 * T) j = M 59 j) ∧ (j < 7 → adM M T a2 (42 + 4 * T) j = M 60 j) ∧ adM M T a2 32 0 = (T : Int) + 1 := by
  unfold adM
  refine ⟨?_, fun h => ?_, fun h => ?_, fun h => ?_, sto_e⟩
  · rw [sto_r (by omega), sto_e]
  · rw [sto_r (by omega), sto_r (by omega), cpy_r (by omega), cpy_r (by omega), show 40 + 4 * T = 39 + 4 * T + 1 by omega, cpy_c, if_pos (by omega), sto_r (by omega), sto_r (by omega)]
    congr 1; omega
  · rw [sto_r (by omega), sto_r (by omega), cpy_r (by omega), show 41 + 4 * T = 39 + 4 * T + 2 by omega, cpy_c, if_pos (by omega), cpy_r (by omega), sto_r (by omega), sto_r (by omega)]
    congr 1; omega
  · rw [sto_r (by omega), sto_r (by omega), show 42 + 4 * T = 39 + 4 * T + 3 by omega, cpy_c, if_pos (by omega), cpy_r (by omega), cpy_r (by omega), sto_r (by omega), sto_r (by omega)]
    congr 1; omega
theorem di_c {D s m T : Nat} {nm : Nat → Int} {F : Nat → Fnn} {Me Re M9 : Mem} (hD : D ≤ 10) (hs : s ≤ 500) (di : DI D nm s m F Me Re) (e1 : ∀ j, j < 500 → M9 (40 + 4 * T) j = Me 58 j) (e2 : ∀ j, j < 10 → M9 (41 + 4 * T) j = Me 59 j) (e3 : ∀ j, j < 7 → M9 (42 + 4 * T) j = Me 60 j) : TxC T D nm F M9 := by
  obtain ⟨d1, d2, d3, d4, d5⟩ := di
  refine ⟨hD, fun j hj => ?_, fun q hq => by rw [e3 q hq]; exact d4 q hq⟩
  obtain ⟨a1, a2, b1, b2, x1, x2, x3, x4, x5, x6, x7, x8, x9, x10, x11⟩ := d3 j hj
  refine ⟨a1, a2, ?_, by rw [e2 j (by omega)]; exact x2, x5, by omega, x9, x10.c (fun i i1 i2 => e1 i (by omega))⟩
  unfold stE at x1
  by_cases c : j = 0
  · rw [if_pos c]; rw [if_pos c] at x1; exact x1
  · rw [if_neg c]; rw [if_neg c] at x1; rw [e2 (j - 1) (by omega)]; exact x1
theorem di_r {b : Nat → Int} {n a D s m T : Nat} {nm : Nat → Int} {F : Nat → Fnn} {Me Re M9 : Mem} (g : Gd b n D nm 0 s m a Me Re) (di : DI D nm s m F Me Re) (hC : TxC T D nm F M9) (e0 : M9 148 T = (D : Int)) (e1 : ∀ j, j < m → M9 150 (1100 * T + j) = Re 152 j) (e2 : ∀ j, j ≤ D → M9 149 (11 * T + j) = Re 151 j) (e3 : ∀ j, j < D → M9 153 (10 * T + j) = Re 154 j) : TxI T D nm F M9 := by
  obtain ⟨d1, d2, d3, d4, d5⟩ := di
  obtain ⟨c1, c2, c3⟩ := hC
  obtain ⟨⟨n5, -, -, -, c5, -, -, -, c9⟩, ⟨h1, h2, h3, h4, h5, h6, h7⟩, -⟩ := g
  refine ⟨c1, e0, fun j hj => ?_, c3, fun j hj => ⟨by rw [e3 j hj]; exact c9 j hj, (c5.2 j hj).1, (c5.2 j hj).2.1⟩, d5⟩
  obtain ⟨a1, a2, b1, b2, x1, x2, x3, x4, x5, x6, x7, x8, x9, x10, x11⟩ := d3 j hj
  obtain ⟨y1, y2, z1, z2, z3, z4, z5, z6⟩ := c2 j hj
  exact ⟨y1, y2, b1, b2, z1, z2, by rw [e2 j (by omega)]; exact x3, by rw [Nat.add_assoc, e2 (j + 1) (by omega)]; exact x4, z3, z4, x7, by omega, z5, z6, x11.c (fun i i1 i2 => e1 i (by omega))⟩
/-- the ranks, after the text is taken up -/
theorem c_tail {b : Nat → Int} {n a D s m T : Nat} {nm : Nat → Int} {Fd : Nat → Fnn} {F : Nat → Int → (Nat → Int) → Int} {G : Nat → Nat → Fnn} {Ds : Nat → Nat} {Nm : Nat → Nat → Int} {dq : Nat → Nat → Int} {M Me Re : Mem} {a2 : Int} (hdq : ∀ i q, dq i q = ndF (Nm i) (asC q) (Ds i) 0) (hT : T < 4) (h32 : M 32 0 = (T : Int)) (hfr : ∀ i, i < T → M (39 + 4 * i) 0 = M 147 i ∧ 0 ≤ M 147 i ∧ M 147 i ≤ 519) (hTx : ∀ i, i < T → TxC i (Ds i) (Nm i) (G i) M) (ha2 : 0 ≤ a2 ∧ a2 ≤ 519) (hG : IvG F M) (hE : IvE M) (hP : IvP M)
    (hFr : Fr [57, 58, 59, 60, 61] [(0, 0), (55, 1), (55, 2), (55, 3), (55, 6), (55, 7), (55, 8), (55, 9), (55, 10), (55, 11)] M (sto Me 55 1 0)) (g : Gd b n D nm 0 s m a Me Re) (di : DI D nm s m Fd Me Re) :
    d_As_adopt 57 a2 (sto Me 55 1 0) = some (0, adM (sto Me 55 1 0) T a2) ∧ (∀ i, i < T + 1 → TxC i (if i = T then D else Ds i) (if i = T then nm else Nm i) (if i = T then Fd else G i) (adM (sto Me 55 1 0) T a2)) ∧ Ok (d_PP_rankAll (adM (sto Me 55 1 0) T a2)) (fun _ M' => Fr [30, 34, 35, 36, 37, 38] [(32, 2), (32, 8)] (adM (sto Me 55 1 0) T a2) M' ∧ ∀ k : Nat, (k : Int) < M 111 8 → w32 (M' 30 k) = afn (fun i => if i = T then Fd else G i) (fun i q => if i = T then ndF nm (asC q) D 0 else dq i q) (fun i => if i = T then a2 else M 147 i) (T + 1) 0 (M 128 (M 130 k).toNat) (rkE M k)) := by
  have g' := g
  obtain ⟨⟨n5, -, -, -, c5, -⟩, ⟨h1, h2, h3, h4, h5, -⟩, -⟩ := g'
  have r58 : ∀ c, c ≠ 55 → (sto Me 55 1 0) c = Me c := fun c hc => sto_r hc
  have m32 : (sto Me 55 1 0) 32 0 = (T : Int) := by rw [hFr.f 32 0 (by decide) (by decide)]; exact h32
  have keep : ∀ c, (39 ≤ c ∧ c ≤ 54) → (sto Me 55 1 0) c = M c := fun c hc => hFr.c c (by simp only [List.mem_cons, List.not_mem_nil, or_false]; omega) (fun q hq => by
    simp only [List.mem_cons, List.not_mem_nil, or_false] at hq
    rcases hq with e | e | e | e | e | e | e | e | e | e <;> subst e <;> (first | (show 0 ≠ c; omega) | (show 55 ≠ c; omega)))
  have tx : ∀ i, i < T + 1 → TxC i (if i = T then D else Ds i) (if i = T then nm else Nm i) (if i = T then Fd else G i) (adM (sto Me 55 1 0) T a2) := fun i hi => by
    by_cases c : i = T
    · subst c
      rw [if_pos rfl, if_pos rfl, if_pos rfl]
      refine di_c c5.1 (by omega) di (fun j hj => ?_) (fun j hj => ?_) (fun j hj => ?_)
      · rw [((adM_n (j := j) hT).2.1) hj, r58 58 (by decide)]
      · rw [((adM_n (j := j) hT).2.2.1) hj, r58 59 (by decide)]
      · rw [((adM_n (j := j) hT).2.2.2.1) hj, r58 60 (by decide)]
    · rw [if_neg c, if_neg c, if_neg c]
      exact (hTx i (by omega)).on (by rw [adM_r (by omega) (by omega), keep _ (by omega)]) (by rw [adM_r (by omega) (by omega), keep _ (by omega)]) (by rw [adM_r (by omega) (by omega), keep _ (by omega)])
  refine ⟨s_adopt hT m32, tx, ?_⟩
  have hA : AskC (afn (fun i => if i = T then Fd else G i) (fun i q => if i = T then ndF nm (asC q) D 0 else dq i q) (fun i => if i = T then a2 else M 147 i) (T + 1)) (fun i => if i = T then a2 else M 147 i) (T + 1) (adM (sto Me 55 1 0) T a2) := by
    refine askC_of (Ds := fun i => if i = T then D else Ds i) (Nm := fun i => if i = T then nm else Nm i) (fun i q => ?_) (by omega) (by rw [(adM_n (j := 0) hT).2.2.2.2]; omega) (fun i hi => ?_) tx
    · by_cases c : i = T
      · rw [if_pos c, if_pos c, if_pos c]
      · rw [if_neg c, if_neg c, if_neg c]; exact hdq i q
    · by_cases c : i = T
      · rw [if_pos c, c, (adM_n (j := 0) hT).1]; exact ⟨rfl, ha2⟩
      · rw [if_neg c, adM_r (by omega) (by omega), keep _ (by omega)]; exact hfr i (by omega)
  have f9 : Fr [39, 40, 41, 42, 43, 44, 45, 46, 47, 48, 49, 50, 51, 52, 53, 54, 57, 58, 59, 60, 61] [(0, 0), (32, 0), (55, 1), (55, 2), (55, 3), (55, 6), (55, 7), (55, 8), (55, 9), (55, 10), (55, 11)] M (adM (sto Me 55 1 0) T a2) := (hFr.mono (by decide) (by decide)).trans ((w_As_adopt (s_adopt hT m32)).mono (by decide) (by decide))
  have hE9 : IvE (adM (sto Me 55 1 0) T a2) := hE.on f9 (by decide) (by decide)
  have hP9 : IvP (adM (sto Me 55 1 0) T a2) := hP.on f9 (by decide) (by decide)
  have hG9 : IvG F (adM (sto Me 55 1 0) T a2) := hG.on f9 (by decide) (by decide)
  obtain ⟨q1, q2, q3⟩ := hG9
  have e8 := f9.f 111 8 (by decide) (by decide)
  have e128 := f9.c 128 (by decide) (by decide)
  have e130 := f9.c 130 (by decide) (by decide)
  have rk : ∀ k, rkE (adM (sto Me 55 1 0) T a2) k = rkE M k := fun k => by
    unfold rkE netS
    rw [f9.c 132 (by decide) (by decide), f9.c 131 (by decide) (by decide), e128, e130, f9.c 126 (by decide) (by decide), f9.c 127 (by decide) (by decide), f9.c 115 (by decide) (by decide), f9.c 121 (by decide) (by decide)]
  refine ok_mono (s_rankAll hA hE9 hP9 (Q := (adM (sto Me 55 1 0) T a2 111 8).toNat) (by omega) (by rw [q2]; omega) (fun k hk => (q3 k (by omega)).1)) (fun _ M' h => ⟨h.1, fun k hk => ?_⟩)
  have := h.2 k (by rw [e8]; omega)
  rw [e128, e130, rk] at this
  exact this
