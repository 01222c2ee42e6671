/-! acts: the sim -/
def PAct (M2 : Mem) : Prop := ∃ F', IvA F' M2 ∧ IvG F' M2 ∧ IvX M2
theorem sim_acts {F : Nat → Int → (Nat → Int) → Int} {M : Mem} {a1 a2 : Int} (i1 : I32 a1) (i2 : I32 a2) (hA : IvA F M) (hX : IvX M) (hG : IvG F M) (hE : IvE M) (hP : IvP M) : Simi (d_PP_acts a1 a2) (d_Mo_acts a1 a2) M PAct := by
  have hA' := hA
  obtain ⟨N, G, Ds, Nm, dq, t1, t2, t3, t4, t5, t6, t7⟩ := hA'
  obtain ⟨x1, x2, x3, x4, x5⟩ := hX
  have pref : ∀ code : Int, PAct (sto (sto (sto M 0 0 code) 111 1 0) 111 0 code) := fun code => by
    have f : Fr [] [(0, 0), (111, 0), (111, 1)] M (sto (sto (sto M 0 0 code) 111 1 0) 111 0 code) := by (repeat (first | with_reducible exact Fr.rfl' | with_reducible assumption | with_reducible refine Fr.trans ?_ (fr_stoA (by decide)) | with_reducible refine Fr.trans ?_ (fr_stoF (by decide)) | with_reducible refine Fr.trans ?_ (fr_zf (by decide))))
    exact ⟨F, hA.ag (f.ag (by decide) (by decide)), hG.on f (by decide) (by decide), (IvX.s0 ⟨x1, x2, x3, x4, x5⟩).s1.s2⟩
  have y44 : ∀ v : Int, (sto M 0 0 v) 111 44 = M 111 44 := fun v => by rw [sto_r (by decide)]
  have y56 : ∀ v : Int, (sto M 0 0 v) 111 56 = M 111 56 := fun v => by rw [sto_r (by decide)]
  by_cases hb : (0 ≤ a1 ∧ a1 ≤ M 55 1) ∧ (0 ≤ a2 ∧ a2 ≤ 519)
  · by_cases hN : N < 4
    · obtain ⟨n, rfl⟩ : ∃ n : Nat, a1 = (n : Int) := ⟨a1.toNat, by omega⟩
      have ecs := c_start (M := M) (n := n) (N := N) (a2 := a2) hb.1.2 (by omega) hb.2 hN t4
      obtain ⟨vc, M5, -, -, ec, -, Me, Re, v0, es, fq, eM5, -⟩ := run_p (M := M) (X := M) (n := n) (N := N) (a2 := a2) (by omega) hN (fun j hj => (x3 j (by omega)).symm) t3
      have fpz := w_Pa_parse ec
      dsimp only at fpz
      have fP : Fr [57, 58, 59, 60, 61] [(0, 0), (55, 1), (55, 2), (55, 3), (55, 6), (55, 7), (55, 8), (55, 9), (55, 10), (55, 11)] M M5 := Fr.trans (fr_stoF (by decide)) (fpz.mono (by decide) (by decide))
      have z00 : M5 0 0 = 0 := by rw [fpz.f 0 0 (by decide) (by decide), sto_e]
      -- the model's run over what the component has left
      have run2 : ∀ M1 : Mem, M1 146 = M 146 → M1 111 44 = M 111 44 → M1 111 56 = M 111 56 → ∃ v2 M2 Me' Re' v', d_Mo_acts (n : Int) a2 M1 = some (v2, M2) ∧ EndS (fun j => w8 (M 56 j)) n Me' Re' ∧ frQ (stQ (sto (sto M1 111 1 0) 111 0 0) n) Re' ∧ M5 = sto Me' 55 1 0 ∧ k_Mo_acts_112 a2 Re' = some (v', M2) ∧ ((0 < w32 (M2 111 48) ∧ v2 = -1) ∨ (¬ 0 < w32 (M2 111 48) ∧ v2 = M2 111 57)) := fun M1 h1 h2 h3 => by
        obtain ⟨vc', M5', v2, M2, ec', er, Me', Re', v', es', fq', eM5', e112⟩ := run_p (M := M) (X := sto (sto M1 111 1 0) 111 0 0) (n := n) (N := N) (a2 := a2) (by omega) hN (fun j hj => by rw [sto_r (by decide), sto_r (by decide), h1]; exact (x3 j (by omega)).symm) (by simp (disch := omega) only [w32_eq, w64_eq, ix_n, ix_e, sto_n, sto_e, sto_r, zf_r, Int.toNat_natCast, h3, t3])
        rw [ec] at ec'
        injection ec' with ec'
        injection ec' with _ ec'
        refine ⟨v2, M2, Me', Re', v', ?_, es', fq', by rw [ec']; exact eM5', e112, ?_⟩
        · rw [r_start (X := M1) (n := n) (N := N) (a2 := a2) (by rw [h2]; omega) (by rw [h2]; omega) hb.2 hN (by rw [h3]; exact t3)]
          exact er
        · obtain ⟨w1, w2, -, h⟩ := bcall_e er
          exact v_91 FU w2 _ h
      rcases es with ⟨D, s, m, a, nm, Fd, g, di⟩ | ⟨m, a, ft⟩
      · have z2 : M5 55 2 = 0 := by
          rw [eM5, sto_n (by decide)]; exact g.2.2.2.2.1
        have hTx : ∀ i, i < N → TxC i (Ds i) (Nm i) (G i) M := fun i hi => (t6 i hi).c
        obtain ⟨q1, q2, vr, M11, q3, q4, -⟩ := c_tail (F := F) t1 hN t4 t5 hTx hb.2 hG hE hP (by rw [← eM5]; exact fP) g di
        rw [← eM5] at q1 q2 q3 q4
        have comp : d_PP_acts (n : Int) a2 M = some (M11 57 1, M11) := by
          rw [ecs]
          exact e_call ec (e_let (e_t (by rw [z2]; decide) (e_call q1 (e_call q3 rfl))))
        have fW := w_PP_acts comp
        dsimp only at fW
        obtain ⟨v2, M2, Me', Re', v', er, es', fq', e5, e112, ev2⟩ := run2 M11 (fW.c 146 (by decide) (by decide)) (fW.f 111 44 (by decide) (by decide)) (fW.f 111 56 (by decide) (by decide))
        have fR := w_Mo_acts er
        dsimp only at fR
        rcases es' with ⟨D', s', m', a', nm', Fd', g', di'⟩ | ⟨m', a', ft'⟩
        · have g0 := g'
          obtain ⟨⟨n5, -, cT, -, c5, c6, -, c8, -⟩, ⟨h1, h2, h3, h4, h5, -⟩, -, -, -, h11, -⟩ := g0
          have e11 := fW.f 111 56 (by decide) (by decide)
          have e56 : Re' 111 56 = (N : Int) := by
            rw [fq'.f 111 56 (by decide) (by decide)]; unfold stQ; simp (disch := omega) only [w32_eq, w64_eq, ix_n, ix_e, sto_n, sto_e, sto_r, zf_r, Int.toNat_natCast, e11, t3]
          have k112 := s_112 (a2 := a2) h11 hN (show m' ≤ 500 by omega) c5.1 e56 c8 h2
          rw [k112] at e112
          injection e112 with e112
          injection e112 with _ eM2
          obtain ⟨p1, p2, vr', M11', p3, p4, p5⟩ := c_tail (F := F) t1 hN t4 t5 hTx hb.2 hG hE hP (by rw [← e5]; exact fP) g' di'
          rw [← e5] at p1 p2 p3 p4
          rw [q3] at p3
          injection p3 with p3
          injection p3 with _ p3
          subst p3
          have u : ∀ c, c < 111 → M2 c = M11 c := fun c hc => fR.c c (by simp only [List.mem_cons, List.not_mem_nil, or_false]; omega) (fun q hq => by
            simp only [List.mem_cons, List.not_mem_nil, or_false] at hq
            rcases hq with e | e | e | e | e | e | e | e | e | e | e | e | e | e | e | e | e <;> subst e <;> (show 111 ≠ c; omega))
          have ad : ∀ c, (39 ≤ c ∧ c < 111) → M11 c = adM M5 N a2 c := fun c hc => q4.c c (by simp only [List.mem_cons, List.not_mem_nil, or_false]; omega) (fun q hq => by
            simp only [List.mem_cons, List.not_mem_nil, or_false] at hq
            rcases hq with e | e <;> subst e <;> (show 32 ≠ c; omega))
          have keep : ∀ c, (39 ≤ c ∧ c ≤ 54) → M5 c = M c := fun c hc => fP.c c (by simp only [List.mem_cons, List.not_mem_nil, or_false]; omega) (fun q hq => by
            simp only [List.mem_cons, List.not_mem_nil, or_false] at hq
            rcases hq with e | e | e | e | e | e | e | e | e | e <;> subst e <;> (first | (show 0 ≠ c; omega) | (show 55 ≠ c; omega)))
          have row : ∀ c, c = 147 ∨ c = 148 ∨ c = 149 ∨ c = 150 ∨ c = 153 → (sto (sto Re' 111 46 0) 111 47 (-1)) c = M c := fun c hc => by
            rw [sto_r (by omega), sto_r (by omega)]
            have e1 : Re' c = (stQ (sto (sto M11 111 1 0) 111 0 0) n) c := by
              rcases hc with e | e | e | e | e <;> subst e <;> exact fq'.c _ (by decide) (by decide)
            rw [e1]
            unfold stQ
            have e2 : M11 c = M c := by
              rcases hc with e | e | e | e | e <;> subst e <;> exact fW.c _ (by decide) (by decide)
            rw [sto_r (by omega), sto_r (by omega), sto_r (by omega), sto_r (by omega), sto_r (by omega), sto_r (by omega), sto_r (by omega), sto_r (by omega), sto_r (by omega), e2]
          obtain ⟨w56, w147, w148, w149, w150, w153⟩ := cpR_x (M := sto (sto Re' 111 46 0) 111 47 (-1)) (T := N) (m := m') (D := D') (a2 := a2)
          rw [eM2] at w56 w147 w148 w149 w150 w153
          rw [row 147 (by decide)] at w147
          rw [row 148 (by decide)] at w148
          rw [row 149 (by decide)] at w149
          rw [row 150 (by decide)] at w150
          rw [row 153 (by decide)] at w153
          have r151 : (sto (sto Re' 111 46 0) 111 47 (-1)) 151 = Re' 151 := by rw [sto_r (by decide), sto_r (by decide)]
          have r152 : (sto (sto Re' 111 46 0) 111 47 (-1)) 152 = Re' 152 := by rw [sto_r (by decide), sto_r (by decide)]
          have r154 : (sto (sto Re' 111 46 0) 111 47 (-1)) 154 = Re' 154 := by rw [sto_r (by decide), sto_r (by decide)]
          rw [r151] at w149
          rw [r152] at w150
          rw [r154] at w153
          have i1 : ∀ j, j ≠ 56 → M2 111 j = (sto (sto Re' 111 46 0) 111 47 (-1)) 111 j := fun j hj => by rw [← eM2]; exact cpR_1 hj
          have k48 : M2 111 48 = 0 := by rw [i1 48 (by decide)]; simp (disch := omega) only [w32_eq, w64_eq, ix_n, ix_e, sto_n, sto_e, sto_r, zf_r, Int.toNat_natCast, h11]
          have k57 : M2 111 57 = (D' : Int) := by rw [i1 57 (by decide)]; simp (disch := omega) only [w32_eq, w64_eq, ix_n, ix_e, sto_n, sto_e, sto_r, zf_r, Int.toNat_natCast, c8]
          have k44 : M2 111 44 = 0 := by
            rw [i1 44 (by decide), sto_n (by decide), sto_n (by decide), fq'.f 111 44 (by decide) (by decide)]; unfold stQ; simp (disch := omega) only [w32_eq, w64_eq, ix_n, ix_e, sto_n, sto_e, sto_r, zf_r, Int.toNat_natCast]
          have k0 : M2 111 0 = 0 := by
            rw [i1 0 (by decide), sto_n (by decide), sto_n (by decide), fq'.f 111 0 (by decide) (by decide)]; unfold stQ; simp (disch := omega) only [w32_eq, w64_eq, ix_n, ix_e, sto_n, sto_e, sto_r, zf_r, Int.toNat_natCast]
          have c57 : M11 57 1 = (D' : Int) := by
            rw [ad 57 (by decide), adM_r (by omega) (by decide), e5, sto_r (by decide)]; exact c6
          have z11 : M11 0 0 = 0 := by
            rw [q4.f 0 0 (by decide) (by decide), adM_r (by omega) (by decide)]; exact z00
          have r55 : ∀ j, M2 55 j = M5 55 j := fun j => by rw [u 55 (by decide), ad 55 (by decide), adM_r (by omega) (by decide)]
          have fM : Fr [30, 34, 35, 36, 37, 38, 39, 40, 41, 42, 43, 44, 45, 46, 47, 48, 49, 50, 51, 52, 53, 54, 57, 58, 59, 60, 61, 147, 148, 149, 150, 151, 152, 153, 154] [(0, 0), (32, 0), (32, 2), (32, 8), (55, 1), (55, 2), (55, 3), (55, 6), (55, 7), (55, 8), (55, 9), (55, 10), (55, 11), (111, 0), (111, 1), (111, 44), (111, 45), (111, 46), (111, 47), (111, 48), (111, 49), (111, 50), (111, 51), (111, 52), (111, 53), (111, 54), (111, 55), (111, 56), (111, 57), (111, 58)] M M2 := Fr.trans (fW.mono (by decide) (by decide)) (fR.mono (by decide) (by decide))
          refine ⟨M11 57 1, M11, v2, M2, comp, er, ?_, by rw [k0, u 0 (by decide), z11], afn (fun i => if i = N then Fd' else G i) (fun i q => if i = N then ndF nm' (asC q) D' 0 else dq i q) (M2 147) (N + 1), ⟨N + 1, fun i => if i = N then Fd' else G i, fun i => if i = N then D' else Ds i, fun i => if i = N then nm' else Nm i, fun i q => if i = N then ndF nm' (asC q) D' 0 else dq i q, fun i q => ?_, by omega, by rw [w56]; omega, ?_, fun i hi => ?_, fun i hi => ?_, rfl⟩, ⟨?_, ?_, fun k hk => ?_⟩, ?_⟩
          · rcases ev2 with ⟨z, -⟩ | ⟨-, z⟩
            · rw [k48] at z; exact absurd z (by decide)
            · rw [z, k57, c57]
          · dsimp only
            by_cases c : i = N
            · rw [if_pos c, if_pos c, if_pos c]
            · rw [if_neg c, if_neg c, if_neg c]; exact t1 i q
          · rw [u 32 (by decide), q4.f 32 0 (by decide) (by decide), (adM_n (j := 0) hN).2.2.2.2]; omega
          · rw [w147]
            by_cases c : i = N
            · rw [if_pos c, u _ (by omega), ad _ (by omega), c, (adM_n (j := 0) hN).1]; exact ⟨rfl, hb.2⟩
            · rw [if_neg c, u _ (by omega), ad _ (by omega), adM_r (by omega) (by omega), keep _ (by omega)]; exact t5 i (by omega)
          · dsimp only
            by_cases c : i = N
            · have pp := p2 i hi
              rw [if_pos c, if_pos c, if_pos c] at pp ⊢
              subst c
              have tc : TxC i D' nm' Fd' M2 := pp.on (by rw [u _ (by omega), ad _ (by omega)]) (by rw [u _ (by omega), ad _ (by omega)]) (by rw [u _ (by omega), ad _ (by omega)])
              refine di_r g' di' tc (by rw [w148, if_pos rfl]) (fun j hj => ?_) (fun j hj => ?_) (fun j hj => ?_)
              · rw [w150, if_pos (by omega), show 1100 * i + j - 1100 * i = j by omega]
              · rw [w149, if_pos (by omega), show 11 * i + j - 11 * i = j by omega]
              · rw [w153, if_pos (by omega), show 10 * i + j - 10 * i = j by omega]
            · rw [if_neg c, if_neg c, if_neg c]
              have c5' := c5.1
              refine (t6 i (by omega)).on (by rw [w148, if_neg c]) ?_ ?_ ?_ (fun j hj => by rw [w149, if_neg (by omega)]) (fun j hj => by rw [w150, if_neg (by omega)]) (fun j hj => by rw [w153, if_neg (by omega)])
              · rw [u _ (by omega), ad _ (by omega), adM_r (by omega) (by omega), keep _ (by omega)]
              · rw [u _ (by omega), ad _ (by omega), adM_r (by omega) (by omega), keep _ (by omega)]
              · rw [u _ (by omega), ad _ (by omega), adM_r (by omega) (by omega), keep _ (by omega)]
          · rw [fM.f 111 8 (by decide) (by decide)]; exact hG.1
          · rw [fM.f 111 8 (by decide) (by decide), fM.f 15 13 (by decide) (by decide)]; exact hG.2.1
          · have e8 := fM.f 111 8 (by decide) (by decide)
            rw [e8] at hk
            have hgk := hG.2.2 k hk
            have rk : rkE M2 k = rkE M k := by
              unfold rkE netS
              rw [fM.c 132 (by decide) (by decide), fM.c 131 (by decide) (by decide), fM.c 128 (by decide) (by decide), fM.c 130 (by decide) (by decide), fM.c 126 (by decide) (by decide), fM.c 127 (by decide) (by decide), fM.c 115 (by decide) (by decide), fM.c 121 (by decide) (by decide)]
            refine ⟨?_, ?_⟩
            · have h := hgk.1
              unfold Gr at h ⊢
              rw [fM.c 27 (by decide) (by decide), fM.c 28 (by decide) (by decide), fM.c 29 (by decide) (by decide), fM.c 31 (by decide) (by decide), fM.c 130 (by decide) (by decide), fM.c 131 (by decide) (by decide), fM.c 132 (by decide) (by decide), fM.c 133 (by decide) (by decide), fM.c 120 (by decide) (by decide), fM.f 111 7 (by decide) (by decide)]
              exact h
            · rw [rk, fM.c 128 (by decide) (by decide), fM.c 130 (by decide) (by decide), u 30 (by decide), p5 k hk]
              refine afn_c (fun i hi => ?_)
              rw [w147]
          · refine ⟨by omega, by rw [k44, r55, e5, sto_e], fun j hj => by omega, ?_, ?_⟩
            · rw [r55, z2, i1 46 (by decide)]; simp (disch := omega) only [w32_eq, w64_eq, ix_n, ix_e, sto_n, sto_e, sto_r, zf_r, Int.toNat_natCast]
            · rw [r55, e5, sto_n (by decide), cT.2.1, i1 47 (by decide)]; simp (disch := omega) only [w32_eq, w64_eq, ix_n, ix_e, sto_n, sto_e, sto_r, zf_r, Int.toNat_natCast]
        · exfalso
          have q := ft'.2.2.2.1
          rw [e5, sto_n (by decide)] at z2
          omega
      · have q4 := ft.2.2.2.1
        have z2 : 1 ≤ M5 55 2 ∧ M5 55 2 ≤ 6 := by
          rw [eM5, sto_n (by decide)]; exact q4
        have comp : d_PP_acts (n : Int) a2 M = some (-1, sto M5 0 0 10) := by
          rw [ecs]
          exact e_call ec (e_let (e_f (by rw [w32_eq (by omega) (by omega)]; omega) rfl))
        have fW := w_PP_acts comp
        dsimp only at fW
        obtain ⟨v2, M2, Me', Re', v', er, es', fq', e5, e112, ev2⟩ := run2 (sto M5 0 0 10) (fW.c 146 (by decide) (by decide)) (fW.f 111 44 (by decide) (by decide)) (fW.f 111 56 (by decide) (by decide))
        have fR := w_Mo_acts er
        dsimp only at fR
        rcases es' with ⟨D', s', m', a', nm', Fd', g', di'⟩ | ⟨m', a', ft'⟩
        · exfalso
          have q := g'.2.2.2.2.1
          rw [e5, sto_n (by decide)] at z2
          omega
        · have q4' := ft'.2.2.2.1
          have q5' := ft'.2.2.2.2.1
          have q6' := ft'.2.2.2.2.2.1
          rw [f_112 (by omega)] at e112
          injection e112 with e112
          injection e112 with _ eM2
          have k44 : M2 111 44 = 0 := by
            rw [← eM2, sto_n (by decide), sto_n (by decide), sto_n (by decide), fq'.f 111 44 (by decide) (by decide)]; unfold stQ; simp (disch := omega) only [w32_eq, w64_eq, ix_n, ix_e, sto_n, sto_e, sto_r, zf_r, Int.toNat_natCast]
          have k0 : M2 111 0 = 10 := by rw [← eM2, sto_e]
          have k48 : M2 111 48 = M5 55 2 := by rw [← eM2, sto_n (by decide), sto_n (by decide), sto_n (by decide), q5', e5, sto_n (by decide)]
          have u0 : M2 0 0 = 10 := by rw [fR.f 0 0 (by decide) (by decide), sto_e]
          have u55 : ∀ j, M2 55 j = M5 55 j := fun j => by rw [fR.c 55 (by decide) (by decide), sto_r (by decide)]
          have row : ∀ c, c = 147 ∨ c = 148 ∨ c = 149 ∨ c = 150 ∨ c = 153 → M2 c = M c := fun c hc => by
            rw [← eM2, sto_r (by omega), sto_r (by omega), sto_r (by omega)]
            have e1 : Re' c = (stQ (sto (sto (sto M5 0 0 10) 111 1 0) 111 0 0) n) c := by
              rcases hc with e | e | e | e | e <;> subst e <;> exact fq'.c _ (by decide) (by decide)
            rw [e1]
            unfold stQ
            have e2 : (sto M5 0 0 10) c = M c := by
              rcases hc with e | e | e | e | e <;> subst e <;> exact fW.c _ (by decide) (by decide)
            rw [sto_r (by omega), sto_r (by omega), sto_r (by omega), sto_r (by omega), sto_r (by omega), sto_r (by omega), sto_r (by omega), sto_r (by omega), sto_r (by omega), e2]
          have ag : Ag TxL TxK M M2 := by
            refine ag_of (fun c hc => ?_) ?_ ?_
            · have hc' := TxL_b hc
              by_cases cc : c < 111
              · have e1 : M2 c = (sto M5 0 0 10) c := fR.c c (by simp only [List.mem_cons, List.not_mem_nil, or_false]; omega) (fun q hq => by
                  simp only [List.mem_cons, List.not_mem_nil, or_false] at hq
                  rcases hq with e | e | e | e | e | e | e | e | e | e | e | e | e | e | e | e | e <;> subst e <;> (show 111 ≠ c; omega))
                rw [e1, sto_r (by omega)]
                exact fP.c c (by simp only [List.mem_cons, List.not_mem_nil, or_false]; omega) (fun q hq => by
                  simp only [List.mem_cons, List.not_mem_nil, or_false] at hq
                  rcases hq with e | e | e | e | e | e | e | e | e | e <;> subst e <;> (first | (show 0 ≠ c; omega) | (show 55 ≠ c; omega)))
              · exact row c (by omega)
            · rw [fR.f 32 0 (by decide) (by decide), sto_r (by decide)]; exact fP.f 32 0 (by decide) (by decide)
            · rw [← eM2, sto_n (by decide), sto_n (by decide), sto_n (by decide), fq'.f 111 56 (by decide) (by decide)]
              unfold stQ
              simp (disch := omega) only [w32_eq, w64_eq, ix_n, ix_e, sto_n, sto_e, sto_r, zf_r, Int.toNat_natCast]
              exact fP.f 111 56 (by decide) (by decide)
          have fM : Fr [57, 58, 59, 60, 61, 147, 148, 149, 150, 151, 152, 153, 154] [(0, 0), (55, 1), (55, 2), (55, 3), (55, 6), (55, 7), (55, 8), (55, 9), (55, 10), (55, 11), (111, 0), (111, 1), (111, 44), (111, 45), (111, 46), (111, 47), (111, 48), (111, 49), (111, 50), (111, 51), (111, 52), (111, 53), (111, 54), (111, 55), (111, 56), (111, 57), (111, 58)] M M2 := Fr.trans (Fr.trans (fP.mono (by decide) (by decide)) (fr_stoF (by decide))) (fR.mono (by decide) (by decide))
          refine ⟨-1, sto M5 0 0 10, v2, M2, comp, er, ?_, by rw [u0, k0], F, hA.ag ag, hG.on fM (by decide) (by decide), ?_⟩
          · rcases ev2 with ⟨-, z⟩ | ⟨z, -⟩
            · rw [z]
            · rw [k48, w32_eq (by omega) (by omega)] at z
              omega
          · refine ⟨by omega, by rw [k44, u55, e5, sto_e], fun j hj => by omega, ?_, ?_⟩
            · rw [u55, ← eM2, sto_n (by decide), sto_n (by decide), sto_e, q5', e5, sto_n (by decide)]
            · rw [u55, ← eM2, sto_n (by decide), sto_e, q6', e5, sto_n (by decide)]
    · have h4 : M 32 0 = 4 := by omega
      exact sim_no (r := -1) (code := 7) (c_no7 i1 i2 (by omega) h4 hb) (r_no7 i1 i2 (by rw [y44]; omega) (by rw [y56]; omega) (by rw [y44, ← x2]; exact hb)) (pref 7)
  · exact sim_no (r := -1) (code := 5) (c_no5 i1 i2 (by omega) t2 t4 hb) (r_no5 i1 i2 (by rw [y44]; omega) (by rw [y44, ← x2]; exact hb)) (pref 5)
