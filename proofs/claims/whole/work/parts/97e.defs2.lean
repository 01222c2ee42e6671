/-! both read the same DEFS: one more -/
/-- one DEF as it is read where there is room for it; and as the class reads it -/
def df_one (M : Mem) : Res := bcall (d_Pa_parseName M) fun v1 M2 => bcall (d_Pa_expect 58 M2) fun v3 M4 => bcall (d_Pa_parseWholeC 1 M4) fun v5 M6 => bcall (d_Pa_expect 59 M6) fun v7 M8 => blet (M8 55 2) fun v9 => if w32 v9 = 0 then (blet (M8 57 1) fun v11 => blet (M8 57 2) fun v12 => chk (0 ≤ w32 v11 ∧ w32 v11 < 10) <| blet (sto M8 59 (ix v11) v12) fun M14 => blet (M14 57 1) fun v15 => blet (sto M14 57 1 (v15 + 1)) fun M16 => some (0, M16)) else (some (0, M8))
def df_cls (M : Mem) : Res := bcall (d_Pa_parseName M) fun v1 M2 => bcall (d_Pa_expect 58 M2) fun v3 M4 => bcall (d_Pa_parseWholeC 1 M4) fun v5 M6 => bcall (d_Pa_expect 59 M6) fun v7 M8 => blet (M8 55 2) fun v9 => if w32 v9 = 0 then (bcall (d_Tx_endDef 57 M8) fun v11 M9 => some (0, M9)) else (some (0, M8))
theorem bcall_cg {d : Res} {k k' : Int → Mem → Res} (h : ∀ v M, k v M = k' v M) : bcall d k = bcall d k' := by
  have e : k = k' := funext fun v => funext fun M => h v M
  rw [e]
theorem df_up {M : Mem} {r : Int × Mem} (h : df_one M = some r) : df_cls M = some r := by
  unfold df_one at h
  obtain ⟨v1, M2, e1, h⟩ := bcall_e h
  obtain ⟨v3, M4, e2, h⟩ := bcall_e h
  obtain ⟨v5, M6, e3, h⟩ := bcall_e h
  obtain ⟨v7, M8, e4, h⟩ := bcall_e h
  unfold df_cls
  rw [e1]; refine e_cs ?_
  rw [e2]; refine e_cs ?_
  rw [e3]; refine e_cs ?_
  rw [e4]; refine e_cs ?_
  rw [blet_s] at h ⊢
  by_cases c : w32 (M8 55 2) = 0
  · rw [if_pos c] at h ⊢
    rw [blet_s, blet_s] at h
    obtain ⟨c2, h⟩ := chk_e h
    unfold d_Tx_endDef
    refine e_clet ?_
    rw [if_pos c2.2]
    refine e_clet (e_clet (e_cchk c2 (e_clet (e_clet (e_clet (e_cs ?_))))))
    exact h
  · rw [if_neg c] at h ⊢; exact h
theorem df_ok2 {M : Mem} {r : Res} {P : Mem → Mem → Prop} (h : Ok2 (df_one M) r P) : Ok2 (df_cls M) r P := by
  obtain ⟨v1, M1, v2, M2, h1, h2, h3⟩ := h
  exact ⟨v1, M1, v2, M2, df_up h1, h2, h3⟩
def DOut (b : Nat → Int) (n a : Nat) (Mc Mr : Mem) : Prop := (∃ (D s m a' : Nat) (nm : Nat → Int) (t : Int) (F : Nat → Fnn), a + 1 ≤ a' ∧ Gd b n D nm t s m a' Mc Mr ∧ DI D nm s m F Mc Mr) ∨ (∃ m a' : Nat, Pd n m a' Mc Mr) ∨ ∃ m a' : Nat, Ft n m a' Mc Mr
theorem ndF_n {nm : Nat → Int} {x : Int} : ∀ r i : Nat, ndF nm x r i = -1 → ∀ j, i ≤ j → j < i + r → nm j ≠ x
  | 0, i, _, j, h1, h2 => by omega
  | r + 1, i, h, j, h1, h2 => by
    have h' : (if nm i = x then (i : Int) else ndF nm x r (i + 1)) = -1 := h
    by_cases c : nm i = x
    · rw [if_pos c] at h'; omega
    · rw [if_neg c] at h'
      by_cases d : j = i
      · rw [d]; exact c
      · exact ndF_n r (i + 1) h' j (by omega) (by omega)
theorem stE_c {M M' : Mem} (h : M' 59 = M 59) (j : Nat) : stE M' j = stE M j := by unfold stE; rw [h]
theorem def_step {b : Nat → Int} {n D : Nat} {nm : Nat → Int} {t : Int} {s m a : Nat} {F : Nat → Fnn} {Mc Mr : Mem} (g : Gd b n D nm t s m a Mc Mr) (di : DI D nm s m F Mc Mr) : Ok2 (df_one Mc) (d_Mo_readDef Mr) (fun Mc' Mr' => (∃ (s' m' a' : Nat) (nm' : Nat → Int) (t' : Int) (F' : Nat → Fnn), a + 1 ≤ a' ∧ Gd b n (D + 1) nm' t' s' m' a' Mc' Mr' ∧ DI (D + 1) nm' s' m' F' Mc' Mr') ∨ (∃ m' a' : Nat, Pd n m' a' Mc' Mr') ∨ ∃ m' a' : Nat, Ft n m' a' Mc' Mr') := by
  have n5 := g.n500
  unfold df_one
  by_cases hok : t = 3 ∧ Mc 55 11 ≠ -1 ∧ fndL VRs (Mc 55 11) 0 = -1 ∧ D < 10 ∧ ndF nm (Mc 55 11) D 0 = -1
  · obtain ⟨t3, cx, cv1, cD, cn⟩ := hok
    subst t3
    have g0 := g
    obtain ⟨c, ⟨h1, h2, h3, h4, h5, h6, h7⟩, h8, h9, h10, h11, h12, e, k1, k2, k3, k4, k5⟩ := g
    have k5 := k5 (by decide)
    obtain ⟨c1, c2, c3, c4, c5, c6, c7, c8, c9⟩ := c
    obtain ⟨w1, w2, w3, w4, w5, w6, w7, w8⟩ := h12.w
    have s1 := w1.mpr (by decide)
    obtain ⟨x1, x2⟩ := w5 s1
    have x3 := x1.x
    have hvr := r_var h12
    rw [if_pos s1, cv1] at hvr
    have hnm := r_named h12 c5 c8 c9
    rw [if_pos s1, cn] at hnm
    have hl : 1 ≤ Mr 111 54 ∧ Mr 111 54 ≤ 8 ∧ Mr 111 55 = cv (Mc 55 11) ∧ 0 ≤ Mc 55 11 ∧ Mc 55 11 < 282429536481 := by
      unfold WR at x1
      rcases x1 with x1 | x1
      · exact ⟨x1.2.2.2.1, x1.2.2.2.2, x1.2.2.1, x1.1, x1.2.1⟩
      · exact absurd x1.1 cx
    have fm := nmM_f (Mc := Mc) (D := D) (x := Mc 55 11)
    have r61 : nmM Mc D (Mc 55 11) 61 = up (Mc 61) D (Mc 55 11) := by
      unfold nmM; split
      · rw [sto_up]
      · rw [sto_r (by decide), sto_up]
    have hask := di.2.2.2.1
    have r60 : ∀ q, q < 7 → nmM Mc D (Mc 55 11) 60 q = if Mc 55 11 = asC q then (D : Int) else Mc 60 q := fun q hq => by
      have af := asC_f x3 hq
      have fb := fndL_b ASs (Mc 55 11) 0
      unfold nmM
      by_cases c0 : fndL ASs (Mc 55 11) 0 = -1
      · rw [if_pos c0, sto_r (by decide), if_neg (fun z => by have := af.mpr z; omega)]
      · rw [if_neg c0]
        by_cases c1 : Mc 55 11 = asC q
        · have := af.mpr c1
          rw [if_pos c1, show (fndL ASs (Mc 55 11) 0).toNat = q by omega, sto_e]
        · rw [if_neg c1, sto_n (fun z => c1 (af.mp (by omega))), sto_r (by decide)]
    have cC : Cm b n D nm (nmM Mc D (Mc 55 11)) Mr := by
      refine ⟨c1, c2, c3.on ?_ ?_ ?_, c4, c5, ?_, fun i hi => ?_, c8, c9⟩
      · exact fm.f 55 3 (by decide) (by decide)
      · exact fm.f 55 6 (by decide) (by decide)
      · exact fm.c 56 (by decide) (by decide)
      · rw [fm.f 57 1 (by decide) (by decide)]; exact c6
      · rw [r61, up_n (by omega)]; exact c7 i hi
    rw [s_name g0 cx cv1 cD cn x3]
    refine l2_cc ?_
    unfold d_Mo_readDef k_Mo_readDef_54 k_Mo_readDef_70
    refine r2_let (r2_t (by rw [s1]; decide) (r2_let (r2_f (by rw [w32_eq (by omega) (by omega)]; omega) (r2_call hvr (r2_t (by decide) (r2_call (r_isKept h12) (r2_t (by rw [Bz_f (by decide)]; decide) (r2_let ?_))))))))
    rw [c8]
    refine r2_f (by rw [w32_eq (by omega) (by omega)]; omega) (r2_call hnm (r2_t (by decide) (r2_let (r2_f (by rw [h11]; decide) (r2_let ?_)))))
    rw [hl.2.2.1]
    refine ok2_call (ok2_fr (gd_adv (s := s) (m := m) (e := e) cC (by rw [fm.f 55 2 (by decide) (by decide)]; exact h10) h11 k1 (by rw [fm.f 55 7 (by decide) (by decide)]; exact k3) k4 (by rw [fm.f 57 2 (by decide) (by decide)]; exact h1) h2 h3 (by omega)) (fun r hr => w_Pa_advance hr) (fun r hr => w_Mo_next hr)) (fun _ Mc1 _ Mr1 q => ?_)
    obtain ⟨⟨a1, q1, q2, q3, q4, q5⟩, fc1, fr1⟩ := q
    refine l2_cs ?_
    have rw1 : Mc1 59 = Mc 59 ∧ Mc1 60 = nmM Mc D (Mc 55 11) 60 ∧ Mc1 61 = nmM Mc D (Mc 55 11) 61 ∧ Mr1 151 = Mr 151 ∧ Mr1 154 = Mr 154 := ⟨by rw [fc1.c 59 (by decide) (by decide), fm.c 59 (by decide) (by decide)], fc1.c 60 (by decide) (by decide), fc1.c 61 (by decide) (by decide), fr1.c 151 (by decide) (by decide), fr1.c 154 (by decide) (by decide)⟩
    have q4' : Mc1 58 = Mc 58 := by rw [q4, fm.c 58 (by decide) (by decide)]
    have bad0 : ∀ (t x u : Int), t ≠ 58 → w32 (Mc1 55 8) = t → TR t x u Mr1 → GP b n D nm s m a1 Mc1 Mr1 → Ok2 (bcall (d_Pa_expect 58 Mc1) fun v3 M4 => bcall (d_Pa_parseWholeC 1 M4) fun v5 M6 => bcall (d_Pa_expect 59 M6) fun v7 M8 => blet (M8 55 2) fun v9 => if w32 v9 = 0 then (blet (M8 57 1) fun v11 => blet (M8 57 2) fun v12 => chk (0 ≤ w32 v11 ∧ w32 v11 < 10) <| blet (sto M8 59 (ix v11) v12) fun M14 => blet (M14 57 1) fun v15 => blet (sto M14 57 1 (v15 + 1)) fun M16 => some (0, M16)) else (some (0, M8))) (bcall (d_Mo_isSign 58 Mr1) fun v6 M7 => if w32 v6 = 0 then (bcall (d_Mo_wrong M7) fun v9 M10 => some (0, M10)) else (bcall (d_Mo_next M7) fun v11 M12 => bcall (d_Mo_readWholeC 1 M12) fun v13 M14 => blet (M14 111 48) fun v15 => if w32 v15 = 0 then (bcall (d_Mo_isSign 59 M14) fun v17 M18 => if w32 v17 = 0 then (bcall (d_Mo_wrong M18) fun v20 M21 => k_Mo_readDef_130 (cv (Mc 55 11)) M21) else (k_Mo_readDef_130 (cv (Mc 55 11)) M18)) else (k_Mo_readDef_130 (cv (Mc 55 11)) M14))) (fun Mc' Mr' => (∃ (s' m' a' : Nat) (nm' : Nat → Int) (t' : Int) (F' : Nat → Fnn), a + 1 ≤ a' ∧ Gd b n (D + 1) nm' t' s' m' a' Mc' Mr' ∧ DI (D + 1) nm' s' m' F' Mc' Mr') ∨ (∃ m' a' : Nat, Pd n m' a' Mc' Mr') ∨ ∃ m' a' : Nat, Ft n m' a' Mc' Mr') := by
      intro t x u t1 t2 t3 gp
      obtain ⟨Mc', Mr', e1, e2, e3⟩ := gp_wrong gp
      have ex : d_Pa_expect 58 Mc1 = some (0, Mc') := by
        unfold d_Pa_expect
        rw [blet_s, if_neg (by rw [t2]; exact t1), e1]; rfl
      have p4 := e3.2.2.2.1
      refine l2_call ex (l2_call (show d_Pa_parseWholeC 1 Mc' = some (0, Mc') from cf_whole e3.cf) (l2_call (cf_exp e3.cf (by decide)) (l2_let (l2_f (by rw [w32_eq (by omega) (by omega)]; omega) ?_))))
      refine r2_call (r_isS t3 (by decide)) (r2_t (by rw [Bz_f t1]; decide) (r2_call e2 (ok2_ret ?_)))
      exact Or.inr (Or.inr ⟨m, a1, e3⟩)
    have q3' := q3
    rcases q3 with ⟨t1, g1⟩ | g1
    · have g1' := g1
      obtain ⟨d, ⟨i1, i2, i3, i4, i5, i6, i7⟩, i8, i9, i10, i11, i12, e1, l1, l2, l3, l4, l5⟩ := g1'
      have tb := i12.w.2.2.2.2.2.2
      by_cases c58 : t1 = 58
      · have l5 := l5 (by omega)
        have ex : d_Pa_expect 58 Mc1 = bcall (d_Pa_advance Mc1) fun _ M4 => some (0, M4) := by
          unfold d_Pa_expect
          rw [blet_s, if_pos (by rw [i8, c58])]
        rw [ex]
        refine l2_cc ?_
        refine r2_call (r_isS i12 (by decide)) (r2_f (by rw [Bz_t c58]; decide) ?_)
        refine ok2_call (ok2_fr (gd_adv d i10 i11 l1 l3 l4 i1 i2 i3 (by omega)) (fun r hr => w_Pa_advance hr) (fun r hr => w_Mo_next hr)) (fun _ Mc2 _ Mr2 q => ?_)
        obtain ⟨⟨a2, z1, z2, z3, z4, z5⟩, fc2, fr2⟩ := q
        refine l2_cs (ok2_call (ok2_fr (ct_def s m a2 Mc2 Mr2 z3) (fun r hr => w_Pa_parseWholeC hr) (fun r hr => w_Mo_readWholeC hr)) (fun _ Mc3 _ Mr3 o => ?_))
        obtain ⟨o, fc3, fr3⟩ := o
        have rw3 : Mc3 59 = Mc 59 ∧ Mc3 60 = nmM Mc D (Mc 55 11) 60 ∧ Mc3 61 = nmM Mc D (Mc 55 11) 61 ∧ Mr3 151 = Mr 151 ∧ Mr3 154 = Mr 154 := ⟨by rw [fc3.c 59 (by decide) (by decide), fc2.c 59 (by decide) (by decide), rw1.1], by rw [fc3.c 60 (by decide) (by decide), fc2.c 60 (by decide) (by decide), rw1.2.1], by rw [fc3.c 61 (by decide) (by decide), fc2.c 61 (by decide) (by decide), rw1.2.2.1], by rw [fr3.c 151 (by decide) (by decide), fr2.c 151 (by decide) (by decide), rw1.2.2.2.1], by rw [fr3.c 154 (by decide) (by decide), fr2.c 154 (by decide) (by decide), rw1.2.2.2.2]⟩
        refine exp_seq (c := 59) (kc := fun _ M8 => blet (M8 55 2) fun v9 => if w32 v9 = 0 then (blet (M8 57 1) fun v11 => blet (M8 57 2) fun v12 => chk (0 ≤ w32 v11 ∧ w32 v11 < 10) <| blet (sto M8 59 (ix v11) v12) fun M14 => blet (M14 57 1) fun v15 => blet (sto M14 57 1 (v15 + 1)) fun M16 => some (0, M16)) else (some (0, M8))) (kr := k_Mo_readDef_130 (cv (Mc 55 11))) (fun h => r_isS h (by decide)) (by decide) o ?_ ?_
        · intro m' a3 s' u1 u2 u3 gd u4 u5 u6 u7 u8
          obtain ⟨G, -, f1, f2, f3⟩ := u8
          have gd' := gd
          obtain ⟨dd, ⟨j1, j2, j3, j4, j5, j6, j7⟩, j8, j9, j10, j11, j12, e3, r1, r2, r3, r4, r5⟩ := gd'
          have r5 := r5 (by decide)
          unfold k_Mo_readDef_130
          refine r2_let (r2_f (by rw [j11]; decide) ?_)
          refine ok2_call (ok2_fr (gd_adv dd j10 j11 r1 r3 r4 j1 j2 j3 (by omega)) (fun r hr => w_Pa_advance hr) (fun r hr => w_Mo_next hr)) (fun _ Mc4 _ Mr4 q => ?_)
          obtain ⟨⟨a4, y1, y2, y3, y4, y5⟩, fc4, fr4⟩ := q
          have xD : ix (D : Int) = D := ix_n (by omega)
          have xD1 : ix ((D : Int) + 1) = D + 1 := by rw [ix_e (by omega) (by omega)]; omega
          have m57 : Mr4 111 57 = (D : Int) := by rw [fr4.f 111 57 (by decide) (by decide)]; exact dd.2.2.2.2.2.2.2.1
          have m58 : Mr4 111 58 = (m' : Int) := by rw [fr4.f 111 58 (by decide) (by decide)]; exact j2
          have rst : ∀ rc : Res, ∀ P : Mem → Mem → Prop, Ok2 rc (some (0, sto (sto (sto Mr4 154 D (cv (Mc 55 11))) 111 57 ((D : Int) + 1)) 151 (D + 1) (m' : Int))) P → Ok2 rc (blet (Mr4 111 57) fun v5 => chk (0 ≤ w32 v5 ∧ w32 v5 < 10) <| blet (sto Mr4 154 (ix v5) (cv (Mc 55 11))) fun M7 => blet (M7 111 57) fun v8 => blet (sto M7 111 57 (v8 + 1)) fun M9 => blet (M9 111 57) fun v10 => blet (M9 111 58) fun v11 => chk (0 ≤ w32 v10 ∧ w32 v10 < 11) <| blet (sto M9 151 (ix v10) v11) fun M13 => some (0, M13)) P := fun rc P hq => by
            rw [m57]
            refine r2_let (r2_chk (by rw [w32_eq (by omega) (by omega)]; omega) (r2_let ?_))
            rw [xD, sto_r (show 111 ≠ 154 by decide), m57]
            refine r2_let (r2_let ?_)
            rw [sto_e, sto_n (show 58 ≠ 57 by decide), sto_r (show 111 ≠ 154 by decide), m58]
            refine r2_let (r2_let (r2_chk (by rw [w32_eq (by omega) (by omega)]; omega) (r2_let ?_)))
            rw [xD1]
            exact hq
          refine rst _ _ ?_
          rcases y3 with ⟨t4, g4⟩ | g4
          · have g4' := g4
            obtain ⟨de, ⟨v1, v2, v3, v4, v5, v6, v7⟩, v8, v9, v10, v11, v12, e4, p1, p2, p3, p4, p5⟩ := g4'
            have n57 : Mc4 57 1 = (D : Int) := de.2.2.2.2.2.1
            refine l2_let (l2_t (by rw [v10]; decide) (l2_let (l2_let ?_)))
            rw [n57, v1]
            refine l2_chk (by rw [w32_eq (by omega) (by omega)]; omega) (l2_let ?_)
            rw [xD, sto_r (show 57 ≠ 59 by decide), n57]
            refine l2_let (l2_let (ok2_ret ?_))
            have row59 : Mc4 59 = Mc 59 := by rw [fc4.c 59 (by decide) (by decide), rw3.1]
            have row60 : Mc4 60 = nmM Mc D (Mc 55 11) 60 := by rw [fc4.c 60 (by decide) (by decide), rw3.2.1]
            have row61 : Mc4 61 = up (Mc 61) D (Mc 55 11) := by rw [fc4.c 61 (by decide) (by decide), rw3.2.2.1, r61]
            have row151 : Mr4 151 = Mr 151 := by rw [fr4.c 151 (by decide) (by decide), rw3.2.2.2.1]
            have row154 : Mr4 154 = Mr 154 := by rw [fr4.c 154 (by decide) (by decide), rw3.2.2.2.2]
            have P58 : ∀ i, i < s → Mc4 58 i = Mc 58 i := fun i hi => by rw [y4, u6 i hi, z4, q4']
            have P152 : ∀ i, i < m → Mr4 152 i = Mr 152 i := fun i hi => by rw [y5, u7 i hi, z5, q5]
            have E58 : (sto (sto Mc4 59 D (s' : Int)) 57 1 ((D : Int) + 1)) 58 = Mc4 58 := by rw [sto_r (by decide), sto_r (by decide)]
            have E59 : (sto (sto Mc4 59 D (s' : Int)) 57 1 ((D : Int) + 1)) 59 = up (Mc 59) D (s' : Int) := by rw [sto_r (by decide), sto_up, row59]
            have E60 : (sto (sto Mc4 59 D (s' : Int)) 57 1 ((D : Int) + 1)) 60 = nmM Mc D (Mc 55 11) 60 := by rw [sto_r (by decide), sto_r (by decide), row60]
            have E61 : (sto (sto Mc4 59 D (s' : Int)) 57 1 ((D : Int) + 1)) 61 = up (Mc 61) D (Mc 55 11) := by rw [sto_r (by decide), sto_r (by decide), row61]
            have E151 : (sto (sto (sto Mr4 154 D (cv (Mc 55 11))) 111 57 ((D : Int) + 1)) 151 (D + 1) (m' : Int)) 151 = up (Mr 151) (D + 1) (m' : Int) := by rw [sto_up, sto_r (by decide), sto_r (by decide), row151]
            have E152 : (sto (sto (sto Mr4 154 D (cv (Mc 55 11))) 111 57 ((D : Int) + 1)) 151 (D + 1) (m' : Int)) 152 = Mr4 152 := by rw [sto_r (by decide), sto_r (by decide), sto_r (by decide)]
            have E154 : (sto (sto (sto Mr4 154 D (cv (Mc 55 11))) 111 57 ((D : Int) + 1)) 151 (D + 1) (m' : Int)) 154 = up (Mr 154) D (cv (Mc 55 11)) := by rw [sto_r (by decide), sto_r (by decide), sto_up, row154]
            obtain ⟨di1, di2, di3, di4, di5⟩ := di
            refine Or.inl ⟨s', m', a4, up nm D (Mc 55 11), t4, fun j => if j = D then G else F j, by omega, ⟨⟨c1, c2, de.2.2.1.on (by simp (disch := omega) only [w32_eq, w64_eq, ix_n, ix_e, sto_n, sto_e, sto_r, zf_r, Int.toNat_natCast]) (by simp (disch := omega) only [w32_eq, w64_eq, ix_n, ix_e, sto_n, sto_e, sto_r, zf_r, Int.toNat_natCast]) (by simp (disch := omega) only [w32_eq, w64_eq, ix_n, ix_e, sto_n, sto_e, sto_r, zf_r, Int.toNat_natCast]), de.2.2.2.1.on (by simp (disch := omega) only [w32_eq, w64_eq, ix_n, ix_e, sto_n, sto_e, sto_r, zf_r, Int.toNat_natCast]) (by simp (disch := omega) only [w32_eq, w64_eq, ix_n, ix_e, sto_n, sto_e, sto_r, zf_r, Int.toNat_natCast]), ⟨by omega, fun i hi => ?_⟩, ?_, fun i hi => ?_, ?_, fun i hi => ?_⟩, ⟨by simp (disch := omega) only [w32_eq, w64_eq, ix_n, ix_e, sto_n, sto_e, sto_r, zf_r, Int.toNat_natCast, v1], by simp (disch := omega) only [w32_eq, w64_eq, ix_n, ix_e, sto_n, sto_e, sto_r, zf_r, Int.toNat_natCast, v2], v3, v4, v5, by simp (disch := omega) only [w32_eq, w64_eq, ix_n, ix_e, sto_n, sto_e, sto_r, zf_r, Int.toNat_natCast, v6], by simp (disch := omega) only [w32_eq, w64_eq, ix_n, ix_e, sto_n, sto_e, sto_r, zf_r, Int.toNat_natCast, v7]⟩, by simp (disch := omega) only [w32_eq, w64_eq, ix_n, ix_e, sto_n, sto_e, sto_r, zf_r, Int.toNat_natCast, v8], v9, by simp (disch := omega) only [w32_eq, w64_eq, ix_n, ix_e, sto_n, sto_e, sto_r, zf_r, Int.toNat_natCast, v10], by simp (disch := omega) only [w32_eq, w64_eq, ix_n, ix_e, sto_n, sto_e, sto_r, zf_r, Int.toNat_natCast, v11], ?_, e4, p1, p2, by simp (disch := omega) only [w32_eq, w64_eq, ix_n, ix_e, sto_n, sto_e, sto_r, zf_r, Int.toNat_natCast, p3], by simp (disch := omega) only [w32_eq, w64_eq, ix_n, ix_e, sto_n, sto_e, sto_r, zf_r, Int.toNat_natCast, p4], p5⟩, ?_, ?_, fun j hj => ?_, fun q hq => ?_, fun i j hij hj => ?_⟩
            · by_cases ci : i = D
              · rw [ci, up_e]; exact ⟨hl.2.2.2.1, hl.2.2.2.2, x2.symm⟩
              · rw [up_n ci]; exact c5.2 i (by omega)
            · rw [sto_e]; omega
            · rw [E61]
              by_cases ci : i = D
              · rw [ci, up_e, up_e]
              · rw [up_n ci, up_n ci]; exact c7 i (by omega)
            · simp (disch := omega) only [w32_eq, w64_eq, ix_n, ix_e, sto_n, sto_e, sto_r, zf_r, Int.toNat_natCast]; omega
            · rw [E154]
              by_cases ci : i = D
              · rw [ci, up_e, up_e]
              · rw [up_n ci, up_n ci]; exact c9 i (by omega)
            · rw [show (sto (sto Mc4 59 D (s' : Int)) 57 1 ((D : Int) + 1)) 55 = Mc4 55 by rw [sto_r (by decide), sto_r (by decide)]]
              exact v12.on (by simp (disch := omega) only [w32_eq, w64_eq, ix_n, ix_e, sto_n, sto_e, sto_r, zf_r, Int.toNat_natCast]) (by simp (disch := omega) only [w32_eq, w64_eq, ix_n, ix_e, sto_n, sto_e, sto_r, zf_r, Int.toNat_natCast]) (by simp (disch := omega) only [w32_eq, w64_eq, ix_n, ix_e, sto_n, sto_e, sto_r, zf_r, Int.toNat_natCast]) (by simp (disch := omega) only [w32_eq, w64_eq, ix_n, ix_e, sto_n, sto_e, sto_r, zf_r, Int.toNat_natCast])
            · unfold stE
              rw [if_neg (by omega), E59, show D + 1 - 1 = D by omega, up_e]
            · rw [E151, up_e]
            · have stj : stE (sto (sto Mc4 59 D (s' : Int)) 57 1 ((D : Int) + 1)) j = stE Mc j := by
                unfold stE
                by_cases c0 : j = 0
                · rw [if_pos c0, if_pos c0]
                · rw [if_neg c0, if_neg c0, E59, up_n (by omega)]
              by_cases cj : j = D
              · subst cj
                refine ⟨s, s', m, m', by rw [stj]; exact di1, by rw [E59, up_e], by rw [E151, up_n (by omega)]; exact di2, by rw [E151, up_e], u4, Nat.le_refl _, u1, Nat.le_refl _, ?_⟩
                dsimp only
                rw [if_pos rfl, E58, E152, y4, y5]
                exact ⟨f1, f2, f3⟩
              · obtain ⟨e1, e2, b1, b2, x4, x5, x6, x7, x8, x9, x10, x11, x12, x13, x14⟩ := di3 j (by omega)
                refine ⟨e1, e2, b1, b2, by rw [stj]; exact x4, by rw [E59, up_n cj]; exact x5, by rw [E151, up_n (by omega)]; exact x6, by rw [E151, up_n (by omega)]; exact x7, x8, by omega, x10, by omega, ?_⟩
                dsimp only
                rw [if_neg cj, E58, E152]
                exact ⟨x12, x13.c (fun i k1 k2 => P58 i (by omega)), x14.c (fun i k1 k2 => P152 i (by omega))⟩
            · rw [E60, r60 q hq, ndF_s, ndF_c (nm' := nm) D 0 (fun j _ hj => up_n (by omega)), Nat.zero_add, up_e]
              by_cases c0 : Mc 55 11 = asC q
              · rw [if_pos c0, ← c0, if_pos cn, if_pos rfl]
              · rw [if_neg c0, di4 q hq]
                by_cases c1 : ndF nm (asC q) D 0 = -1
                · rw [if_pos c1, if_neg c0, c1]
                · rw [if_neg c1]
            · by_cases cj : j = D
              · rw [cj, up_e, up_n (by omega)]
                exact ndF_n D 0 cn i (by omega) (by omega)
              · rw [up_n (by omega), up_n (by omega)]; exact di5 i j hij (by omega)
          · refine l2_let (l2_f (by rw [g4.2.1]; decide) (ok2_ret ?_))
            have p9 := g4.2.2.2.2.2.2.2.2.1
            exact Or.inr (Or.inl ⟨m', a4, g4.on rfl g4.2.2.2.2.1 (by simp (disch := omega) only [w32_eq, w64_eq, ix_n, ix_e, sto_n, sto_e, sto_r, zf_r, Int.toNat_natCast]) (by simp (disch := omega) only [w32_eq, w64_eq, ix_n, ix_e, sto_n, sto_e, sto_r, zf_r, Int.toNat_natCast]) (by simp (disch := omega) only [w32_eq, w64_eq, ix_n, ix_e, sto_n, sto_e, sto_r, zf_r, Int.toNat_natCast]) (by simp (disch := omega) only [w32_eq, w64_eq, ix_n, ix_e, sto_n, sto_e, sto_r, zf_r, Int.toNat_natCast, p9]) g4.2.2.2.2.2.2.2.2.2.1⟩)
        · intro m' a3 Mc' Mr' u1 u2 u3 ft
          have p4 := ft.2.2.2.1
          have p5 := ft.2.2.2.2.1
          unfold k_Mo_readDef_130
          refine l2_let (l2_f (by rw [w32_eq (by omega) (by omega)]; omega) ?_)
          refine r2_let (r2_t (by rw [p5, w32_eq (by omega) (by omega)]; omega) (ok2_ret ?_))
          exact Or.inr (Or.inr ⟨m', a3, ft⟩)
      · exact bad0 t1 _ _ c58 (by rw [i8, w32_eq (by omega) (by omega)]) i12 q3'
    · exact bad0 1 _ _ (by decide) (by rw [g1.2.2.2.1]; decide) g1.tr q3'
  · obtain ⟨Mc', Mr', e1, e2, e3⟩ := def_name g hok
    refine l2_call e1 ?_
    rw [e2, def_bad e3]
    exact ok2_ret (Or.inr (Or.inr ⟨m, a, e3⟩))
