/-! both read the same grammar: least and most, levels -/
theorem few_bad {n m a : Nat} {w : Int} {Mc Mr : Mem} (h : Ft n m a Mc Mr) : ∃ Mc', d_Tx_add 57 w 0 Mc = some (0, Mc') ∧ Ft n m a Mc' Mr := by
  have o5 := h
  obtain ⟨-, -, p5, -, -, -, p9, p10, p11⟩ := o5
  obtain ⟨M', e1, e2, e3⟩ := add_cf (w := w) (v := 0) p5
  exact ⟨M', e1, h.on e2 e3 rfl rfl p9 p10 p11⟩
theorem ct_few {b : Nat → Int} {n D : Nat} {nm : Nat → Int} {RW RF : Int → Mem → Res} {SW : Int → Mem → Res} {SF : Int → Int → Mem → Res} {dp w : Int} {N NS s m a : Nat} {t : Int} {Mc Mr : Mem} (hN : NS + 1 ≤ N) (hN2 : 2 ≤ N) (hw : w = 9 ∨ w = 10) (hS : Ct b n D nm (d_Pa_parseSumOfFew RW RF (dp + 1)) (d_Mo_readDeeper SW SF (dp + 1)) QA NS) (hG : Gd b n D nm t s m a Mc Mr) (ht : t ≠ 0) :
    Ok2 (k_Pa_parseFew_16 RW RF dp w Mc) (d_Mo_readFew SW SF dp (rop w) Mr) (Out b n D nm QA N s m a a Mc Mr) := by
  have n5 := hG.n500
  obtain ⟨c, ⟨h1, h2, h3, h4, h5, h6, h7⟩, h8, h9, h10, h11, h12, e, k1, k2, k3, k4, k5⟩ := hG
  have k5 := k5 ht
  unfold k_Pa_parseFew_16 d_Mo_readFew
  refine ok2_call (gd_adv c h10 h11 k1 k3 k4 h1 h2 h3 (by omega)) (fun _ Mc1 _ Mr1 q => ?_)
  obtain ⟨a1, q1, q2, q3, q4, q5⟩ := q
  have bad0 : ∀ (t x u : Int), t ≠ 40 → w32 (Mc1 55 8) = t → TR t x u Mr1 → Ok2 (bcall (d_Pa_expect 40 Mc1) fun v3 M4 => bcall (d_Pa_parseSumOfFew RW RF (dp + 1) M4) fun v5 M6 => bcall (d_Pa_expect 44 M6) fun v7 M8 => bcall (d_Pa_parseSumOfFew RW RF (dp + 1) M8) fun v9 M10 => bcall (d_Pa_expect 41 M10) fun v11 M12 => bcall (d_Tx_add 57 w 0 M12) fun v13 M14 => some (0, M14)) (bcall (d_Mo_isSign 40 Mr1) fun v3 M4 => if w32 v3 = 0 then (bcall (d_Mo_wrong M4) fun v6 M7 => some (0, M7)) else (bcall (d_Mo_next M4) fun v8 M9 => bcall (d_Mo_readDeeper SW SF (dp + 1) M9) fun v10 M11 => blet (M11 111 48) fun v12 => if w32 v12 = 0 then (bcall (d_Mo_isSign 44 M11) fun v14 M15 => if w32 v14 = 0 then (bcall (d_Mo_wrong M15) fun v17 M18 => k_Mo_readFew_49 SW SF dp (rop w) M18) else (k_Mo_readFew_49 SW SF dp (rop w) M15)) else (k_Mo_readFew_49 SW SF dp (rop w) M11))) (Out b n D nm QA N s m a a Mc Mr) := by
    intro t x u t1 t2 t3
    obtain ⟨Mc', Mr', e1, e2, e3⟩ := gp_wrong q3
    obtain ⟨Mc'', f1, f2⟩ := few_bad (w := w) e3
    have ex : d_Pa_expect 40 Mc1 = some (0, Mc') := by
      unfold d_Pa_expect
      rw [blet_s, if_neg (by rw [t2]; exact t1), e1]; rfl
    have cf := e3.cf
    refine l2_call ex (l2_call (cf_deep cf) (l2_call (cf_exp cf (by decide)) (l2_call (cf_deep cf) (l2_call (cf_exp cf (by decide)) (l2_call f1 ?_)))))
    refine r2_call (r_isS t3 (by decide)) (r2_t (by rw [Bz_f t1]; decide) (r2_call e2 (ok2_ret ?_)))
    exact ⟨m, a1, by omega, by omega, by omega, Or.inr (Or.inr f2)⟩
  have q3' := q3
  rcases q3 with ⟨t1, g⟩ | g
  · have g' := g
    obtain ⟨c, ⟨h1, h2, h3, h4, h5, h6, h7⟩, h8, h9, h10, h11, h12, e, k1, k2, k3, k4, k5⟩ := g'
    have tb := h12.w.2.2.2.2.2.2
    by_cases t40 : t1 = 40
    · have k5 := k5 (by omega)
      have ex : d_Pa_expect 40 Mc1 = bcall (d_Pa_advance Mc1) fun _ M4 => some (0, M4) := by
        unfold d_Pa_expect
        rw [blet_s, if_pos (by rw [h8, t40])]
      rw [ex]
      refine l2_cc ?_
      refine r2_call (r_isS h12 (by decide)) (r2_f (by rw [Bz_t t40]; decide) ?_)
      refine ok2_call (gd_adv c h10 h11 k1 k3 k4 h1 h2 h3 (by omega)) (fun _ Mc2 _ Mr2 q => ?_)
      obtain ⟨a2, z1, z2, z3, z4, z5⟩ := q
      refine l2_cs (ok2_call (hS s m a2 Mc2 Mr2 z3) (fun _ Mc3 _ Mr3 o => ?_))
      refine exp_seq (c := 44) (kc := fun _ M8 => bcall (d_Pa_parseSumOfFew RW RF (dp + 1) M8) fun _ M10 => bcall (d_Pa_expect 41 M10) fun _ M12 => bcall (d_Tx_add 57 w 0 M12) fun _ M14 => some (0, M14)) (kr := k_Mo_readFew_49 SW SF dp (rop w)) (fun h => r_isS h (by decide)) (by decide) o ?_ ?_
      · intro m1 a3 s1 u1 u2 u3 gd u4 u5 u6 u7 u8
        obtain ⟨F, -, f2, f3, f4⟩ := u8
        have gd' := gd
        obtain ⟨cc, ⟨i1, i2, i3, i4, i5, i6, i7⟩, i8, i9, i10, i11, i12, e', l1, l2, l3, l4, l5⟩ := gd'
        have l5 := l5 (by decide)
        unfold k_Mo_readFew_49
        refine r2_let (r2_f (by rw [i11]; decide) ?_)
        refine ok2_call (gd_adv cc i10 i11 l1 l3 l4 i1 i2 i3 (by omega)) (fun _ Mc4 _ Mr4 y => ?_)
        obtain ⟨a4, y1, y2, y3, y4, y5⟩ := y
        refine ok2_call (hS s1 m1 a4 Mc4 Mr4 y3) (fun _ Mc5 _ Mr5 o2 => ?_)
        refine exp_seq (c := 41) (kc := fun _ M12 => bcall (d_Tx_add 57 w 0 M12) fun _ M14 => some (0, M14)) (kr := k_Mo_readFew_88 SW SF (rop w)) (fun h => r_isS h (by decide)) (by decide) o2 ?_ ?_
        · intro m2 a5 s2 v1 v2 v3 gd2 v4 v5 v6 v7 v8
          obtain ⟨G, -, p2, p3, p4⟩ := v8
          have gd2' := gd2
          obtain ⟨cd, ⟨j1, j2, j3, j4, j5, j6, j7⟩, j8, j9, j10, j11, j12, e'', r1, r2, r3, r4, r5⟩ := gd2'
          have r5 := r5 (by decide)
          unfold k_Mo_readFew_88
          refine r2_let (r2_f (by rw [j11]; decide) ?_)
          refine ok2_call (gd_adv cd j10 j11 r1 r3 r4 j1 j2 j3 (by omega)) (fun _ Mc6 _ Mr6 x => ?_)
          obtain ⟨a6, x1, x2, x3, x4, x5⟩ := x
          rcases x3 with ⟨t6, x3⟩ | x3
          · have x3' := x3
            obtain ⟨-, ⟨b1, b2, -⟩, -⟩ := x3'
            refine l2_call (s_add b1 (by omega)) (r2_call (s_mark b2 (by omega)) (ok2_ret ?_))
            obtain ⟨w', ew⟩ : ∃ w' : Nat, w = (w' : Int) := ⟨w.toNat, by omega⟩
            subst ew
            refine ⟨m2 + 1, a6, by omega, by omega, by omega, Or.inl ⟨t6, s2 + 1, gd_lay x3 (by omega), by omega, by omega, fun i hi => ?_, fun i hi => ?_, bnF (w' : Int) ((0 : Nat) : Int) F G, trivial, lcl_bin f2 p2, ?_, ?_⟩⟩
            · rw [lay_b (by decide) (by omega), x4, v6 i (by omega), y4, u6 i (by omega), z4, q4]
            · rw [lay_b (by decide) (by omega), x5, v7 i (by omega), y5, u7 i (by omega), z5, q5]
            · refine dc_bin (N1 := NS) (v := 0) hN hN2 u4 v4 ?_ ?_ (by omega) (by decide) (fun q => by omega) (by rw [sto_r (by decide), sto_e]; rfl)
              · exact (f3.m (by omega)).c (fun i d1 d2 => by rw [lay_b (by decide) (by omega), x4, v6 i (by omega), y4])
              · exact p3.c (fun i d1 d2 => by rw [lay_b (by decide) (by omega), x4])
            · refine dr_bin (N1 := NS) (v := 0) hN hN2 u1 v1 ?_ ?_ (by omega) (by decide) (by rw [sto_r (by decide), sto_e]; rfl)
              · exact (f4.m (by omega)).c (fun i d1 d2 => by rw [lay_b (by decide) (by omega), x5, v7 i (by omega), y5])
              · exact p4.c (fun i d1 d2 => by rw [lay_b (by decide) (by omega), x5])
          · have o5 := x3
            obtain ⟨-, -, -, -, p5, -, -, -, p9, p10, p11⟩ := o5
            obtain ⟨M', e1, e2, e3⟩ := add_cf (w := w) (v := 0) p5
            refine l2_call e1 (r2_call (s_mark p9 (by omega)) (ok2_ret ?_))
            exact ⟨m2 + 1, a6, by omega, by omega, by omega, Or.inr (Or.inl (x3.on e2 e3 (by simp (disch := omega) only [w32_eq, w64_eq, ix_n, ix_e, sto_n, sto_e, sto_r, zf_r, Int.toNat_natCast]) (by simp (disch := omega) only [w32_eq, w64_eq, ix_n, ix_e, sto_n, sto_e, sto_r, zf_r, Int.toNat_natCast]) (by simp (disch := omega) only [w32_eq, w64_eq, ix_n, ix_e, sto_n, sto_e, sto_r, zf_r, Int.toNat_natCast]) sto_e (by omega)))⟩
        · intro m2 a5 Mc' Mr' v1 v2 v3 ft
          obtain ⟨Mc'', f1, f2⟩ := few_bad (w := w) ft
          have p4 := f2.2.2.2.1
          have p5 := f2.2.2.2.2.1
          refine l2_call f1 ?_
          unfold k_Mo_readFew_88
          refine r2_let (r2_t (by rw [p5, w32_eq (by omega) (by omega)]; omega) (ok2_ret ?_))
          exact ⟨m2, a5, by omega, by omega, by omega, Or.inr (Or.inr f2)⟩
      · intro m1 a3 Mc' Mr' u1 u2 u3 ft
        obtain ⟨Mc'', f1, f2⟩ := few_bad (w := w) ft
        have p4 := f2.2.2.2.1
        have p5 := f2.2.2.2.2.1
        refine l2_call (cf_deep ft.cf) (l2_call (cf_exp ft.cf (by decide)) (l2_call f1 ?_))
        unfold k_Mo_readFew_49
        refine r2_let (r2_t (by rw [p5, w32_eq (by omega) (by omega)]; omega) (ok2_ret ?_))
        exact ⟨m1, a3, by omega, by omega, by omega, Or.inr (Or.inr f2)⟩
    · exact bad0 t1 _ _ t40 (by rw [h8, w32_eq (by omega) (by omega)]) h12
  · exact bad0 1 _ _ (by decide) (by rw [g.2.2.2.1]; decide) g.tr
/-- by levels -/
def LvW (b : Nat → Int) (n D : Nat) (nm : Nat → Int) (k : Nat) : Prop := ∀ d : Nat, 1 ≤ d → d ≤ 9 → 10 ≤ k + d → Ct b n D nm ((pwG k).1 (d : Int)) ((rwG k).1 (d : Int)) QA (41 - 4 * d)
def LvF (b : Nat → Int) (n D : Nat) (nm : Nat → Int) (k : Nat) : Prop := ∀ d : Nat, 1 ≤ d → d ≤ 8 → 9 ≤ k + d → 1 ≤ k → ∀ t s m a Mc Mr, Gd b n D nm t s m a Mc Mr → t = 10 ∨ t = 11 → Ok2 ((pwG k).2 (d : Int) Mc) ((rwG k).2 (d : Int) (if t = 10 then 8 else 9) Mr) (Out b n D nm QA (37 - 4 * d) s m a a Mc Mr)
theorem lv_sum {b : Nat → Int} {n D : Nat} {nm : Nat → Int} {k : Nat} (hW : LvW b n D nm k) (hF : LvF b n D nm k) {d : Nat} (h1 : 1 ≤ d) (h8 : d ≤ 8) (hk : 9 ≤ k + d) (hk1 : 1 ≤ k) : Ct b n D nm (d_Pa_parseSum (pwG k).1 (pwG k).2 (d : Int)) (d_Mo_readSum (rwG k).1 (rwG k).2 (d : Int)) QA (39 - 4 * d) := by
  have hw := hW (d + 1) (by omega) (by omega) (by omega)
  rw [show 41 - 4 * (d + 1) = 37 - 4 * d by omega, show (((d + 1 : Nat)) : Int) = (d : Int) + 1 by omega] at hw
  have q := ct_sum (N := 37 - 4 * d + 1) (by omega) (ct_item (N := 37 - 4 * d) (by omega) (ct_atom (N := 37 - 4 * d) (by omega) hw (hF d h1 h8 hk hk1)))
  rw [show 37 - 4 * d + 1 + 1 = 39 - 4 * d by omega] at q
  exact q
theorem lv_all {b : Nat → Int} {n D : Nat} {nm : Nat → Int} : ∀ k : Nat, LvW b n D nm k ∧ LvF b n D nm k := by
  intro k; induction k with
  | zero => exact ⟨fun d h1 h2 h3 => by omega, fun d h1 h2 h3 h4 => by omega⟩
  | succ k ih =>
    obtain ⟨hW, hF⟩ := ih
    refine ⟨fun d h1 h9 hk => ?_, fun d h1 h8 hk hk1 t s m a Mc Mr g ht => ?_⟩
    · show Ct b n D nm (d_Pa_parseWhole (pwG k).1 (pwG k).2 (d : Int)) (d_Mo_readWhole (rwG k).1 (rwG k).2 (d : Int)) QA (41 - 4 * d)
      refine ct_whole (N1 := 37 - 4 * d) (NT := 41 - 4 * d) (NS := 39 - 4 * d) (by omega) (by omega) (by omega) (by omega) (by omega) (fun q => lv_sum hW hF h1 (by omega) (by omega) (by omega)) (fun q => ?_) (fun q => ?_) (fun q M hM => ?_)
      · have hs := lv_sum hW hF h1 (by omega) (show 9 ≤ k + d by omega) (by omega)
        have r := ct_test (N := 39 - 4 * d + 1) (by omega) (ct_one (N := 39 - 4 * d) (by omega) hs)
        rw [show 39 - 4 * d + 1 + 1 = 41 - 4 * d by omega] at r
        exact r
      · have hw := hW (d + 1) (by omega) (by omega) (by omega)
        rw [show 41 - 4 * (d + 1) = 37 - 4 * d by omega, show (((d + 1 : Nat)) : Int) = (d : Int) + 1 by omega] at hw
        exact hw
      · obtain ⟨k', rfl⟩ : ∃ k', k = k' + 1 := ⟨k - 1, by omega⟩
        exact cf_whole hM
    · have h8' := g.2.2.1
      have hdeep : Ct b n D nm (d_Pa_parseSumOfFew (pwG k).1 (pwG k).2 ((d : Int) + 1)) (d_Mo_readDeeper (rwG k).1 (rwG k).2 ((d : Int) + 1)) QA (35 - 4 * d) := by
        refine ct_deep (by omega) (fun q => ?_)
        have hs := lv_sum hW hF (d := d + 1) (by omega) (by omega) (by omega) (by omega)
        rw [show 39 - 4 * (d + 1) = 35 - 4 * d by omega, show (((d + 1 : Nat)) : Int) = (d : Int) + 1 by omega] at hs
        exact hs
      show Ok2 (d_Pa_parseFew (pwG k).1 (pwG k).2 (d : Int) Mc) (d_Mo_readFew (rwG k).1 (rwG k).2 (d : Int) (if t = 10 then 8 else 9) Mr) _
      unfold d_Pa_parseFew
      rcases ht with e | e
      · rw [if_pos e]
        refine l2_let (l2_t (by rw [h8', e]; decide) ?_)
        exact ct_few (w := 9) (NS := 35 - 4 * d) (by omega) (by omega) (Or.inl rfl) hdeep g (by omega)
      · rw [if_neg (by omega)]
        refine l2_let (l2_f (by rw [h8', e]; decide) ?_)
        exact ct_few (w := 10) (NS := 35 - 4 * d) (by omega) (by omega) (Or.inr rfl) hdeep g (by omega)
theorem ct_def {b : Nat → Int} {n D : Nat} {nm : Nat → Int} : Ct b n D nm (d_Pa_parseWholeC 1) (d_Mo_readWholeC 1) QA 37 := (lv_all (b := b) (n := n) (D := D) (nm := nm) 16).1 1 (by omega) (by omega) (by omega)
