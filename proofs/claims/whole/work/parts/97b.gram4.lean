/-! both read the same grammar: ifs, least and most, levels -/
theorem gd_c {b : Nat → Int} {n D : Nat} {nm : Nat → Int} {t x y : Int} {s m a j : Nat} {Mc Mr : Mem} (h : Gd b n D nm t s m a Mc Mr) (hm : s + 1 ≤ m) : Gd b n D nm t (s + 1) m a (sto (sto Mc 58 s x) 57 2 ((s + 1 : Nat) : Int)) (sto Mr 152 j y) := by
  obtain ⟨c, ⟨h1, h2, h3, h4, h5, h6, h7⟩, h8, h9, h10, h11, h12, e, k1, k2, k3, k4, k5⟩ := h
  refine ⟨c.on ?_ ?_ ?_ ?_ ?_ ?_ ?_ ?_ ?_, ⟨sto_e, ?_, hm, h4, h5, ?_, ?_⟩, ?_, h9, ?_, ?_, ?_, e, k1, k2, ?_, ?_, k5⟩
  all_goals first | (simp (disch := omega) only [w32_eq, w64_eq, ix_n, ix_e, sto_n, sto_e, sto_r, zf_r, Int.toNat_natCast]; done) | skip
  · simp (disch := omega) only [w32_eq, w64_eq, ix_n, ix_e, sto_n, sto_e, sto_r, zf_r, Int.toNat_natCast, h2]
  · simp (disch := omega) only [w32_eq, w64_eq, ix_n, ix_e, sto_n, sto_e, sto_r, zf_r, Int.toNat_natCast, h6]
  · simp (disch := omega) only [w32_eq, w64_eq, ix_n, ix_e, sto_n, sto_e, sto_r, zf_r, Int.toNat_natCast, h7]
  · simp (disch := omega) only [w32_eq, w64_eq, ix_n, ix_e, sto_n, sto_e, sto_r, zf_r, Int.toNat_natCast, h8]
  · simp (disch := omega) only [w32_eq, w64_eq, ix_n, ix_e, sto_n, sto_e, sto_r, zf_r, Int.toNat_natCast, h10]
  · simp (disch := omega) only [w32_eq, w64_eq, ix_n, ix_e, sto_n, sto_e, sto_r, zf_r, Int.toNat_natCast, h11]
  · rw [sto_r (show 55 ≠ 57 by decide), sto_r (show 55 ≠ 58 by decide)]
    exact h12.on (by simp (disch := omega) only [w32_eq, w64_eq, ix_n, ix_e, sto_n, sto_e, sto_r, zf_r, Int.toNat_natCast]) (by simp (disch := omega) only [w32_eq, w64_eq, ix_n, ix_e, sto_n, sto_e, sto_r, zf_r, Int.toNat_natCast]) (by simp (disch := omega) only [w32_eq, w64_eq, ix_n, ix_e, sto_n, sto_e, sto_r, zf_r, Int.toNat_natCast]) (by simp (disch := omega) only [w32_eq, w64_eq, ix_n, ix_e, sto_n, sto_e, sto_r, zf_r, Int.toNat_natCast])
  · simp (disch := omega) only [w32_eq, w64_eq, ix_n, ix_e, sto_n, sto_e, sto_r, zf_r, Int.toNat_natCast, k3]
  · simp (disch := omega) only [w32_eq, w64_eq, ix_n, ix_e, sto_n, sto_e, sto_r, zf_r, Int.toNat_natCast, k4]
theorem wh_else {b : Nat → Int} {n D : Nat} {nm : Nat → Int} {RW : Int → Mem → Res} {SW : Int → Mem → Res} {SF : Int → Int → Mem → Res} {dp : Int} {N N1 NT s s1 s2 m m1 m2 a a3 : Nat} {Mc0 Mr0 Mc Mr : Mem} {T F : Fnn} (hN1 : N1 + 2 ≤ N) (hNT : NT ≤ N) (hN3 : 3 ≤ N) (HW : Ct b n D nm (RW (dp + 1)) (SW (dp + 1)) QA N1)
    (hG : Gd b n D nm 6 s2 m2 a3 Mc Mr) (hs1 : s ≤ s1) (hs2 : s1 ≤ s2) (hm1 : m ≤ m1) (hm2 : m1 + 1 ≤ m2) (A1 : s2 + m + 1 ≤ s + m2) (A2 : m2 + a ≤ m + a3) (haa : a ≤ a3) (pc : ∀ i, i < s → Mc 58 i = Mc0 58 i) (pr : ∀ i, i < m → Mr 152 i = Mr0 152 i) (hT : isT T) (lT : Lcl D T) (cT : DnC NT T (Mc 58) s s1) (rT : DnR NT T (Mr 152) m m1) (lF : Lcl D F) (cF : DnC N1 F (Mc 58) s1 s2) (rF : DnR N1 F (Mr 152) (m1 + 1) m2) (hU : Mr 152 m1 = 1048576 * 15 + 0) :
    Ok2 (bcall (d_Pa_advance Mc) fun _ M15 => bcall (RW (dp + 1) M15) fun _ M17 => bcall (d_Tx_add 57 3 0 M17) fun _ M19 => some (0, M19)) (k_Mo_readWhole_123 SW SF dp (m1 : Int) Mr) (Out b n D nm QA N s m a a Mc0 Mr0) := by
  have n5 := hG.n500
  obtain ⟨c, ⟨h1, h2, h3, h4, h5, h6, h7⟩, h8, h9, h10, h11, h12, e, k1, k2, k3, k4, k5⟩ := hG
  have k5 := k5 (by decide)
  have x1 : ix (m1 : Int) = m1 := ix_n (by omega)
  have x2 : ix (m2 : Int) = m2 := ix_n (by omega)
  unfold k_Mo_readWhole_123
  refine r2_let (r2_f (by rw [h11]; decide) (r2_let ?_))
  rw [h2]
  refine r2_call (s_mark h2 (by omega)) ?_
  refine r2_chk (by rw [w32_eq (by omega) (by omega)]; omega) (r2_let ?_)
  rw [x1, lay_b (by decide) (by omega), hU, sto_e]
  refine r2_let (r2_chk (by rw [w32_eq (by omega) (by omega)]; omega) (r2_let ?_))
  generalize hM2 : sto (sto (sto Mr 152 m2 (1048576 * 16 + 0)) 111 58 ((m2 + 1 : Nat) : Int)) 152 m1 (1048576 * 15 + 0 + ((m2 + 1 : Nat) : Int)) = Mr2
  have r152 : ∀ i, Mr2 152 i = if i = m1 then 1048576 * 15 + ((m2 + 1 : Nat) : Int) else if i = m2 then 1048576 * 16 else Mr 152 i := fun i => by
    rw [← hM2]
    by_cases c1 : i = m1
    · rw [if_pos c1, c1, sto_e]; omega
    · rw [if_neg c1, sto_n c1, sto_r (by decide)]
      by_cases c2 : i = m2
      · rw [if_pos c2, c2, sto_e]; rfl
      · rw [if_neg c2, sto_n c2]
  refine ok2_call (gd_adv (b := b) (n := n) (D := D) (nm := nm) (s := s2) (m := m2 + 1) (e := e) (c.on rfl rfl rfl rfl rfl (by rw [← hM2]; simp (disch := omega) only [w32_eq, w64_eq, ix_n, ix_e, sto_n, sto_e, sto_r, zf_r, Int.toNat_natCast]) (by rw [← hM2]; simp (disch := omega) only [w32_eq, w64_eq, ix_n, ix_e, sto_n, sto_e, sto_r, zf_r, Int.toNat_natCast]) (by rw [← hM2]; simp (disch := omega) only [w32_eq, w64_eq, ix_n, ix_e, sto_n, sto_e, sto_r, zf_r, Int.toNat_natCast]) (by rw [← hM2]; simp (disch := omega) only [w32_eq, w64_eq, ix_n, ix_e, sto_n, sto_e, sto_r, zf_r, Int.toNat_natCast])) h10 (by rw [← hM2]; simp (disch := omega) only [w32_eq, w64_eq, ix_n, ix_e, sto_n, sto_e, sto_r, zf_r, Int.toNat_natCast, h11]) k1 k3 (by rw [← hM2]; simp (disch := omega) only [w32_eq, w64_eq, ix_n, ix_e, sto_n, sto_e, sto_r, zf_r, Int.toNat_natCast, k4]) h1 (by rw [← hM2]; simp (disch := omega) only [w32_eq, w64_eq, ix_n, ix_e, sto_n, sto_e, sto_r, zf_r, Int.toNat_natCast]) (by omega) (by omega)) (fun _ Mc3 _ Mr3 q => ?_)
  obtain ⟨a4, q1, q2, q3, q4, q5⟩ := q
  refine ok2_call (HW s2 (m2 + 1) a4 Mc3 Mr3 q3) (fun _ Mc4 _ Mr4 o => ?_)
  obtain ⟨m3, a5, o1, o2, o3, o4⟩ := o
  refine r2_chk (by rw [w32_eq (by omega) (by omega)]; omega) (r2_let (r2_let (r2_chk (by rw [w32_eq (by omega) (by omega)]; omega) (r2_let ?_))))
  rw [x2]
  rcases o4 with ⟨t4, s3, gd, g1, g2, g3, g4, G, -, lG, cG, rG⟩ | o4 | o4
  · have gd' := gd
    obtain ⟨-, ⟨i1, i2, i3, i4, i5, i6, i7⟩, -⟩ := gd'
    refine l2_call (s_add i1 (by omega)) (ok2_ret ?_)
    have e2 : Mr4 152 m2 = 1048576 * 16 := by
      rw [g4 m2 (by omega), q5, r152, if_neg (by omega), if_pos rfl]
    rw [e2, i2]
    have R4 : ∀ i, i < m2 → (sto Mr4 152 m2 (1048576 * 16 + (m3 : Int))) 152 i = if i = m1 then 1048576 * 15 + ((m2 + 1 : Nat) : Int) else Mr 152 i := fun i hi => by
      rw [sto_n (by omega), g4 i (by omega), q5, r152]
      by_cases c1 : i = m1
      · rw [if_pos c1, if_pos c1]
      · rw [if_neg c1, if_neg c1, if_neg (by omega)]
    have C4 : ∀ i, i < s2 → (sto (sto Mc4 58 s3 (cdC 3 0)) 57 2 ((s3 + 1 : Nat) : Int)) 58 i = Mc 58 i := fun i hi => by
      rw [lay_b (by decide) (by omega), g3 i hi, q4]
    refine ⟨m3, a5, by omega, by omega, by omega, Or.inl ⟨t4, s3 + 1, gd_c gd (by omega), by omega, by omega, fun i hi => ?_, fun i hi => ?_, ifF T F G, trivial, lcl_if lT lF lG, ?_, ?_⟩⟩
    · rw [C4 i (by omega), pc i hi]
    · rw [R4 i (by omega), if_neg (by omega), pr i hi]
    · refine dc_if (N0 := NT) (N1 := N1) hs1 hs2 g1 ?_ ?_ ?_ hNT hN1 hN3 (by rw [sto_r (by decide), sto_e])
      · exact cT.c (fun i j1 j2 => C4 i (by omega))
      · exact cF.c (fun i j1 j2 => C4 i (by omega))
      · exact cG.c (fun i j1 j2 => by rw [lay_b (by decide) (by omega)])
    · refine dr_if (q := m1) (r := m2) (N0 := NT) (N1 := N1) hm1 (by omega) (by omega) (by omega) ?_ hT ?_ ?_ hNT (by omega) (by omega) ?_ (by rw [sto_e])
      · exact rT.c (fun i j1 j2 => by rw [R4 i (by omega), if_neg (by omega)])
      · exact rF.c (fun i j1 j2 => by rw [R4 i (by omega), if_neg (by omega)])
      · exact rG.c (fun i j1 j2 => by rw [sto_n (by omega)])
      · rw [R4 m1 (by omega), if_pos rfl]
  · have o5 := o4
    obtain ⟨-, -, -, -, p5, -, -, -, p9, p10, p11⟩ := o5
    obtain ⟨M', e1, e2, e3⟩ := add_cf (w := 3) (v := 0) p5
    refine l2_call e1 (ok2_ret ?_)
    exact ⟨m3, a5, by omega, by omega, by omega, Or.inr (Or.inl (o4.on e2 e3 (by simp (disch := omega) only [w32_eq, w64_eq, ix_n, ix_e, sto_n, sto_e, sto_r, zf_r, Int.toNat_natCast]) (by simp (disch := omega) only [w32_eq, w64_eq, ix_n, ix_e, sto_n, sto_e, sto_r, zf_r, Int.toNat_natCast]) (by simp (disch := omega) only [w32_eq, w64_eq, ix_n, ix_e, sto_n, sto_e, sto_r, zf_r, Int.toNat_natCast]) (by simp (disch := omega) only [w32_eq, w64_eq, ix_n, ix_e, sto_n, sto_e, sto_r, zf_r, Int.toNat_natCast, p9]) p10))⟩
  · have o5 := o4
    obtain ⟨-, -, p5, -, -, -, p9, p10, p11⟩ := o5
    obtain ⟨M', e1, e2, e3⟩ := add_cf (w := 3) (v := 0) p5
    refine l2_call e1 (ok2_ret ?_)
    exact ⟨m3, a5, by omega, by omega, by omega, Or.inr (Or.inr (o4.on e2 e3 (by simp (disch := omega) only [w32_eq, w64_eq, ix_n, ix_e, sto_n, sto_e, sto_r, zf_r, Int.toNat_natCast]) (by simp (disch := omega) only [w32_eq, w64_eq, ix_n, ix_e, sto_n, sto_e, sto_r, zf_r, Int.toNat_natCast]) (by simp (disch := omega) only [w32_eq, w64_eq, ix_n, ix_e, sto_n, sto_e, sto_r, zf_r, Int.toNat_natCast, p9]) p10 p11))⟩
/-- a faulty road's end in the component: no more moves, one more step -/
theorem wh_bad {n m a : Nat} {RW : Int → Mem → Res} {d : Int} {Mc Mr : Mem} (HC : ∀ M, CFt M → RW d M = some (0, M)) (h : Ft n m a Mc Mr) : ∃ Mc', (bcall (RW d Mc) fun _ M17 => bcall (d_Tx_add 57 3 0 M17) fun _ M19 => some (0, M19)) = some (0, Mc') ∧ Ft n m a Mc' Mr := by
  have o5 := h
  obtain ⟨-, -, p5, -, -, -, p9, p10, p11⟩ := o5
  obtain ⟨M', e1, e2, e3⟩ := add_cf (w := 3) (v := 0) p5
  exact ⟨M', e_call (HC Mc h.cf) (e_call e1 rfl), h.on e2 e3 rfl rfl p9 p10 p11⟩
theorem ct_whole {b : Nat → Int} {n D : Nat} {nm : Nat → Int} {RW RF : Int → Mem → Res} {SW : Int → Mem → Res} {SF : Int → Int → Mem → Res} {dp : Int} {N N1 NT NS : Nat} (hd : 1 ≤ dp ∧ dp ≤ 9) (hN1 : N1 + 2 ≤ N) (hNT : NT ≤ N) (hNS : NS ≤ N) (hN3 : 3 ≤ N) (hS : dp ≤ 8 → Ct b n D nm (d_Pa_parseSum RW RF dp) (d_Mo_readSum SW SF dp) QA NS) (hT : dp ≤ 8 → Ct b n D nm (d_Pa_parseTest RW RF dp) (d_Mo_readTest SW SF dp) isT NT) (HW : dp ≤ 8 → Ct b n D nm (RW (dp + 1)) (SW (dp + 1)) QA N1) (HC : dp ≤ 8 → ∀ M, CFt M → RW (dp + 1) M = some (0, M)) :
    Ct b n D nm (d_Pa_parseWhole RW RF dp) (d_Mo_readWhole SW SF dp) QA N := by
  intro s m a Mc Mr hh
  have wd : w32 dp = dp := w32_eq (by omega) (by omega)
  have hwr := gp_wrong hh
  have rbad : ∀ M : Mem, 1 ≤ M 111 48 ∧ M 111 48 ≤ 6 → k_Mo_readWhole_11 SW SF dp M = some (0, M) := fun M hM => by
    have k26 : k_Mo_readWhole_26 SW SF dp M = some (0, M) := by
      unfold k_Mo_readWhole_26
      exact e_let (e_t (by rw [w32_eq (by omega) (by omega)]; omega) rfl)
    unfold k_Mo_readWhole_11 d_Mo_fail
    by_cases c : 8 < dp
    · refine e_t (by rw [wd]; exact c) (e_let (e_clet (e_ct (by rw [w32_eq (by omega) (by omega)]; omega) (e_cs k26))))
    · exact e_f (by rw [wd]; exact c) k26
  rcases hh with ⟨t, h⟩ | h
  · have g := h
    obtain ⟨c, ⟨h1, h2, h3, h4, h5, h6, h7⟩, h8, h9, h10, h11, h12, e, k1, k2, k3, k4, k5⟩ := h
    have tb := h12.w.2.2.2.2.2.2
    have ec : d_Pa_parseWhole RW RF dp Mc = k_Pa_parseWhole_21 RW RF dp (Bz (t = 4 ∨ t = 2 ∨ t = 3 ∨ t = 40 ∨ t = 10 ∨ t = 11)) Mc := by
      unfold d_Pa_parseWhole k_Pa_parseWhole_16
      rw [blet_s, h8]
      by_cases c4 : t = 4
      · rw [if_pos (by rw [c4]; decide), Bz_t (by omega)]
      · rw [if_neg (by rw [w32_eq (by omega) (by omega)]; exact c4), s_begins g]
        refine e_cs ?_
        by_cases cb : t = 2 ∨ t = 3 ∨ t = 40 ∨ t = 10 ∨ t = 11
        · rw [Bz_t cb, if_neg (by decide), Bz_t (by omega)]
        · rw [Bz_f cb, if_pos (by decide), Bz_f (by omega)]
    rw [ec]
    unfold d_Mo_readWhole k_Pa_parseWhole_21
    refine r2_call (r_can h12) ?_
    by_cases cb : t = 4 ∨ t = 2 ∨ t = 3 ∨ t = 40 ∨ t = 10 ∨ t = 11
    · rw [Bz_t cb]
      obtain ⟨y1, -, y3⟩ := s_may (z := 1) (dp := dp) g (Or.inr rfl) hd
      refine r2_f (by decide) ?_
      by_cases d8 : dp ≤ 8
      · have hS := hS d8
        have hT := hT d8
        have HW := HW d8
        have HC := HC d8
        refine l2_call (y1 rfl d8) (l2_f (by decide) (l2_let ?_))
        rw [h8]
        unfold k_Mo_readWhole_11 k_Mo_readWhole_26
        refine r2_f (by rw [wd]; omega) (r2_let (r2_f (by rw [h11]; decide) (r2_call (r_isIf h12) ?_)))
        by_cases c4 : t = 4
        · have k5 := k5 (by omega)
          refine l2_t (by rw [c4]; decide) ?_
          refine r2_f (by rw [Bz_t c4]; decide) ?_
          refine ok2_call (gd_adv c h10 h11 k1 k3 k4 h1 h2 h3 (by omega)) (fun _ Mc1 _ Mr1 q => ?_)
          obtain ⟨a1, q1, q2, q3, q4, q5⟩ := q
          refine ok2_call (hT s m a1 Mc1 Mr1 q3) (fun _ Mc2 _ Mr2 o => ?_)
          refine exp_seq (c := 5) (kc := fun _ M11 => bcall (RW (dp + 1) M11) fun _ M13 => bcall (d_Pa_expect 6 M13) fun _ M15 => bcall (RW (dp + 1) M15) fun _ M17 => bcall (d_Tx_add 57 3 0 M17) fun _ M19 => some (0, M19)) (kr := k_Mo_readWhole_74 SW SF dp) (fun h => r_isThen h) (by decide) o ?_ ?_
          · intro m1 a2 s1 u1 u2 u3 gd u4 u5 u6 u7 u8
            obtain ⟨T, f1, f2, f3, f4⟩ := u8
            have gd' := gd
            obtain ⟨cc, ⟨i1, i2, i3, i4, i5, i6, i7⟩, i8, i9, i10, i11, i12, e', l1, l2, l3, l4, l5⟩ := gd'
            have l5 := l5 (by decide)
            have n5 := gd.n500
            unfold k_Mo_readWhole_74
            refine r2_let (r2_f (by rw [i11]; decide) (r2_let ?_))
            rw [i2]
            refine r2_call (s_mark i2 (by omega)) ?_
            refine ok2_call (gd_adv (b := b) (n := n) (D := D) (nm := nm) (s := s1) (m := m1 + 1) (e := e') (cc.on rfl rfl rfl rfl rfl (by simp (disch := omega) only [w32_eq, w64_eq, ix_n, ix_e, sto_n, sto_e, sto_r, zf_r, Int.toNat_natCast]) (by simp (disch := omega) only [w32_eq, w64_eq, ix_n, ix_e, sto_n, sto_e, sto_r, zf_r, Int.toNat_natCast]) (by simp (disch := omega) only [w32_eq, w64_eq, ix_n, ix_e, sto_n, sto_e, sto_r, zf_r, Int.toNat_natCast]) (by simp (disch := omega) only [w32_eq, w64_eq, ix_n, ix_e, sto_n, sto_e, sto_r, zf_r, Int.toNat_natCast])) i10 (by simp (disch := omega) only [w32_eq, w64_eq, ix_n, ix_e, sto_n, sto_e, sto_r, zf_r, Int.toNat_natCast, i11]) l1 l3 (by simp (disch := omega) only [w32_eq, w64_eq, ix_n, ix_e, sto_n, sto_e, sto_r, zf_r, Int.toNat_natCast, l4]) i1 sto_e (by omega) (by omega)) (fun _ Mc3 _ Mr3 z => ?_)
            obtain ⟨a3, z1, z2, z3, z4, z5⟩ := z
            refine ok2_call (HW s1 (m1 + 1) a3 Mc3 Mr3 z3) (fun _ Mc4 _ Mr4 o2 => ?_)
            refine exp_seq (c := 6) (kc := fun _ M15 => bcall (RW (dp + 1) M15) fun _ M17 => bcall (d_Tx_add 57 3 0 M17) fun _ M19 => some (0, M19)) (kr := k_Mo_readWhole_123 SW SF dp (m1 : Int)) (fun h => r_isElse h) (by decide) o2 ?_ ?_
            · intro m2 a4 s2 y1 y2 y3 gd2 y4 y5 y6 y7 y8
              obtain ⟨F, -, p2, p3, p4⟩ := y8
              refine wh_else (s1 := s1) (m1 := m1) (T := T) (F := F) hN1 hNT hN3 HW gd2 u4 y4 u1 y1 (by omega) (by omega) (by omega) (fun i hi => by rw [y6 i (by omega), z4, u6 i hi, q4]) (fun i hi => ?_) f1 f2 ?_ ?_ p2 p3 p4 ?_
              · rw [y7 i (by omega), z5, lay_b (by decide) (by omega), u7 i hi, q5]
              · exact f3.c (fun i j1 j2 => by rw [y6 i (by omega), z4])
              · exact f4.c (fun i j1 j2 => by rw [y7 i (by omega), z5, lay_b (by decide) (by omega)])
              · rw [y7 m1 (by omega), z5, sto_r (by decide), sto_e]
            · intro m2 a4 Mc' Mr' y1 y2 y3 ft
              obtain ⟨Mc'', w1, w2⟩ := wh_bad (d := dp + 1) HC ft
              have p4 := w2.2.2.2.1
              have p5 := w2.2.2.2.2.1
              refine ok2_l w1 ?_
              unfold k_Mo_readWhole_123
              refine r2_let (r2_t (by rw [p5, w32_eq (by omega) (by omega)]; omega) (ok2_ret ?_))
              exact ⟨m2, a4, by omega, by omega, by omega, Or.inr (Or.inr w2)⟩
          · intro m1 a2 Mc' Mr' u1 u2 u3 ft
            obtain ⟨Mc'', w1, w2⟩ := wh_bad (d := dp + 1) HC ft
            have p4 := w2.2.2.2.1
            have p5 := w2.2.2.2.2.1
            refine l2_call (HC Mc' ft.cf) (l2_call (cf_exp ft.cf (by decide)) ?_)
            refine ok2_l w1 ?_
            unfold k_Mo_readWhole_74
            refine r2_let (r2_t (by rw [p5, w32_eq (by omega) (by omega)]; omega) (ok2_ret ?_))
            exact ⟨m1, a2, by omega, by omega, by omega, Or.inr (Or.inr w2)⟩
        · refine l2_f (by rw [w32_eq (by omega) (by omega)]; exact c4) ?_
          refine r2_t (by rw [Bz_f c4]; decide) ?_
          exact ok2_call (hS s m a Mc Mr (Or.inl ⟨t, g⟩)) (fun _ Mc2 _ Mr2 o => ok2_ret (out_m o hNS (fun _ h => h)))
      · obtain ⟨Mc', f1, f2⟩ := y3 rfl (by omega)
        obtain ⟨Mc'', f3, f4⟩ := ft_gd (k := 5) g (by decide)
        rw [f2] at f3
        injection f3 with f3
        injection f3 with _ f3
        subst f3
        refine l2_call f1 (l2_t (by decide) ?_)
        have p4 := f4.2.2.2.1
        have p5 := f4.2.2.2.2.1
        unfold k_Mo_readWhole_11 d_Mo_fail k_Mo_readWhole_26
        refine r2_t (by rw [wd]; omega) ?_
        refine r2_let ?_
        refine r2_clet ?_
        refine r2_cf (by rw [h11]; decide) ?_
        refine r2_clet ?_
        refine r2_clet ?_
        refine r2_cs ?_
        refine r2_let ?_
        refine r2_t (by rw [p5, w32_eq (by omega) (by omega)]; omega) ?_
        refine ok2_ret ?_
        exact ⟨m, a, by omega, by omega, by omega, Or.inr (Or.inr f4)⟩
    · rw [Bz_f cb]
      obtain ⟨-, y2, -⟩ := s_may (z := 0) (dp := dp) g (Or.inl rfl) hd
      obtain ⟨Mc', f1, f2⟩ := y2 rfl
      obtain ⟨Mc'', Mr', e1, e2, e3⟩ := hwr
      rw [f2] at e1
      injection e1 with e1
      injection e1 with _ e1
      subst e1
      have p4 := e3.2.2.2.1
      have p5 := e3.2.2.2.2.1
      refine l2_call f1 (l2_t (by decide) ?_)
      refine r2_t (by decide) (r2_call e2 ?_)
      refine ok2_r (rbad Mr' (by rw [p5]; exact p4)) (ok2_ret ?_)
      exact ⟨m, a, by omega, by omega, by omega, Or.inr (Or.inr e3)⟩
  · obtain ⟨Mc', Mr', e1, e2, e3⟩ := hwr
    rw [cf_fail h.cf] at e1
    injection e1 with e1
    injection e1 with _ e1
    subst e1
    have p4 := e3.2.2.2.1
    have p5 := e3.2.2.2.2.1
    refine ok2_l (cf_whole h.cf) ?_
    unfold d_Mo_readWhole
    refine r2_call (r_can h.tr) (r2_t (by decide) (r2_call e2 ?_))
    refine ok2_r (rbad Mr' (by rw [p5]; exact p4)) (ok2_ret ?_)
    exact ⟨m, a, by omega, by omega, by omega, Or.inr (Or.inr e3)⟩
/-- deeper, in least and most -/
theorem ct_deep {b : Nat → Int} {n D : Nat} {nm : Nat → Int} {RW RF : Int → Mem → Res} {SW : Int → Mem → Res} {SF : Int → Int → Mem → Res} {dp : Int} {N : Nat} (hd : 1 ≤ dp ∧ dp ≤ 9) (hS : dp ≤ 8 → Ct b n D nm (d_Pa_parseSum RW RF dp) (d_Mo_readSum SW SF dp) QA N) :
    Ct b n D nm (d_Pa_parseSumOfFew RW RF dp) (d_Mo_readDeeper SW SF dp) QA N := by
  intro s m a Mc Mr hh
  have wd : w32 dp = dp := w32_eq (by omega) (by omega)
  have hwr := gp_wrong hh
  have rbad : ∀ M : Mem, 1 ≤ M 111 48 ∧ M 111 48 ≤ 6 → k_Mo_readDeeper_11 SW SF dp M = some (0, M) := fun M hM => by
    have k26 : k_Mo_readDeeper_26 SW SF dp M = some (0, M) := by
      unfold k_Mo_readDeeper_26
      exact e_let (e_f (by rw [w32_eq (by omega) (by omega)]; omega) rfl)
    unfold k_Mo_readDeeper_11 d_Mo_fail
    by_cases c : 8 < dp
    · refine e_t (by rw [wd]; exact c) (e_let (e_clet (e_ct (by rw [w32_eq (by omega) (by omega)]; omega) (e_cs k26))))
    · exact e_f (by rw [wd]; exact c) k26
  rcases hh with ⟨t, h⟩ | h
  · have g := h
    obtain ⟨c, ⟨h1, h2, h3, h4, h5, h6, h7⟩, h8, h9, h10, h11, h12, e, k1, k2, k3, k4, k5⟩ := h
    unfold d_Pa_parseSumOfFew d_Mo_readDeeper
    refine l2_call (s_begins g) (r2_call (r_canS h12) ?_)
    by_cases cb : t = 2 ∨ t = 3 ∨ t = 40 ∨ t = 10 ∨ t = 11
    · rw [Bz_t cb]
      obtain ⟨y1, -, y3⟩ := s_may (z := 1) (dp := dp) g (Or.inr rfl) hd
      refine r2_f (by decide) ?_
      by_cases d8 : dp ≤ 8
      · refine l2_call (y1 rfl d8) (l2_f (by decide) ?_)
        unfold k_Mo_readDeeper_11 k_Mo_readDeeper_26
        refine r2_f (by rw [wd]; omega) (r2_let (r2_t (by rw [h11]; decide) ?_))
        exact ok2_call (hS d8 s m a Mc Mr (Or.inl ⟨t, g⟩)) (fun _ Mc2 _ Mr2 o => ok2_ret o)
      · obtain ⟨Mc', f1, f2⟩ := y3 rfl (by omega)
        obtain ⟨Mc'', f3, f4⟩ := ft_gd (k := 5) g (by decide)
        rw [f2] at f3
        injection f3 with f3
        injection f3 with _ f3
        subst f3
        refine l2_call f1 (l2_t (by decide) ?_)
        have p4 := f4.2.2.2.1
        have p5 := f4.2.2.2.2.1
        unfold k_Mo_readDeeper_11 d_Mo_fail k_Mo_readDeeper_26
        refine r2_t (by rw [wd]; omega) ?_
        refine r2_let ?_
        refine r2_clet ?_
        refine r2_cf (by rw [h11]; decide) ?_
        refine r2_clet ?_
        refine r2_clet ?_
        refine r2_cs ?_
        refine r2_let ?_
        refine r2_f (by rw [p5, w32_eq (by omega) (by omega)]; omega) ?_
        refine ok2_ret ?_
        exact ⟨m, a, by omega, by omega, by omega, Or.inr (Or.inr f4)⟩
    · rw [Bz_f cb]
      obtain ⟨-, y2, -⟩ := s_may (z := 0) (dp := dp) g (Or.inl rfl) hd
      obtain ⟨Mc', f1, f2⟩ := y2 rfl
      obtain ⟨Mc'', Mr', e1, e2, e3⟩ := hwr
      rw [f2] at e1
      injection e1 with e1
      injection e1 with _ e1
      subst e1
      have p4 := e3.2.2.2.1
      have p5 := e3.2.2.2.2.1
      refine l2_call f1 (l2_t (by decide) ?_)
      refine r2_t (by decide) (r2_call e2 ?_)
      refine ok2_r (rbad Mr' (by rw [p5]; exact p4)) (ok2_ret ?_)
      exact ⟨m, a, by omega, by omega, by omega, Or.inr (Or.inr e3)⟩
  · obtain ⟨Mc', Mr', e1, e2, e3⟩ := hwr
    rw [cf_fail h.cf] at e1
    injection e1 with e1
    injection e1 with _ e1
    subst e1
    have p4 := e3.2.2.2.1
    have p5 := e3.2.2.2.2.1
    refine ok2_l (cf_deep h.cf) ?_
    unfold d_Mo_readDeeper
    refine r2_call (r_canS h.tr) (r2_t (by decide) (r2_call e2 ?_))
    refine ok2_r (rbad Mr' (by rw [p5]; exact p4)) (ok2_ret ?_)
    exact ⟨m, a, by omega, by omega, by omega, Or.inr (Or.inr e3)⟩
