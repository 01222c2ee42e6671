/-! both read the same grammar: tests, wholes -/
theorem isS_any {c : Int} {M : Mem} : ∃ r, d_Mo_isSign c M = some (r, M) ∧ (r = 0 ∨ r = 1) := by
  unfold d_Mo_isSign
  by_cases c1 : w32 (M 111 50) = 3
  · by_cases c2 : w32 (M 111 53) = w32 c
    · exact ⟨1, by rw [blet_s, if_pos c1, blet_s, if_pos c2], Or.inr rfl⟩
    · exact ⟨0, by rw [blet_s, if_pos c1, blet_s, if_neg c2], Or.inl rfl⟩
  · exact ⟨0, by rw [blet_s, if_neg c1], Or.inl rfl⟩
theorem ct_one24 {b : Nat → Int} {n D : Nat} {nm : Nat → Int} {RW RF : Int → Mem → Res} {SW : Int → Mem → Res} {SF : Int → Int → Mem → Res} {dp v : Int} {N : Nat} (hN : 1 ≤ N) (hv : v = 0 ∨ v = 1) (hS : Ct b n D nm (d_Pa_parseSum RW RF dp) (d_Mo_readSum SW SF dp) QA N) {s m a : Nat} {Mc Mr : Mem} (h : GP b n D nm s m a Mc Mr) :
    Ok2 (k_Pa_parseOne_24 RW RF dp v Mc) (k_Mo_readOne_13 SW SF dp v Mr) (Out b n D nm isT (N + 1) s m a a Mc Mr) := by
  unfold k_Pa_parseOne_24 k_Mo_readOne_13
  refine ok2_call (hS s m a Mc Mr h) (fun _ Mc1 _ Mr1 o => ?_)
  obtain ⟨m', a', o1, o2, o3, o4⟩ := o
  have bad : ∀ t x u : Int, t ≠ 60 → t ≠ 61 → t ≠ 62 → w32 (Mc1 55 8) = t → Mr1 111 48 = 0 → TR t x u Mr1 → (∃ Mc' Mr', d_Pa_fail 2 Mc1 = some (0, Mc') ∧ d_Mo_wrong Mr1 = some (0, Mr') ∧ Ft n m' a' Mc' Mr') → Ok2 (blet (Mc1 55 8) fun v3 => bcall (d_Pa_stepOfCompares v3 Mc1) fun v4 M5 => if w32 v4 = (-1) then (bcall (d_Pa_fail 2 M5) fun v7 M8 => some (0, M8)) else (bcall (d_Pa_advance M5) fun v9 M10 => bcall (d_Pa_parseSum RW RF dp M10) fun v11 M12 => bcall (d_Tx_add 57 v4 v M12) fun v13 M14 => some (0, M14))) (bcall (d_Mo_isSign 60 Mr1) fun v3 M4 => if w32 v3 = 0 then (bcall (d_Mo_isSign 62 M4) fun v6 M7 => if w32 v6 = 0 then (bcall (d_Mo_isSign 61 M7) fun v9 M10 => if w32 v9 = 0 then (k_Mo_readOne_61 SW SF dp v (-1) M10) else (k_Mo_readOne_61 SW SF dp v 12 M10)) else (k_Mo_readOne_61 SW SF dp v 11 M7)) else (k_Mo_readOne_61 SW SF dp v 10 M4)) (Out b n D nm isT (N + 1) s m a a Mc Mr) := by
    rintro t x u t1 t2 t3 h2 h3 h4 ⟨Mc', Mr', h5, h6, h7⟩
    have e1 : d_Pa_stepOfCompares (Mc1 55 8) Mc1 = some (-1, Mc1) := by
      unfold d_Pa_stepOfCompares
      rw [h2, if_neg t1, if_neg t2, if_neg t3]
    refine l2_let (l2_call e1 (l2_t (by decide) (l2_call h5 ?_)))
    refine r2_call (r_isS h4 (by decide)) (r2_t (by rw [Bz_f t1]; decide) (r2_call (r_isS h4 (by decide)) (r2_t (by rw [Bz_f t3]; decide) (r2_call (r_isS h4 (by decide)) (r2_t (by rw [Bz_f t2]; decide) ?_)))))
    unfold k_Mo_readOne_61 k_Mo_readOne_77
    have p4 := h7.2.2.2.1
    have p5 := h7.2.2.2.2.1
    refine r2_let (r2_t (by rw [h3]; decide) (r2_t (by decide) (r2_call h6 (r2_let (r2_t (by rw [p5, w32_eq (by omega) (by omega)]; omega) (ok2_ret ?_))))))
    exact ⟨m', a', o1, o2, o3, Or.inr (Or.inr h7)⟩
  rcases o4 with ⟨t2, s2, gd, g1, g2, g3, g4, F, g5, g6⟩ | o4 | o4
  · have gd' := gd
    obtain ⟨-, -, h8, h9, h10, h11, h12, -⟩ := gd'
    have tb := h12.w.2.2.2.2.2.2
    have fin : ∀ w : Int, 13 ≤ w ∧ w ≤ 15 → t2 ≠ 0 → Ok2 (bcall (d_Pa_advance Mc1) fun _ M10 => bcall (d_Pa_parseSum RW RF dp M10) fun _ M12 => bcall (d_Tx_add 57 w v M12) fun _ M14 => some (0, M14)) (k_Mo_readOne_61 SW SF dp v (rop w) Mr1) (Out b n D nm isT (N + 1) s m a a Mc Mr) := fun w hw t0 => by
      have er : rop w = w - 3 := by unfold rop; rw [if_neg (by omega), if_neg (by omega)]
      have e1 : k_Mo_readOne_61 SW SF dp v (rop w) Mr1 = (bcall (d_Mo_next Mr1) fun _ M4 => bcall (d_Mo_readSum SW SF dp M4) fun _ M6 => bcall (d_Mo_mark (rop w) v M6) fun _ M8 => some (0, M8)) := by
        unfold k_Mo_readOne_61 k_Mo_readOne_77 k_Mo_readOne_105
        refine e_let (e_t (by rw [h11]; decide) (e_f (by rw [er, w32_eq (by omega) (by omega)]; omega) (e_let (e_f (by rw [h11]; decide) ?_))))
        rcases hv with e | e <;> subst e <;> rfl
      rw [e1]
      refine bin_step (Mc0 := Mc) (Mr0 := Mr) (a0 := a) (s0 := s) (m0 := m) (Q := isT) (N := N + 1) hS (by omega) (by omega) gd t0 g1 o1 o2 g2 g3 g4 ⟨g6.1, g6.2.1.m (by omega), g6.2.2.m (by omega)⟩ (by omega) (by omega) (fun q => by omega) (fun G _ => isT_cmp hw.1) (fun Mc' Mr' o' => ok2_ret ?_)
      obtain ⟨m2, a2, p1, p2, p3, p4⟩ := o'
      exact ⟨m2, a2, p1, p2, by omega, p4⟩
    by_cases c1 : t2 = 60
    · have e1 : d_Pa_stepOfCompares (Mc1 55 8) Mc1 = some (13, Mc1) := by rw [h8, c1]; rfl
      refine l2_let (l2_call e1 (l2_f (by decide) ?_))
      refine r2_call (r_isS h12 (by decide)) (r2_f (by rw [Bz_t c1]; decide) ?_)
      exact fin 13 (by decide) (by omega)
    by_cases c2 : t2 = 62
    · have e1 : d_Pa_stepOfCompares (Mc1 55 8) Mc1 = some (14, Mc1) := by rw [h8, c2]; rfl
      refine l2_let (l2_call e1 (l2_f (by decide) ?_))
      refine r2_call (r_isS h12 (by decide)) (r2_t (by rw [Bz_f c1]; decide) (r2_call (r_isS h12 (by decide)) (r2_f (by rw [Bz_t c2]; decide) ?_)))
      exact fin 14 (by decide) (by omega)
    by_cases c3 : t2 = 61
    · have e1 : d_Pa_stepOfCompares (Mc1 55 8) Mc1 = some (15, Mc1) := by rw [h8, c3]; rfl
      refine l2_let (l2_call e1 (l2_f (by decide) ?_))
      refine r2_call (r_isS h12 (by decide)) (r2_t (by rw [Bz_f c1]; decide) (r2_call (r_isS h12 (by decide)) (r2_t (by rw [Bz_f c2]; decide) (r2_call (r_isS h12 (by decide)) (r2_f (by rw [Bz_t c3]; decide) ?_)))))
      exact fin 15 (by decide) (by omega)
    exact bad t2 _ _ c1 c3 c2 (by rw [h8, w32_eq (by omega) (by omega)]) h11 h12 (gp_wrong (Or.inl ⟨t2, gd⟩))
  · exact bad 1 _ _ (by decide) (by decide) (by decide) (by rw [o4.2.2.2.1]; decide) o4.2.2.2.2.2.2.2.1 o4.tr (gp_wrong (b := b) (D := D) (nm := nm) (s := s) (Or.inr o4))
  · have e1 : d_Pa_stepOfCompares (Mc1 55 8) Mc1 = some (-1, Mc1) := by rw [o4.2.1]; rfl
    refine l2_let (l2_call e1 (l2_t (by decide) (l2_call (cf_fail o4.cf) ?_)))
    have p4 := o4.2.2.2.1
    have p5 := o4.2.2.2.2.1
    have k61 : ∀ z : Int, Ok2 (some (0, Mc1)) (k_Mo_readOne_61 SW SF dp v z Mr1) (Out b n D nm isT (N + 1) s m a a Mc Mr) := fun z => by
      unfold k_Mo_readOne_61 k_Mo_readOne_77
      refine r2_let (r2_f (by rw [p5, w32_eq (by omega) (by omega)]; omega) (r2_let (r2_t (by rw [p5, w32_eq (by omega) (by omega)]; omega) (ok2_ret ?_))))
      exact ⟨m', a', o1, o2, o3, Or.inr (Or.inr o4)⟩
    obtain ⟨r1, x1, y1⟩ := isS_any (c := 60) (M := Mr1)
    obtain ⟨r2, x2, y2⟩ := isS_any (c := 62) (M := Mr1)
    obtain ⟨r3, x3, y3⟩ := isS_any (c := 61) (M := Mr1)
    refine r2_call x1 ?_
    rcases y1 with y1 | y1 <;> subst y1
    · refine r2_t (by decide) (r2_call x2 ?_)
      rcases y2 with y2 | y2 <;> subst y2
      · refine r2_t (by decide) (r2_call x3 ?_)
        rcases y3 with y3 | y3 <;> subst y3
        · exact r2_t (by decide) (k61 _)
        · exact r2_f (by decide) (k61 _)
      · exact r2_f (by decide) (k61 _)
    · exact r2_f (by decide) (k61 _)
theorem ct_one {b : Nat → Int} {n D : Nat} {nm : Nat → Int} {RW RF : Int → Mem → Res} {SW : Int → Mem → Res} {SF : Int → Int → Mem → Res} {dp : Int} {N : Nat} (hN : 1 ≤ N) (hS : Ct b n D nm (d_Pa_parseSum RW RF dp) (d_Mo_readSum SW SF dp) QA N) :
    Ct b n D nm (d_Pa_parseOne RW RF dp) (d_Mo_readOne SW SF dp) isT (N + 1) := by
  intro s m a Mc Mr hh
  unfold d_Pa_parseOne d_Mo_readOne k_Pa_parseOne_14
  have hh' := hh
  rcases hh with ⟨t, h⟩ | h
  · have g := h
    obtain ⟨c, ⟨h1, h2, h3, h4, h5, h6, h7⟩, h8, h9, h10, h11, h12, e, k1, k2, k3, k4, k5⟩ := h
    have tb := h12.w.2.2.2.2.2.2
    by_cases t9 : t = 9
    · have k5 := k5 (by omega)
      refine l2_let (l2_t (by rw [h8, t9]; decide) (l2_t (by decide) ?_))
      refine r2_call (r_isNot h12) (r2_f (by rw [Bz_t t9]; decide) ?_)
      rw [Bz_t t9]
      refine ok2_call (gd_adv c h10 h11 k1 k3 k4 h1 h2 h3 (by omega)) (fun _ Mc1 _ Mr1 q => ?_)
      obtain ⟨a1, q1, q2, q3, q4, q5⟩ := q
      refine ok2_m (ct_one24 hN (Or.inr rfl) hS q3) (fun Mc' Mr' o => ?_)
      obtain ⟨m', a', o1, o2, o3, o4⟩ := o
      refine ⟨m', a', o1, by omega, by omega, ?_⟩
      rcases o4 with ⟨t2, s2, gd, g1, g2, g3, g4, F, g5, g6⟩ | o4
      · exact Or.inl ⟨t2, s2, gd, g1, g2, fun i hi => by rw [g3 i hi, q4], fun i hi => by rw [g4 i hi, q5], F, g5, g6⟩
      · exact Or.inr o4
    · refine l2_let (l2_f (by rw [h8, w32_eq (by omega) (by omega)]; exact t9) (l2_f (by decide) ?_))
      refine r2_call (r_isNot h12) (r2_t (by rw [Bz_f t9]; decide) ?_)
      rw [Bz_f t9]
      exact ct_one24 hN (Or.inl rfl) hS hh'
  · refine l2_let (l2_f (by rw [h.2.2.2.1]; decide) (l2_f (by decide) ?_))
    refine r2_call (r_isNot h.tr) (r2_t (by rw [Bz_f (by decide)]; decide) ?_)
    rw [Bz_f (by decide)]
    exact ct_one24 hN (Or.inl rfl) hS hh'
/-- tests -/
theorem ct_testL {b : Nat → Int} {n D : Nat} {nm : Nat → Int} {RW RF : Int → Mem → Res} {SW : Int → Mem → Res} {SF : Int → Int → Mem → Res} {dp j : Int} {N s m a : Nat} {Mc0 Mr0 Mc Mr : Mem} (n5 : n ≤ 500) (hN : 1 ≤ N) (hj : j = 7 ∨ j = 8) (hS : Ct b n D nm (d_Pa_parseOne RW RF dp) (d_Mo_readOne SW SF dp) isT N) (o : Out b n D nm isT (N + 1) s m a a Mc0 Mr0 Mc Mr) :
    Ok2 (fix (fun _ _ _ _ => none) (k_Pa_parseTest_25 RW RF) FU dp j 0 Mc) (fix (fun _ _ _ => none) (k_Mo_readTest_18 SW SF) FU dp (Bz (j = 7)) Mr) (Out b n D nm isT (N + 1) s m a a Mc0 Mr0) := by
  have wj : w32 j = j := w32_eq (by omega) (by omega)
  refine loop_bin (S := fun t => t = j) (op := fun _ => if j = 7 then 11 else 12) (LC := fun f i M => fix (fun _ _ _ _ => none) (k_Pa_parseTest_25 RW RF) f dp j i M) (LR := fun g M => fix (fun _ _ _ => none) (k_Mo_readTest_18 SW SF) g dp (Bz (j = 7)) M) hS ?_ (by omega) (by omega) (by omega) ?_ ?_ ?_ ?_ ?_ (n + 1) FU FU 0 a Mc Mr (by omega) (by unfold FU; omega) (by unfold FU; omega) (by omega) o (by omega)
  · intro t ht
    show 4 ≤ (if j = 7 then (11 : Int) else 12) ∧ (if j = 7 then (11 : Int) else 12) ≤ 12
    split <;> omega
  · intro t F ht q _
    exact q
  · intro t F G ht q1 q2
    refine isT_join ?_ q1 q2
    show (if j = 7 then (11 : Int) else 12) = 11 ∨ (if j = 7 then (11 : Int) else 12) = 12
    split <;> omega
  · intro f t s m a i Mc Mr gd nS
    obtain ⟨cc, ⟨i1, i2, i3, i4, i5, i6, i7⟩, i8, i9, i10, i11, i12, e', l1, l2, l3, l4, l5⟩ := gd
    have tb := i12.w.2.2.2.2.2.2
    have nS' : t ≠ j := nS
    refine ⟨?_, ?_⟩
    · try dsimp only
      rw [fix_s]
      unfold k_Pa_parseTest_25
      refine e_let (e_sp (fun _ => ?_) (fun _ => rfl))
      refine e_let (e_f (by rw [i8, wj, w32_eq (by omega) (by omega)]; exact nS') rfl)
    · try dsimp only
      rw [fix_s]
      unfold k_Mo_readTest_18
      rcases hj with e | e <;> subst e
      · refine e_let (e_t (by rw [i11]; decide) (e_f (by decide) (e_call (r_isAnd i12) (e_t (by rw [Bz_f nS']; decide) rfl))))
      · refine e_let (e_t (by rw [i11]; decide) (e_t (by decide) (e_call (r_isOr i12) (e_t (by rw [Bz_f nS']; decide) rfl))))
  · intro f m a i Mc Mr hp
    have hcf : CFt Mc := by
      rcases hp with h | h
      · exact h.cf
      · exact h.cf
    refine ⟨?_, ?_⟩
    · try dsimp only
      rw [fix_s]
      unfold k_Pa_parseTest_25
      refine e_let (e_sp (fun _ => ?_) (fun _ => rfl))
      refine e_let (e_f (by rw [hcf.2, wj, show w32 1 = 1 from rfl]; omega) rfl)
    · try dsimp only
      rw [fix_s]
      unfold k_Mo_readTest_18
      rcases hp with h | h
      · have h48 := h.2.2.2.2.2.2.2.1
        have htr := h.tr
        rcases hj with e | e <;> subst e
        · refine e_let (e_t (by rw [h48]; decide) (e_f (by decide) (e_call (r_isAnd htr) (e_t (by decide) rfl))))
        · refine e_let (e_t (by rw [h48]; decide) (e_t (by decide) (e_call (r_isOr htr) (e_t (by decide) rfl))))
      · have h4 := h.2.2.2.1
        have h5 := h.2.2.2.2.1
        exact e_let (e_f (by rw [h5, w32_eq (by omega) (by omega)]; omega) rfl)
  · intro f g t s m a i Mc Mr gd hS' hi
    obtain ⟨cc, ⟨i1, i2, i3, i4, i5, i6, i7⟩, i8, i9, i10, i11, i12, e', l1, l2, l3, l4, l5⟩ := gd
    have h6 := cc.2.2.1.1
    have tj : t = j := hS'
    refine ⟨?_, ?_⟩
    · try dsimp only
      rw [fix_s]
      unfold k_Pa_parseTest_25 k_Pa_parseTest_67
      refine e_let (e_t (by rw [h6, w32_eq (by omega) (by omega), w32_eq (by omega) (by omega)]; omega) (e_let (e_t (by rw [i8, tj]) ?_)))
      rcases hj with e | e <;> subst e <;> rfl
    · try dsimp only
      rw [fix_s]
      unfold k_Mo_readTest_18 k_Mo_readTest_46 k_Mo_readTest_67
      rcases hj with e | e <;> subst e
      · refine e_let (e_t (by rw [i11]; decide) (e_f (by decide) (e_call (r_isAnd i12) (e_f (by rw [Bz_t tj]; decide) ?_))))
        rfl
      · refine e_let (e_t (by rw [i11]; decide) (e_t (by decide) (e_call (r_isOr i12) (e_f (by rw [Bz_t tj]; decide) ?_))))
        rfl
theorem ct_test {b : Nat → Int} {n D : Nat} {nm : Nat → Int} {RW RF : Int → Mem → Res} {SW : Int → Mem → Res} {SF : Int → Int → Mem → Res} {dp : Int} {N : Nat} (hN : 1 ≤ N) (hS : Ct b n D nm (d_Pa_parseOne RW RF dp) (d_Mo_readOne SW SF dp) isT N) :
    Ct b n D nm (d_Pa_parseTest RW RF dp) (d_Mo_readTest SW SF dp) isT (N + 1) := by
  intro s m a Mc Mr hh
  have n5 : n ≤ 500 := by
    rcases hh with ⟨t, h⟩ | h
    · exact h.n500
    · exact h.1
  unfold d_Pa_parseTest d_Mo_readTest k_Pa_parseTest_23
  refine ok2_call (hS s m a Mc Mr hh) (fun _ Mc1 _ Mr1 o => ?_)
  have o' := out_m (Q' := isT) (N' := N + 1) o (by omega) (fun _ h => h)
  have oo := o'
  obtain ⟨m', a', o1, o2, o3, o4⟩ := o'
  rcases o4 with ⟨t2, s2, gd, g⟩ | o4 | o4
  · have gd' := gd
    obtain ⟨-, -, h8, h9, h10, h11, h12, -⟩ := gd'
    have tb := h12.w.2.2.2.2.2.2
    refine r2_let (r2_f (by rw [h11]; decide) (r2_call (r_isAnd h12) ?_))
    refine l2_let ?_
    rw [h8]
    by_cases c7 : t2 = 7
    · refine l2_t (by rw [c7]; decide) ?_
      have q := ct_testL n5 hN (Or.inl rfl) hS oo
      rw [c7]
      exact q
    · refine l2_f (by rw [w32_eq (by omega) (by omega)]; exact c7) ?_
      by_cases c8 : t2 = 8
      · refine l2_t (by rw [c8]; decide) ?_
        have q := ct_testL n5 hN (Or.inr rfl) hS oo
        rw [c8]
        exact q
      · refine l2_f (by rw [w32_eq (by omega) (by omega)]; exact c8) ?_
        refine ok2_r (r2' := some (0, Mr1)) ?_ (ok2_ret oo)
        rw [Bz_f c7, show FU = 4294967295 + 1 from rfl, fix_s]
        unfold k_Mo_readTest_18
        exact e_let (e_t (by rw [h11]; decide) (e_t (by decide) (e_call (r_isOr h12) (e_t (by rw [Bz_f c8]; decide) rfl))))
  · have p48 := o4.2.2.2.2.2.2.2.1
    refine r2_let (r2_f (by rw [p48]; decide) (r2_call (r_isAnd o4.tr) ?_))
    refine l2_let (l2_f (by rw [o4.2.2.2.1]; decide) (l2_f (by rw [o4.2.2.2.1]; decide) ?_))
    refine ok2_r (r2' := some (0, Mr1)) ?_ (ok2_ret oo)
    rw [show FU = 4294967295 + 1 from rfl, fix_s]
    unfold k_Mo_readTest_18
    exact e_let (e_t (by rw [p48]; decide) (e_t (by decide) (e_call (r_isOr o4.tr) (e_t (by decide) rfl))))
  · have p4 := o4.2.2.2.1
    have p5 := o4.2.2.2.2.1
    refine r2_let (r2_t (by rw [p5, w32_eq (by omega) (by omega)]; omega) ?_)
    refine l2_let (l2_f (by rw [o4.2.1]; decide) (l2_f (by rw [o4.2.1]; decide) ?_))
    exact ok2_ret oo
/-- what begins -/
theorem s_begins {b : Nat → Int} {n D : Nat} {nm : Nat → Int} {t : Int} {s m a : Nat} {Mc Mr : Mem} (h : Gd b n D nm t s m a Mc Mr) : d_Pa_beginsSum Mc = some (Bz (t = 2 ∨ t = 3 ∨ t = 40 ∨ t = 10 ∨ t = 11), Mc) := by
  have h8 := h.2.2.1
  have tb := h.tr.w.2.2.2.2.2.2
  unfold d_Pa_beginsSum k_Pa_beginsSum_43
  by_cases c1 : t = 2
  · repeat (first | with_reducible refine e_let ?_ | with_reducible refine e_cs ?_ | with_reducible refine e_clet ?_ | with_reducible refine e_cc ?_ | (with_reducible refine e_chk ?_ ?_; · (first | omega | ((try simp (disch := omega) only [w32_eq, w64_eq, ix_n, ix_e, sto_n, sto_e, sto_r, zf_r, Int.toNat_natCast, true_or, or_true, eq_self, h8]) <;> (first | omega | decide)))) | (with_reducible refine e_cchk ?_ ?_; · (first | omega | ((try simp (disch := omega) only [w32_eq, w64_eq, ix_n, ix_e, sto_n, sto_e, sto_r, zf_r, Int.toNat_natCast, true_or, or_true, eq_self, h8]) <;> (first | omega | decide)))) | (with_reducible refine e_t ?_ ?_; · (first | omega | ((try simp (disch := omega) only [w32_eq, w64_eq, ix_n, ix_e, sto_n, sto_e, sto_r, zf_r, Int.toNat_natCast, true_or, or_true, eq_self, h8]) <;> (first | omega | decide)))) | (with_reducible refine e_f ?_ ?_; · (first | omega | ((try simp (disch := omega) only [w32_eq, w64_eq, ix_n, ix_e, sto_n, sto_e, sto_r, zf_r, Int.toNat_natCast, true_or, or_true, eq_self, h8]) <;> (first | omega | decide)))) | (with_reducible refine e_ct ?_ ?_; · (first | omega | ((try simp (disch := omega) only [w32_eq, w64_eq, ix_n, ix_e, sto_n, sto_e, sto_r, zf_r, Int.toNat_natCast, true_or, or_true, eq_self, h8]) <;> (first | omega | decide)))) | (with_reducible refine e_cf ?_ ?_; · (first | omega | ((try simp (disch := omega) only [w32_eq, w64_eq, ix_n, ix_e, sto_n, sto_e, sto_r, zf_r, Int.toNat_natCast, true_or, or_true, eq_self, h8]) <;> (first | omega | decide)))))
    rw [Bz_t (by omega)]
  by_cases c2 : t = 3
  · repeat (first | with_reducible refine e_let ?_ | with_reducible refine e_cs ?_ | with_reducible refine e_clet ?_ | with_reducible refine e_cc ?_ | (with_reducible refine e_chk ?_ ?_; · (first | omega | ((try simp (disch := omega) only [w32_eq, w64_eq, ix_n, ix_e, sto_n, sto_e, sto_r, zf_r, Int.toNat_natCast, true_or, or_true, eq_self, h8]) <;> (first | omega | decide)))) | (with_reducible refine e_cchk ?_ ?_; · (first | omega | ((try simp (disch := omega) only [w32_eq, w64_eq, ix_n, ix_e, sto_n, sto_e, sto_r, zf_r, Int.toNat_natCast, true_or, or_true, eq_self, h8]) <;> (first | omega | decide)))) | (with_reducible refine e_t ?_ ?_; · (first | omega | ((try simp (disch := omega) only [w32_eq, w64_eq, ix_n, ix_e, sto_n, sto_e, sto_r, zf_r, Int.toNat_natCast, true_or, or_true, eq_self, h8]) <;> (first | omega | decide)))) | (with_reducible refine e_f ?_ ?_; · (first | omega | ((try simp (disch := omega) only [w32_eq, w64_eq, ix_n, ix_e, sto_n, sto_e, sto_r, zf_r, Int.toNat_natCast, true_or, or_true, eq_self, h8]) <;> (first | omega | decide)))) | (with_reducible refine e_ct ?_ ?_; · (first | omega | ((try simp (disch := omega) only [w32_eq, w64_eq, ix_n, ix_e, sto_n, sto_e, sto_r, zf_r, Int.toNat_natCast, true_or, or_true, eq_self, h8]) <;> (first | omega | decide)))) | (with_reducible refine e_cf ?_ ?_; · (first | omega | ((try simp (disch := omega) only [w32_eq, w64_eq, ix_n, ix_e, sto_n, sto_e, sto_r, zf_r, Int.toNat_natCast, true_or, or_true, eq_self, h8]) <;> (first | omega | decide)))))
    rw [Bz_t (by omega)]
  by_cases c3 : t = 40
  · repeat (first | with_reducible refine e_let ?_ | with_reducible refine e_cs ?_ | with_reducible refine e_clet ?_ | with_reducible refine e_cc ?_ | (with_reducible refine e_chk ?_ ?_; · (first | omega | ((try simp (disch := omega) only [w32_eq, w64_eq, ix_n, ix_e, sto_n, sto_e, sto_r, zf_r, Int.toNat_natCast, true_or, or_true, eq_self, h8]) <;> (first | omega | decide)))) | (with_reducible refine e_cchk ?_ ?_; · (first | omega | ((try simp (disch := omega) only [w32_eq, w64_eq, ix_n, ix_e, sto_n, sto_e, sto_r, zf_r, Int.toNat_natCast, true_or, or_true, eq_self, h8]) <;> (first | omega | decide)))) | (with_reducible refine e_t ?_ ?_; · (first | omega | ((try simp (disch := omega) only [w32_eq, w64_eq, ix_n, ix_e, sto_n, sto_e, sto_r, zf_r, Int.toNat_natCast, true_or, or_true, eq_self, h8]) <;> (first | omega | decide)))) | (with_reducible refine e_f ?_ ?_; · (first | omega | ((try simp (disch := omega) only [w32_eq, w64_eq, ix_n, ix_e, sto_n, sto_e, sto_r, zf_r, Int.toNat_natCast, true_or, or_true, eq_self, h8]) <;> (first | omega | decide)))) | (with_reducible refine e_ct ?_ ?_; · (first | omega | ((try simp (disch := omega) only [w32_eq, w64_eq, ix_n, ix_e, sto_n, sto_e, sto_r, zf_r, Int.toNat_natCast, true_or, or_true, eq_self, h8]) <;> (first | omega | decide)))) | (with_reducible refine e_cf ?_ ?_; · (first | omega | ((try simp (disch := omega) only [w32_eq, w64_eq, ix_n, ix_e, sto_n, sto_e, sto_r, zf_r, Int.toNat_natCast, true_or, or_true, eq_self, h8]) <;> (first | omega | decide)))))
    rw [Bz_t (by omega)]
  by_cases c4 : t = 10
  · repeat (first | with_reducible refine e_let ?_ | with_reducible refine e_cs ?_ | with_reducible refine e_clet ?_ | with_reducible refine e_cc ?_ | (with_reducible refine e_chk ?_ ?_; · (first | omega | ((try simp (disch := omega) only [w32_eq, w64_eq, ix_n, ix_e, sto_n, sto_e, sto_r, zf_r, Int.toNat_natCast, true_or, or_true, eq_self, h8]) <;> (first | omega | decide)))) | (with_reducible refine e_cchk ?_ ?_; · (first | omega | ((try simp (disch := omega) only [w32_eq, w64_eq, ix_n, ix_e, sto_n, sto_e, sto_r, zf_r, Int.toNat_natCast, true_or, or_true, eq_self, h8]) <;> (first | omega | decide)))) | (with_reducible refine e_t ?_ ?_; · (first | omega | ((try simp (disch := omega) only [w32_eq, w64_eq, ix_n, ix_e, sto_n, sto_e, sto_r, zf_r, Int.toNat_natCast, true_or, or_true, eq_self, h8]) <;> (first | omega | decide)))) | (with_reducible refine e_f ?_ ?_; · (first | omega | ((try simp (disch := omega) only [w32_eq, w64_eq, ix_n, ix_e, sto_n, sto_e, sto_r, zf_r, Int.toNat_natCast, true_or, or_true, eq_self, h8]) <;> (first | omega | decide)))) | (with_reducible refine e_ct ?_ ?_; · (first | omega | ((try simp (disch := omega) only [w32_eq, w64_eq, ix_n, ix_e, sto_n, sto_e, sto_r, zf_r, Int.toNat_natCast, true_or, or_true, eq_self, h8]) <;> (first | omega | decide)))) | (with_reducible refine e_cf ?_ ?_; · (first | omega | ((try simp (disch := omega) only [w32_eq, w64_eq, ix_n, ix_e, sto_n, sto_e, sto_r, zf_r, Int.toNat_natCast, true_or, or_true, eq_self, h8]) <;> (first | omega | decide)))))
    rw [Bz_t (by omega)]
  by_cases c5 : t = 11
  · repeat (first | with_reducible refine e_let ?_ | with_reducible refine e_cs ?_ | with_reducible refine e_clet ?_ | with_reducible refine e_cc ?_ | (with_reducible refine e_chk ?_ ?_; · (first | omega | ((try simp (disch := omega) only [w32_eq, w64_eq, ix_n, ix_e, sto_n, sto_e, sto_r, zf_r, Int.toNat_natCast, true_or, or_true, eq_self, h8]) <;> (first | omega | decide)))) | (with_reducible refine e_cchk ?_ ?_; · (first | omega | ((try simp (disch := omega) only [w32_eq, w64_eq, ix_n, ix_e, sto_n, sto_e, sto_r, zf_r, Int.toNat_natCast, true_or, or_true, eq_self, h8]) <;> (first | omega | decide)))) | (with_reducible refine e_t ?_ ?_; · (first | omega | ((try simp (disch := omega) only [w32_eq, w64_eq, ix_n, ix_e, sto_n, sto_e, sto_r, zf_r, Int.toNat_natCast, true_or, or_true, eq_self, h8]) <;> (first | omega | decide)))) | (with_reducible refine e_f ?_ ?_; · (first | omega | ((try simp (disch := omega) only [w32_eq, w64_eq, ix_n, ix_e, sto_n, sto_e, sto_r, zf_r, Int.toNat_natCast, true_or, or_true, eq_self, h8]) <;> (first | omega | decide)))) | (with_reducible refine e_ct ?_ ?_; · (first | omega | ((try simp (disch := omega) only [w32_eq, w64_eq, ix_n, ix_e, sto_n, sto_e, sto_r, zf_r, Int.toNat_natCast, true_or, or_true, eq_self, h8]) <;> (first | omega | decide)))) | (with_reducible refine e_cf ?_ ?_; · (first | omega | ((try simp (disch := omega) only [w32_eq, w64_eq, ix_n, ix_e, sto_n, sto_e, sto_r, zf_r, Int.toNat_natCast, true_or, or_true, eq_self, h8]) <;> (first | omega | decide)))))
    rw [Bz_t (by omega)]
  repeat (first | with_reducible refine e_let ?_ | with_reducible refine e_cs ?_ | with_reducible refine e_clet ?_ | with_reducible refine e_cc ?_ | (with_reducible refine e_chk ?_ ?_; · (first | omega | ((try simp (disch := omega) only [w32_eq, w64_eq, ix_n, ix_e, sto_n, sto_e, sto_r, zf_r, Int.toNat_natCast, true_or, or_true, eq_self, h8]) <;> (first | omega | decide)))) | (with_reducible refine e_cchk ?_ ?_; · (first | omega | ((try simp (disch := omega) only [w32_eq, w64_eq, ix_n, ix_e, sto_n, sto_e, sto_r, zf_r, Int.toNat_natCast, true_or, or_true, eq_self, h8]) <;> (first | omega | decide)))) | (with_reducible refine e_t ?_ ?_; · (first | omega | ((try simp (disch := omega) only [w32_eq, w64_eq, ix_n, ix_e, sto_n, sto_e, sto_r, zf_r, Int.toNat_natCast, true_or, or_true, eq_self, h8]) <;> (first | omega | decide)))) | (with_reducible refine e_f ?_ ?_; · (first | omega | ((try simp (disch := omega) only [w32_eq, w64_eq, ix_n, ix_e, sto_n, sto_e, sto_r, zf_r, Int.toNat_natCast, true_or, or_true, eq_self, h8]) <;> (first | omega | decide)))) | (with_reducible refine e_ct ?_ ?_; · (first | omega | ((try simp (disch := omega) only [w32_eq, w64_eq, ix_n, ix_e, sto_n, sto_e, sto_r, zf_r, Int.toNat_natCast, true_or, or_true, eq_self, h8]) <;> (first | omega | decide)))) | (with_reducible refine e_cf ?_ ?_; · (first | omega | ((try simp (disch := omega) only [w32_eq, w64_eq, ix_n, ix_e, sto_n, sto_e, sto_r, zf_r, Int.toNat_natCast, true_or, or_true, eq_self, h8]) <;> (first | omega | decide)))))
  rw [Bz_f (by omega)]
theorem s_may {b : Nat → Int} {n D : Nat} {nm : Nat → Int} {t z dp : Int} {s m a : Nat} {Mc Mr : Mem} (h : Gd b n D nm t s m a Mc Mr) (hz : z = 0 ∨ z = 1) (hd : 1 ≤ dp ∧ dp ≤ 9) : (z = 1 → dp ≤ 8 → d_Pa_mayBegin z dp Mc = some (1, Mc)) ∧ (z = 0 → ∃ Mc', d_Pa_mayBegin z dp Mc = some (0, Mc') ∧ d_Pa_fail 2 Mc = some (0, Mc')) ∧ (z = 1 → 8 < dp → ∃ Mc', d_Pa_mayBegin z dp Mc = some (0, Mc') ∧ d_Pa_fail 5 Mc = some (0, Mc')) := by
  have h10 := h.2.2.2.2.1
  have wd : w32 dp = dp := w32_eq (by omega) (by omega)
  unfold d_Pa_mayBegin k_Pa_mayBegin_23
  refine ⟨fun e1 e2 => ?_, fun e1 => ?_, fun e1 e2 => ?_⟩
  · subst e1
    exact e_f (by decide) (e_f (by rw [wd]; omega) (e_let (e_t (by rw [h10]; decide) rfl)))
  · subst e1
    obtain ⟨Mc', f1, f2⟩ := ft_gd (k := 2) h (by decide)
    have p4 := f2.2.2.2.1
    exact ⟨Mc', e_t (by decide) (e_call f1 (e_let (e_f (by rw [w32_eq (by omega) (by omega)]; omega) rfl))), f1⟩
  · subst e1
    obtain ⟨Mc', f1, f2⟩ := ft_gd (k := 5) h (by decide)
    have p4 := f2.2.2.2.1
    exact ⟨Mc', e_f (by decide) (e_t (by rw [wd]; omega) (e_call f1 (e_let (e_f (by rw [w32_eq (by omega) (by omega)]; omega) rfl)))), f1⟩
