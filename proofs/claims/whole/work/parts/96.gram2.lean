/-! both read the same grammar: atoms, items, sums -/
theorem Gd.tr {b : Nat → Int} {n D : Nat} {nm : Nat → Int} {t : Int} {s m a : Nat} {Mc Mr : Mem} (h : Gd b n D nm t s m a Mc Mr) : TR t (Mc 55 11) (Mc 55 10) Mr := h.2.2.2.2.2.2.1
/-- a sign or word that must stand -/
theorem exp_seq {b : Nat → Int} {n D : Nat} {nm : Nat → Int} {Q : Fnn → Prop} {N s m a a1 : Nat} {c : Int} {isq : Mem → Res} {Mc0 Mr0 Mc Mr : Mem} {kc : Int → Mem → Res} {kr : Mem → Res} {P : Mem → Mem → Prop} (hq : ∀ {t x u : Int} {M : Mem}, TR t x u M → isq M = some (Bz (t = c), M)) (hc : 2 ≤ c ∧ c ≤ 62) (o : Out b n D nm Q N s m a a1 Mc0 Mr0 Mc Mr)
    (hyes : ∀ m' a' s', m ≤ m' → m' + a ≤ m + a' → a1 ≤ a' → Gd b n D nm c s' m' a' Mc Mr → s ≤ s' → s' + m ≤ s + m' → (∀ i, i < s → Mc 58 i = Mc0 58 i) → (∀ i, i < m → Mr 152 i = Mr0 152 i) → (∃ F, Q F ∧ Den N D F (Mc 58) s s' (Mr 152) m m') → Ok2 (bcall (d_Pa_advance Mc) fun _ M4 => kc 0 M4) (kr Mr) P)
    (hno : ∀ m' a' Mc' Mr', m ≤ m' → m' + a ≤ m + a' → a1 ≤ a' → Ft n m' a' Mc' Mr' → Ok2 (kc 0 Mc') (kr Mr') P) :
    Ok2 (bcall (d_Pa_expect c Mc) kc) (blet (Mr 111 48) fun v1 => if w32 v1 = 0 then (bcall (isq Mr) fun v3 M4 => if w32 v3 = 0 then (bcall (d_Mo_wrong M4) fun _ M7 => kr M7) else (kr M4)) else (kr Mr)) P := by
  have wc : w32 c = c := w32_eq (by omega) (by omega)
  obtain ⟨m', a', o1, o2, o3, o4⟩ := o
  have bad : ∀ t : Int, t ≠ c → w32 (Mc 55 8) = t → Mr 111 48 = 0 → (∃ x u, TR t x u Mr) → (∃ Mc' Mr', d_Pa_fail 2 Mc = some (0, Mc') ∧ d_Mo_wrong Mr = some (0, Mr') ∧ Ft n m' a' Mc' Mr') → Ok2 (bcall (d_Pa_expect c Mc) kc) (blet (Mr 111 48) fun v1 => if w32 v1 = 0 then (bcall (isq Mr) fun v3 M4 => if w32 v3 = 0 then (bcall (d_Mo_wrong M4) fun _ M7 => kr M7) else (kr M4)) else (kr Mr)) P := by
    rintro t h1 h2 h3 ⟨x, u, h4⟩ ⟨Mc', Mr', h5, h6, h7⟩
    unfold d_Pa_expect
    refine l2_clet (l2_cf (by rw [h2, wc]; exact h1) ?_)
    refine l2_cc (l2_call h5 (l2_cs ?_))
    refine r2_let (r2_t (by rw [h3]; decide) (r2_call (hq h4) (r2_t (by rw [Bz_f h1]; decide) (r2_call h6 ?_))))
    exact hno m' a' Mc' Mr' o1 o2 o3 h7
  rcases o4 with ⟨t2, s2, gd, g1, g2, g3, g4, g5⟩ | o4 | o4
  · have gd' := gd
    obtain ⟨-, -, h8, h9, h10, h11, h12, -⟩ := gd'
    have tb := h12.w.2.2.2.2.2.2
    by_cases e : t2 = c
    · subst e
      unfold d_Pa_expect
      refine l2_clet (l2_ct (by rw [h8]) ?_)
      refine l2_cc ?_
      refine r2_let (r2_t (by rw [h11]; decide) (r2_call (hq h12) (r2_f (by rw [Bz_t rfl]; decide) ?_)))
      exact hyes m' a' s2 o1 o2 o3 gd g1 g2 g3 g4 g5
    · exact bad t2 e (by rw [h8, w32_eq (by omega) (by omega)]) h11 ⟨_, _, h12⟩ (gp_wrong (Or.inl ⟨t2, gd⟩))
  · exact bad 1 (by omega) (by rw [o4.2.2.2.1]; decide) o4.2.2.2.2.2.2.2.1 ⟨_, _, o4.tr⟩ (gp_wrong (b := b) (D := D) (nm := nm) (s := s) (Or.inr o4))
  · refine l2_call (cf_exp o4.cf (by omega)) ?_
    have h4 := o4.2.2.2.1
    have h5 := o4.2.2.2.2.1
    refine r2_let (r2_f (by rw [h5, w32_eq (by omega) (by omega)]; omega) ?_)
    exact hno m' a' Mc Mr o1 o2 o3 o4
/-- a step and a mark, then on -/
theorem lay_adv {b : Nat → Int} {n D : Nat} {nm : Nat → Int} {t x y : Int} {s m a : Nat} {Mc Mr : Mem} (h : Gd b n D nm t s m a Mc Mr) (ht : t ≠ 0) :
    Ok2 (d_Pa_advance (sto (sto Mc 58 s x) 57 2 ((s + 1 : Nat) : Int))) (d_Mo_next (sto (sto Mr 152 m y) 111 58 ((m + 1 : Nat) : Int))) (fun Mc' Mr' => ∃ a', a + 1 ≤ a' ∧ a' ≤ n ∧ GP b n D nm (s + 1) (m + 1) a' Mc' Mr' ∧ Mc' 58 = (sto (sto Mc 58 s x) 57 2 ((s + 1 : Nat) : Int)) 58 ∧ Mr' 152 = (sto (sto Mr 152 m y) 111 58 ((m + 1 : Nat) : Int)) 152) := by
  obtain ⟨c, ⟨h1, h2, h3, h4, h5, h6, h7⟩, h8, h9, h10, h11, h12, e, k1, k2, k3, k4, k5⟩ := h
  have k5 := k5 ht
  refine ok2_m (gd_adv (s := s + 1) (m := m + 1) (e := e) (c.on (by simp (disch := omega) only [w32_eq, w64_eq, ix_n, ix_e, sto_n, sto_e, sto_r, zf_r, Int.toNat_natCast]) (by simp (disch := omega) only [w32_eq, w64_eq, ix_n, ix_e, sto_n, sto_e, sto_r, zf_r, Int.toNat_natCast]) (by simp (disch := omega) only [w32_eq, w64_eq, ix_n, ix_e, sto_n, sto_e, sto_r, zf_r, Int.toNat_natCast]) (by simp (disch := omega) only [w32_eq, w64_eq, ix_n, ix_e, sto_n, sto_e, sto_r, zf_r, Int.toNat_natCast]) (by simp (disch := omega) only [w32_eq, w64_eq, ix_n, ix_e, sto_n, sto_e, sto_r, zf_r, Int.toNat_natCast]) (by simp (disch := omega) only [w32_eq, w64_eq, ix_n, ix_e, sto_n, sto_e, sto_r, zf_r, Int.toNat_natCast]) (by simp (disch := omega) only [w32_eq, w64_eq, ix_n, ix_e, sto_n, sto_e, sto_r, zf_r, Int.toNat_natCast]) (by simp (disch := omega) only [w32_eq, w64_eq, ix_n, ix_e, sto_n, sto_e, sto_r, zf_r, Int.toNat_natCast]) (by simp (disch := omega) only [w32_eq, w64_eq, ix_n, ix_e, sto_n, sto_e, sto_r, zf_r, Int.toNat_natCast])) (by simp (disch := omega) only [w32_eq, w64_eq, ix_n, ix_e, sto_n, sto_e, sto_r, zf_r, Int.toNat_natCast, h10]) (by simp (disch := omega) only [w32_eq, w64_eq, ix_n, ix_e, sto_n, sto_e, sto_r, zf_r, Int.toNat_natCast, h11]) k1 (by simp (disch := omega) only [w32_eq, w64_eq, ix_n, ix_e, sto_n, sto_e, sto_r, zf_r, Int.toNat_natCast, k3]) (by simp (disch := omega) only [w32_eq, w64_eq, ix_n, ix_e, sto_n, sto_e, sto_r, zf_r, Int.toNat_natCast, k4]) sto_e sto_e (by omega) (by omega)) (fun Mc' Mr' q => ?_)
  obtain ⟨a', q1, q2, q3⟩ := q
  exact ⟨a', by omega, q2, q3⟩
theorem at_push {b : Nat → Int} {n D : Nat} {nm : Nat → Int} {t : Int} {s m a k v N : Nat} {Mc Mr : Mem} (h : Gd b n D nm t s m a Mc Mr) (ht : t ≠ 0) (hN : 1 ≤ N) (hk : k = 0 ∨ (k = 1 ∧ v < 11) ∨ (k = 2 ∧ v < 10)) (hv : v < 1048576) (hd : k = 2 → v < D) :
    Ok2 (bcall (d_Pa_advance (sto (sto Mc 58 s (cdC (k : Int) (v : Int))) 57 2 ((s + 1 : Nat) : Int))) fun _ M7 => some (0, M7)) (bcall (d_Mo_next (sto (sto Mr 152 m (1048576 * (k : Int) + (v : Int))) 111 58 ((m + 1 : Nat) : Int))) fun _ M9 => some (0, M9)) (Out b n D nm QA N s m a a Mc Mr) := by
  refine ok2_call (lay_adv h ht) (fun _ Mc' _ Mr' q => ok2_ret ?_)
  obtain ⟨a', q1, q2, q3, q4, q5⟩ := q
  refine ⟨m + 1, a', by omega, by omega, by omega, ?_⟩
  rcases q3 with ⟨t', q3⟩ | q3
  · refine Or.inl ⟨t', s + 1, q3, by omega, by omega, fun i hi => ?_, fun i hi => ?_, puF k v, trivial, lcl_pu hd (by omega), DnC.m (dc_push hk hv ?_) hN, DnR.m (dr_push hk hv ?_) hN⟩
    · rw [q4, lay_b (by decide) hi]
    · rw [q5, lay_b (by decide) hi]
    · rw [q4, sto_r (by decide), sto_e]
    · rw [q5, sto_r (by decide), sto_e]
  · exact Or.inr (Or.inl q3)
theorem at_else {SW : Int → Mem → Res} {SF : Int → Int → Mem → Res} {dp t x u : Int} {M : Mem} (h : TR t x u M) (h48 : M 111 48 = 0) (ht : t ≠ 2 ∧ t ≠ 3 ∧ t ≠ 10 ∧ t ≠ 11 ∧ t ≠ 40) (hv : d_Mo_variable M = some (-1, M)) (hn : d_Mo_named M = some (-1, M)) : d_Mo_readAtom SW SF dp M = bcall (d_Mo_wrong M) (fun _ M2 => some (0, M2)) := by
  obtain ⟨w1, w2, w3, w4, w5, w6, w7⟩ := h.w
  unfold d_Mo_readAtom k_Mo_readAtom_159
  by_cases c : M 111 50 = 1
  · repeat (first | with_reducible refine e_let ?_ | with_reducible refine e_cs ?_ | with_reducible refine e_clet ?_ | with_reducible refine e_cc ?_ | (with_reducible refine e_chk ?_ ?_; · (first | omega | ((try simp (disch := omega) only [w32_eq, w64_eq, ix_n, ix_e, sto_n, sto_e, sto_r, zf_r, Int.toNat_natCast, true_or, or_true, eq_self, h48, Bz_t, Bz_f]) <;> (first | omega | decide)))) | (with_reducible refine e_cchk ?_ ?_; · (first | omega | ((try simp (disch := omega) only [w32_eq, w64_eq, ix_n, ix_e, sto_n, sto_e, sto_r, zf_r, Int.toNat_natCast, true_or, or_true, eq_self, h48, Bz_t, Bz_f]) <;> (first | omega | decide)))) | (with_reducible refine e_t ?_ ?_; · (first | omega | ((try simp (disch := omega) only [w32_eq, w64_eq, ix_n, ix_e, sto_n, sto_e, sto_r, zf_r, Int.toNat_natCast, true_or, or_true, eq_self, h48, Bz_t, Bz_f]) <;> (first | omega | decide)))) | (with_reducible refine e_f ?_ ?_; · (first | omega | ((try simp (disch := omega) only [w32_eq, w64_eq, ix_n, ix_e, sto_n, sto_e, sto_r, zf_r, Int.toNat_natCast, true_or, or_true, eq_self, h48, Bz_t, Bz_f]) <;> (first | omega | decide)))) | (with_reducible refine e_ct ?_ ?_; · (first | omega | ((try simp (disch := omega) only [w32_eq, w64_eq, ix_n, ix_e, sto_n, sto_e, sto_r, zf_r, Int.toNat_natCast, true_or, or_true, eq_self, h48, Bz_t, Bz_f]) <;> (first | omega | decide)))) | (with_reducible refine e_cf ?_ ?_; · (first | omega | ((try simp (disch := omega) only [w32_eq, w64_eq, ix_n, ix_e, sto_n, sto_e, sto_r, zf_r, Int.toNat_natCast, true_or, or_true, eq_self, h48, Bz_t, Bz_f]) <;> (first | omega | decide)))) | with_reducible refine e_call (r_isS h (by decide)) ?_ | with_reducible refine e_call (r_isLeast h) ?_ | with_reducible refine e_call (r_isMost h) ?_ | with_reducible refine e_call hv ?_ | with_reducible refine e_call hn ?_ | with_reducible refine e_call (r_isKept h) ?_); try with_reducible rfl
  · repeat (first | with_reducible refine e_let ?_ | with_reducible refine e_cs ?_ | with_reducible refine e_clet ?_ | with_reducible refine e_cc ?_ | (with_reducible refine e_chk ?_ ?_; · (first | omega | ((try simp (disch := omega) only [w32_eq, w64_eq, ix_n, ix_e, sto_n, sto_e, sto_r, zf_r, Int.toNat_natCast, true_or, or_true, eq_self, h48, Bz_t, Bz_f]) <;> (first | omega | decide)))) | (with_reducible refine e_cchk ?_ ?_; · (first | omega | ((try simp (disch := omega) only [w32_eq, w64_eq, ix_n, ix_e, sto_n, sto_e, sto_r, zf_r, Int.toNat_natCast, true_or, or_true, eq_self, h48, Bz_t, Bz_f]) <;> (first | omega | decide)))) | (with_reducible refine e_t ?_ ?_; · (first | omega | ((try simp (disch := omega) only [w32_eq, w64_eq, ix_n, ix_e, sto_n, sto_e, sto_r, zf_r, Int.toNat_natCast, true_or, or_true, eq_self, h48, Bz_t, Bz_f]) <;> (first | omega | decide)))) | (with_reducible refine e_f ?_ ?_; · (first | omega | ((try simp (disch := omega) only [w32_eq, w64_eq, ix_n, ix_e, sto_n, sto_e, sto_r, zf_r, Int.toNat_natCast, true_or, or_true, eq_self, h48, Bz_t, Bz_f]) <;> (first | omega | decide)))) | (with_reducible refine e_ct ?_ ?_; · (first | omega | ((try simp (disch := omega) only [w32_eq, w64_eq, ix_n, ix_e, sto_n, sto_e, sto_r, zf_r, Int.toNat_natCast, true_or, or_true, eq_self, h48, Bz_t, Bz_f]) <;> (first | omega | decide)))) | (with_reducible refine e_cf ?_ ?_; · (first | omega | ((try simp (disch := omega) only [w32_eq, w64_eq, ix_n, ix_e, sto_n, sto_e, sto_r, zf_r, Int.toNat_natCast, true_or, or_true, eq_self, h48, Bz_t, Bz_f]) <;> (first | omega | decide)))) | with_reducible refine e_call (r_isS h (by decide)) ?_ | with_reducible refine e_call (r_isLeast h) ?_ | with_reducible refine e_call (r_isMost h) ?_ | with_reducible refine e_call hv ?_ | with_reducible refine e_call hn ?_); try with_reducible rfl
theorem nd_kw {nm : Nat → Int} {D : Nat} {x : Int} (hN : NmI nm D) (hx : kd x ≠ 3) : ndF nm x D 0 = -1 := ndF_m D 0 (fun j _ hj q => hx (by rw [← q]; exact (hN.2 j (by omega)).2.2))
theorem var_kw {x : Int} (h : w64 x = x) (hx : kd x ≠ 3) : fndL VRs x 0 = -1 := by
  have f := fndV h
  have g := fndK h
  unfold kd at hx
  by_cases c : fndL KWs x 0 = -1
  · rw [if_pos c] at hx; exact absurd rfl hx
  · omega
/-- atoms -/
theorem ct_atom {b : Nat → Int} {n D : Nat} {nm : Nat → Int} {RW RF : Int → Mem → Res} {SW : Int → Mem → Res} {SF : Int → Int → Mem → Res} {dp : Int} {N : Nat} (hN : 1 ≤ N) (HW : Ct b n D nm (RW (dp + 1)) (SW (dp + 1)) QA N)
    (HF : ∀ t s m a Mc Mr, Gd b n D nm t s m a Mc Mr → t = 10 ∨ t = 11 → Ok2 (RF dp Mc) (SF dp (if t = 10 then 8 else 9) Mr) (Out b n D nm QA N s m a a Mc Mr)) :
    Ct b n D nm (d_Pa_parseAtom RW RF dp) (d_Mo_readAtom SW SF dp) QA N := by
  intro s m a Mc Mr hh
  have hwr := gp_wrong hh
  rcases hh with ⟨t, h⟩ | h
  · have g := h
    obtain ⟨c, ⟨h1, h2, h3, h4, h5, h6, h7⟩, h8, h9, h10, h11, h12, e, k1, k2, k3, k4, k5⟩ := h
    have c' := c
    obtain ⟨c1, c2, c3, c4, c5, c6, c7, c8, c9⟩ := c'
    obtain ⟨w1, w2, w3, w4, w5, w6, w7, w8⟩ := h12.w
    by_cases t2 : t = 2
    · have k5 := k5 (by omega)
      have eu : Mr 111 53 = Mc 55 10 ∧ 0 ≤ Mc 55 10 ∧ Mc 55 10 ≤ 999999 := by
        have kb := kd_b (Mc 55 11)
        unfold TR isS at h12
        omega
      obtain ⟨v, ev⟩ : ∃ v : Nat, Mc 55 10 = (v : Int) := ⟨(Mc 55 10).toNat, by omega⟩
      have w2' := w2.mpr t2
      have q := at_push (k := 0) (v := v) (N := N) g (by omega) hN (Or.inl rfl) (by omega) (fun q => absurd q (by decide))
      unfold d_Pa_parseAtom d_Mo_readAtom
      refine l2_let (l2_t (by rw [h8, t2]; decide) (l2_let (l2_call (s_add h1 (by omega)) ?_)))
      refine r2_let (r2_f (by rw [h11]; decide) (r2_let (r2_t (by rw [w2']; decide) (r2_let (r2_call (s_mark h2 (by omega)) ?_)))))
      rw [eu.1, ev]
      exact q
    by_cases t3 : t = 3
    · have k5 := k5 (by omega)
      have s1 := w1.mpr (by omega)
      obtain ⟨x1, x2⟩ := w5 s1
      have x3 := x1.x
      have hvr := r_var h12
      rw [if_pos s1] at hvr
      have hnm := r_named h12 c5 c8 c9
      rw [if_pos s1] at hnm
      have fv := fndL_b VRs (Mc 55 11) 0
      rw [show VRs.length = 11 from rfl] at fv
      have fn := ndF_b (nm := nm) (x := Mc 55 11) D 0
      have hD := c5.1
      have hfd := s_fdC c5 x3 c6 c7
      unfold d_Pa_parseAtom d_Mo_readAtom d_Pa_addWord
      refine l2_let (l2_f (by rw [h8, t3]; decide) (l2_t (by rw [h8, t3]; decide) ?_))
      refine l2_clet (l2_cc (l2_call s_find2 (l2_clet (l2_cc (l2_call hfd ?_)))))
      repeat (first | with_reducible refine r2_let ?_ | with_reducible refine r2_cs ?_ | with_reducible refine r2_clet ?_ | with_reducible refine r2_cc ?_ | (with_reducible refine r2_chk ?_ ?_; · (first | omega | ((try simp (disch := omega) only [w32_eq, w64_eq, ix_n, ix_e, sto_n, sto_e, sto_r, zf_r, Int.toNat_natCast, true_or, or_true, eq_self, h11, Bz_t, Bz_f]) <;> (first | omega | decide)))) | (with_reducible refine r2_cchk ?_ ?_; · (first | omega | ((try simp (disch := omega) only [w32_eq, w64_eq, ix_n, ix_e, sto_n, sto_e, sto_r, zf_r, Int.toNat_natCast, true_or, or_true, eq_self, h11, Bz_t, Bz_f]) <;> (first | omega | decide)))) | (with_reducible refine r2_t ?_ ?_; · (first | omega | ((try simp (disch := omega) only [w32_eq, w64_eq, ix_n, ix_e, sto_n, sto_e, sto_r, zf_r, Int.toNat_natCast, true_or, or_true, eq_self, h11, Bz_t, Bz_f]) <;> (first | omega | decide)))) | (with_reducible refine r2_f ?_ ?_; · (first | omega | ((try simp (disch := omega) only [w32_eq, w64_eq, ix_n, ix_e, sto_n, sto_e, sto_r, zf_r, Int.toNat_natCast, true_or, or_true, eq_self, h11, Bz_t, Bz_f]) <;> (first | omega | decide)))) | (with_reducible refine r2_ct ?_ ?_; · (first | omega | ((try simp (disch := omega) only [w32_eq, w64_eq, ix_n, ix_e, sto_n, sto_e, sto_r, zf_r, Int.toNat_natCast, true_or, or_true, eq_self, h11, Bz_t, Bz_f]) <;> (first | omega | decide)))) | (with_reducible refine r2_cf ?_ ?_; · (first | omega | ((try simp (disch := omega) only [w32_eq, w64_eq, ix_n, ix_e, sto_n, sto_e, sto_r, zf_r, Int.toNat_natCast, true_or, or_true, eq_self, h11, Bz_t, Bz_f]) <;> (first | omega | decide)))) | with_reducible refine r2_call (r_isS h12 (by decide)) ?_ | with_reducible refine r2_call (r_isLeast h12) ?_ | with_reducible refine r2_call (r_isMost h12) ?_ | with_reducible refine r2_call hvr ?_ | with_reducible refine r2_call hnm ?_)
      by_cases cv1 : fndL VRs (Mc 55 11) 0 = -1
      · by_cases cn1 : ndF nm (Mc 55 11) D 0 = -1
        · refine l2_ct (by rw [cv1]; decide) (l2_ct (by rw [cn1]; decide) ?_)
          obtain ⟨Mc', e1, e2⟩ := ft_gd (k := 6) g (by decide)
          refine l2_cc (l2_call e1 (l2_cs (l2_call (cf_adv e2.cf) ?_)))
          refine r2_t (by rw [cv1]; decide) (r2_t (by rw [cn1]; decide) ?_)
          unfold d_Mo_fail k_Mo_readAtom_159 d_Mo_wrong k_Mo_wrong_14 d_Mo_fail
          repeat (first | with_reducible refine r2_let ?_ | with_reducible refine r2_cs ?_ | with_reducible refine r2_clet ?_ | with_reducible refine r2_cc ?_ | (with_reducible refine r2_chk ?_ ?_; · (first | omega | ((try simp (disch := omega) only [w32_eq, w64_eq, ix_n, ix_e, sto_n, sto_e, sto_r, zf_r, Int.toNat_natCast, true_or, or_true, eq_self, h11, s1, Bz_t, Bz_f]) <;> (first | omega | decide)))) | (with_reducible refine r2_cchk ?_ ?_; · (first | omega | ((try simp (disch := omega) only [w32_eq, w64_eq, ix_n, ix_e, sto_n, sto_e, sto_r, zf_r, Int.toNat_natCast, true_or, or_true, eq_self, h11, s1, Bz_t, Bz_f]) <;> (first | omega | decide)))) | (with_reducible refine r2_t ?_ ?_; · (first | omega | ((try simp (disch := omega) only [w32_eq, w64_eq, ix_n, ix_e, sto_n, sto_e, sto_r, zf_r, Int.toNat_natCast, true_or, or_true, eq_self, h11, s1, Bz_t, Bz_f]) <;> (first | omega | decide)))) | (with_reducible refine r2_f ?_ ?_; · (first | omega | ((try simp (disch := omega) only [w32_eq, w64_eq, ix_n, ix_e, sto_n, sto_e, sto_r, zf_r, Int.toNat_natCast, true_or, or_true, eq_self, h11, s1, Bz_t, Bz_f]) <;> (first | omega | decide)))) | (with_reducible refine r2_ct ?_ ?_; · (first | omega | ((try simp (disch := omega) only [w32_eq, w64_eq, ix_n, ix_e, sto_n, sto_e, sto_r, zf_r, Int.toNat_natCast, true_or, or_true, eq_self, h11, s1, Bz_t, Bz_f]) <;> (first | omega | decide)))) | (with_reducible refine r2_cf ?_ ?_; · (first | omega | ((try simp (disch := omega) only [w32_eq, w64_eq, ix_n, ix_e, sto_n, sto_e, sto_r, zf_r, Int.toNat_natCast, true_or, or_true, eq_self, h11, s1, Bz_t, Bz_f]) <;> (first | omega | decide)))) | with_reducible refine r2_call (r_isKept h12) ?_)
          exact ok2_ret ⟨m, a, by omega, by omega, by omega, Or.inr (Or.inr e2)⟩
        · refine l2_ct (by rw [cv1]; decide) (l2_cf (by rw [w32_eq (by omega) (by omega)]; exact cn1) ?_)
          obtain ⟨v, ev⟩ : ∃ v : Nat, ndF nm (Mc 55 11) D 0 = (v : Int) := ⟨(ndF nm (Mc 55 11) D 0).toNat, by omega⟩
          refine l2_cc (l2_call (s_add h1 (by omega)) (l2_cs ?_))
          refine r2_t (by rw [cv1]; decide) (r2_f (by rw [w32_eq (by omega) (by omega)]; omega) ?_)
          unfold k_Mo_readAtom_164 k_Mo_readAtom_174 k_Mo_readAtom_183
          refine r2_t (by rw [cv1]; decide) (r2_t (by rw [cv1]; decide) (r2_call (s_mark h2 (by omega)) ?_))
          rw [ev]
          exact at_push (k := 2) (v := v) (N := N) g (by omega) hN (Or.inr (Or.inr ⟨rfl, by omega⟩)) (by omega) (fun _ => by omega)
      · refine l2_cf (by rw [w32_eq (by omega) (by omega)]; exact cv1) ?_
        obtain ⟨v, ev⟩ : ∃ v : Nat, fndL VRs (Mc 55 11) 0 = (v : Int) := ⟨(fndL VRs (Mc 55 11) 0).toNat, by omega⟩
        refine l2_cc (l2_call (s_add h1 (by omega)) (l2_cs ?_))
        refine r2_f (by rw [w32_eq (by omega) (by omega)]; omega) ?_
        unfold k_Mo_readAtom_164 k_Mo_readAtom_174 k_Mo_readAtom_183
        refine r2_f (by rw [w32_eq (by omega) (by omega)]; omega) (r2_f (by rw [w32_eq (by omega) (by omega)]; omega) (r2_call (s_mark h2 (by omega)) ?_))
        rw [ev]
        exact at_push (k := 1) (v := v) (N := N) g (by omega) hN (Or.inr (Or.inl ⟨rfl, by omega⟩)) (by omega) (fun q => absurd q (by decide))
    by_cases t40 : t = 40
    · have k5 := k5 (by omega)
      unfold d_Pa_parseAtom d_Mo_readAtom
      refine l2_let (l2_f (by rw [h8, t40]; decide) (l2_f (by rw [h8, t40]; decide) (l2_f (by rw [h8, t40]; decide) (l2_f (by rw [h8, t40]; decide) (l2_t (by rw [h8, t40]; decide) ?_)))))
      have n2 : ¬ Mr 111 50 = 2 := fun q => t2 (w2.mp q)
      refine r2_let (r2_f (by rw [h11]; decide) (r2_let (r2_f (by rw [w32_eq (by omega) (by omega)]; exact n2) (r2_call (r_isS h12 (by decide)) (r2_f (by rw [Bz_t t40]; decide) ?_)))))
      refine ok2_call (gd_adv c h10 h11 k1 k3 k4 h1 h2 h3 (by omega)) (fun _ Mc1 _ Mr1 q => ?_)
      obtain ⟨a1, q1, q2, q3, q4, q5⟩ := q
      refine ok2_call (HW s m a1 Mc1 Mr1 q3) (fun _ Mc2 _ Mr2 o => ?_)
      refine exp_seq (c := 41) (kc := fun _ M25 => some (0, M25)) (kr := k_Mo_readAtom_70 SW SF) (fun h => r_isS h (by decide)) (by decide) o ?_ ?_
      · intro m' a' s' u1 u2 u3 gd u4 u5 u6 u7 u8
        have gd' := gd
        obtain ⟨cc, ⟨i1, i2, i3, i4, i5, i6, i7⟩, i8, i9, i10, i11, i12, e', l1, l2, l3, l4, l5⟩ := gd'
        have l5 := l5 (by decide)
        unfold k_Mo_readAtom_70
        refine r2_let (r2_t (by rw [i11]; decide) ?_)
        refine ok2_call (gd_adv cc i10 i11 l1 l3 l4 i1 i2 i3 (by omega)) (fun _ Mc3 _ Mr3 z => ok2_ret ?_)
        obtain ⟨a3, z1, z2, z3, z4, z5⟩ := z
        refine ⟨m', a3, u1, by omega, by omega, ?_⟩
        rcases z3 with ⟨t3, z3⟩ | z3
        · obtain ⟨F, f1, f2, f3, f4⟩ := u8
          exact Or.inl ⟨t3, s', z3, u4, by omega, fun i hi => by rw [z4, u6 i hi, q4], fun i hi => by rw [z5, u7 i hi, q5], F, f1, f2, by rw [z4]; exact f3, by rw [z5]; exact f4⟩
        · exact Or.inr (Or.inl z3)
      · intro m' a' Mc' Mr' u1 u2 u3 ft
        have ft4 := ft.2.2.2.1
        have ft5 := ft.2.2.2.2.1
        unfold k_Mo_readAtom_70
        refine r2_let (r2_f (by rw [ft5, w32_eq (by omega) (by omega)]; omega) (ok2_ret ?_))
        exact ⟨m', a', u1, by omega, by omega, Or.inr (Or.inr ft)⟩
    by_cases tf : t = 10 ∨ t = 11
    · have q := HF t s m a Mc Mr g tf
      have n2 : ¬ Mr 111 50 = 2 := fun z => t2 (w2.mp z)
      have q' : Ok2 (bcall (RF dp Mc) fun _ M15 => some (0, M15)) (bcall (SF dp (if t = 10 then 8 else 9) Mr) fun _ M2 => some (0, M2)) (Out b n D nm QA N s m a a Mc Mr) := ok2_call q (fun _ _ _ _ z => ok2_ret z)
      unfold d_Pa_parseAtom d_Mo_readAtom k_Mo_readAtom_96 k_Mo_readAtom_112
      rcases tf with tf | tf
      · rw [if_pos tf] at q'
        refine l2_let (l2_f (by rw [h8, tf]; decide) (l2_f (by rw [h8, tf]; decide) (l2_t (by rw [h8, tf]; decide) ?_)))
        refine r2_let (r2_f (by rw [h11]; decide) (r2_let (r2_f (by rw [w32_eq (by omega) (by omega)]; exact n2) (r2_call (r_isS h12 (by decide)) (r2_t (by rw [Bz_f (by omega)]; decide) (r2_call (r_isLeast h12) (r2_f (by rw [Bz_t tf]; decide) (r2_call (r_isLeast h12) (r2_f (by rw [Bz_t tf]; decide) ?_)))))))))
        exact q'
      · rw [if_neg (by omega)] at q'
        refine l2_let (l2_f (by rw [h8, tf]; decide) (l2_f (by rw [h8, tf]; decide) (l2_f (by rw [h8, tf]; decide) (l2_t (by rw [h8, tf]; decide) ?_))))
        refine r2_let (r2_f (by rw [h11]; decide) (r2_let (r2_f (by rw [w32_eq (by omega) (by omega)]; exact n2) (r2_call (r_isS h12 (by decide)) (r2_t (by rw [Bz_f (by omega)]; decide) (r2_call (r_isLeast h12) (r2_t (by rw [Bz_f (by omega)]; decide) (r2_call (r_isMost h12) (r2_f (by rw [Bz_t tf]; decide) (r2_call (r_isLeast h12) (r2_t (by rw [Bz_f (by omega)]; decide) ?_)))))))))))
        exact q'
    · have hvn : d_Mo_variable Mr = some (-1, Mr) ∧ d_Mo_named Mr = some (-1, Mr) := by
        have hvr := r_var h12
        have hnm := r_named h12 c5 c8 c9
        by_cases s1 : Mr 111 50 = 1
        · obtain ⟨x1, x2⟩ := w5 s1
          rw [if_pos s1] at hvr hnm
          rw [var_kw x1.x (by omega)] at hvr
          rw [nd_kw c5 (by omega)] at hnm
          exact ⟨hvr, hnm⟩
        · rw [if_neg s1] at hvr hnm
          exact ⟨hvr, hnm⟩
      obtain ⟨Mc', Mr', e1, e2, e3⟩ := hwr
      refine ok2_r (at_else h12 h11 (by omega) hvn.1 hvn.2) ?_
      refine r2_call e2 ?_
      unfold d_Pa_parseAtom
      repeat (first | with_reducible refine l2_let ?_ | with_reducible refine l2_cs ?_ | with_reducible refine l2_clet ?_ | with_reducible refine l2_cc ?_ | (with_reducible refine l2_chk ?_ ?_; · (first | omega | ((try simp (disch := omega) only [w32_eq, w64_eq, ix_n, ix_e, sto_n, sto_e, sto_r, zf_r, Int.toNat_natCast, true_or, or_true, eq_self, h8]) <;> (first | omega | decide)))) | (with_reducible refine l2_cchk ?_ ?_; · (first | omega | ((try simp (disch := omega) only [w32_eq, w64_eq, ix_n, ix_e, sto_n, sto_e, sto_r, zf_r, Int.toNat_natCast, true_or, or_true, eq_self, h8]) <;> (first | omega | decide)))) | (with_reducible refine l2_t ?_ ?_; · (first | omega | ((try simp (disch := omega) only [w32_eq, w64_eq, ix_n, ix_e, sto_n, sto_e, sto_r, zf_r, Int.toNat_natCast, true_or, or_true, eq_self, h8]) <;> (first | omega | decide)))) | (with_reducible refine l2_f ?_ ?_; · (first | omega | ((try simp (disch := omega) only [w32_eq, w64_eq, ix_n, ix_e, sto_n, sto_e, sto_r, zf_r, Int.toNat_natCast, true_or, or_true, eq_self, h8]) <;> (first | omega | decide)))) | (with_reducible refine l2_ct ?_ ?_; · (first | omega | ((try simp (disch := omega) only [w32_eq, w64_eq, ix_n, ix_e, sto_n, sto_e, sto_r, zf_r, Int.toNat_natCast, true_or, or_true, eq_self, h8]) <;> (first | omega | decide)))) | (with_reducible refine l2_cf ?_ ?_; · (first | omega | ((try simp (disch := omega) only [w32_eq, w64_eq, ix_n, ix_e, sto_n, sto_e, sto_r, zf_r, Int.toNat_natCast, true_or, or_true, eq_self, h8]) <;> (first | omega | decide)))) | with_reducible refine l2_call e1 ?_)
      exact ok2_ret ⟨m, a, by omega, by omega, by omega, Or.inr (Or.inr e3)⟩
  · obtain ⟨Mc', Mr', e1, e2, e3⟩ := hwr
    have hp := h
    obtain ⟨p1, p2, p3, p4, p5, p6, p7, p8, p9, p10, p11⟩ := hp
    have hvr := r_var h.tr
    rw [if_neg (by omega)] at hvr
    have hnm : d_Mo_named Mr = some (-1, Mr) := by
      unfold d_Mo_named
      rw [show FU = 4294967295 + 1 from rfl, fix_s]
      unfold k_Mo_named_2
      repeat (first | with_reducible refine e_let ?_ | with_reducible refine e_cs ?_ | with_reducible refine e_clet ?_ | with_reducible refine e_cc ?_ | (with_reducible refine e_chk ?_ ?_; · (first | omega | ((try simp (disch := omega) only [w32_eq, w64_eq, ix_n, ix_e, sto_n, sto_e, sto_r, zf_r, Int.toNat_natCast, true_or, or_true, eq_self, p6]) <;> (first | omega | decide)))) | (with_reducible refine e_cchk ?_ ?_; · (first | omega | ((try simp (disch := omega) only [w32_eq, w64_eq, ix_n, ix_e, sto_n, sto_e, sto_r, zf_r, Int.toNat_natCast, true_or, or_true, eq_self, p6]) <;> (first | omega | decide)))) | (with_reducible refine e_t ?_ ?_; · (first | omega | ((try simp (disch := omega) only [w32_eq, w64_eq, ix_n, ix_e, sto_n, sto_e, sto_r, zf_r, Int.toNat_natCast, true_or, or_true, eq_self, p6]) <;> (first | omega | decide)))) | (with_reducible refine e_f ?_ ?_; · (first | omega | ((try simp (disch := omega) only [w32_eq, w64_eq, ix_n, ix_e, sto_n, sto_e, sto_r, zf_r, Int.toNat_natCast, true_or, or_true, eq_self, p6]) <;> (first | omega | decide)))) | (with_reducible refine e_ct ?_ ?_; · (first | omega | ((try simp (disch := omega) only [w32_eq, w64_eq, ix_n, ix_e, sto_n, sto_e, sto_r, zf_r, Int.toNat_natCast, true_or, or_true, eq_self, p6]) <;> (first | omega | decide)))) | (with_reducible refine e_cf ?_ ?_; · (first | omega | ((try simp (disch := omega) only [w32_eq, w64_eq, ix_n, ix_e, sto_n, sto_e, sto_r, zf_r, Int.toNat_natCast, true_or, or_true, eq_self, p6]) <;> (first | omega | decide))))); try with_reducible rfl
    refine ok2_r (at_else h.tr p8 (by decide) hvr hnm) ?_
    refine r2_call e2 ?_
    refine ok2_l (cf_atom h.cf) ?_
    rw [cf_fail h.cf] at e1
    injection e1 with e1
    injection e1 with _ e1
    subst e1
    exact ok2_ret ⟨m, a, by omega, by omega, by omega, Or.inr (Or.inr e3)⟩
theorem out_m {b : Nat → Int} {n D : Nat} {nm : Nat → Int} {Q Q' : Fnn → Prop} {N N' s m a a1 : Nat} {Mc Mr Mc' Mr' : Mem} (h : Out b n D nm Q N s m a a1 Mc Mr Mc' Mr') (hN : N ≤ N') (hQ : ∀ F, Q F → Q' F) : Out b n D nm Q' N' s m a a1 Mc Mr Mc' Mr' := by
  obtain ⟨m', a', o1, o2, o3, o4⟩ := h
  refine ⟨m', a', o1, o2, o3, ?_⟩
  rcases o4 with ⟨t2, s2, gd, g1, g2, g3, g4, F, f1, f2, f3, f4⟩ | o4
  · exact Or.inl ⟨t2, s2, gd, g1, g2, g3, g4, F, hQ F f1, f2, f3.m hN, f4.m hN⟩
  · exact Or.inr o4
/-- items -/
def opI (t : Int) : Int := if t = 37 then 8 else if t = 42 then 6 else 7
theorem ct_item {b : Nat → Int} {n D : Nat} {nm : Nat → Int} {RW RF : Int → Mem → Res} {SW : Int → Mem → Res} {SF : Int → Int → Mem → Res} {dp : Int} {N : Nat} (hN : 1 ≤ N) (hA : Ct b n D nm (d_Pa_parseAtom RW RF dp) (d_Mo_readAtom SW SF dp) QA N) :
    Ct b n D nm (d_Pa_parseItem RW RF dp) (d_Mo_readItem SW SF dp) QA (N + 1) := by
  intro s m a Mc Mr hh
  unfold d_Pa_parseItem d_Mo_readItem
  refine ok2_call (hA s m a Mc Mr hh) (fun _ Mc1 _ Mr1 o => ?_)
  have o' := out_m (Q' := QA) (N' := N + 1) o (by omega) (fun _ h => h)
  have n5 : n ≤ 500 := by
    rcases hh with ⟨t, h⟩ | h
    · exact h.n500
    · exact h.1
  refine loop_bin (S := fun t => t = 42 ∨ t = 47 ∨ t = 37) (op := opI) (LC := fun f i M => fix (fun _ _ _ => none) (k_Pa_parseItem_7 RW RF) f dp i M) (LR := fun g M => fix (fun _ _ => none) (k_Mo_readItem_5 SW SF) g dp M) hA ?_ (by decide) (by omega) (by omega) ?_ (fun _ _ _ _ _ _ => trivial) ?_ ?_ ?_ (n + 1) FU FU 0 a Mc1 Mr1 (by omega) (by unfold FU; omega) (by unfold FU; omega) (by omega) o' (by omega)
  · intro t ht
    unfold opI
    split
    · omega
    · split <;> omega
  · intro t F ht _ q
    unfold opI at q
    exfalso
    rcases ht with e | e | e <;> subst e <;> revert q <;> decide
  · intro f t s m a i Mc Mr gd nS
    obtain ⟨cc, ⟨i1, i2, i3, i4, i5, i6, i7⟩, i8, i9, i10, i11, i12, e', l1, l2, l3, l4, l5⟩ := gd
    have tb := i12.w.2.2.2.2.2.2
    have e1 : d_Pa_stepOfItem (Mc 55 8) Mc = some (-1, Mc) := by
      unfold d_Pa_stepOfItem
      repeat (first | with_reducible refine e_let ?_ | with_reducible refine e_cs ?_ | with_reducible refine e_clet ?_ | with_reducible refine e_cc ?_ | (with_reducible refine e_chk ?_ ?_; · (first | omega | ((try simp (disch := omega) only [w32_eq, w64_eq, ix_n, ix_e, sto_n, sto_e, sto_r, zf_r, Int.toNat_natCast, true_or, or_true, eq_self, i8]) <;> (first | omega | decide)))) | (with_reducible refine e_cchk ?_ ?_; · (first | omega | ((try simp (disch := omega) only [w32_eq, w64_eq, ix_n, ix_e, sto_n, sto_e, sto_r, zf_r, Int.toNat_natCast, true_or, or_true, eq_self, i8]) <;> (first | omega | decide)))) | (with_reducible refine e_t ?_ ?_; · (first | omega | ((try simp (disch := omega) only [w32_eq, w64_eq, ix_n, ix_e, sto_n, sto_e, sto_r, zf_r, Int.toNat_natCast, true_or, or_true, eq_self, i8]) <;> (first | omega | decide)))) | (with_reducible refine e_f ?_ ?_; · (first | omega | ((try simp (disch := omega) only [w32_eq, w64_eq, ix_n, ix_e, sto_n, sto_e, sto_r, zf_r, Int.toNat_natCast, true_or, or_true, eq_self, i8]) <;> (first | omega | decide)))) | (with_reducible refine e_ct ?_ ?_; · (first | omega | ((try simp (disch := omega) only [w32_eq, w64_eq, ix_n, ix_e, sto_n, sto_e, sto_r, zf_r, Int.toNat_natCast, true_or, or_true, eq_self, i8]) <;> (first | omega | decide)))) | (with_reducible refine e_cf ?_ ?_; · (first | omega | ((try simp (disch := omega) only [w32_eq, w64_eq, ix_n, ix_e, sto_n, sto_e, sto_r, zf_r, Int.toNat_natCast, true_or, or_true, eq_self, i8]) <;> (first | omega | decide))))); try with_reducible rfl
    refine ⟨?_, ?_⟩
    · try dsimp only
      rw [fix_s]
      unfold k_Pa_parseItem_7
      refine e_let (e_sp (fun _ => ?_) (fun _ => rfl))
      repeat (first | with_reducible refine e_let ?_ | with_reducible refine e_cs ?_ | with_reducible refine e_clet ?_ | with_reducible refine e_cc ?_ | (with_reducible refine e_chk ?_ ?_; · (first | omega | ((try simp (disch := omega) only [w32_eq, w64_eq, ix_n, ix_e, sto_n, sto_e, sto_r, zf_r, Int.toNat_natCast, true_or, or_true, eq_self]) <;> (first | omega | decide)))) | (with_reducible refine e_cchk ?_ ?_; · (first | omega | ((try simp (disch := omega) only [w32_eq, w64_eq, ix_n, ix_e, sto_n, sto_e, sto_r, zf_r, Int.toNat_natCast, true_or, or_true, eq_self]) <;> (first | omega | decide)))) | (with_reducible refine e_t ?_ ?_; · (first | omega | ((try simp (disch := omega) only [w32_eq, w64_eq, ix_n, ix_e, sto_n, sto_e, sto_r, zf_r, Int.toNat_natCast, true_or, or_true, eq_self]) <;> (first | omega | decide)))) | (with_reducible refine e_f ?_ ?_; · (first | omega | ((try simp (disch := omega) only [w32_eq, w64_eq, ix_n, ix_e, sto_n, sto_e, sto_r, zf_r, Int.toNat_natCast, true_or, or_true, eq_self]) <;> (first | omega | decide)))) | (with_reducible refine e_ct ?_ ?_; · (first | omega | ((try simp (disch := omega) only [w32_eq, w64_eq, ix_n, ix_e, sto_n, sto_e, sto_r, zf_r, Int.toNat_natCast, true_or, or_true, eq_self]) <;> (first | omega | decide)))) | (with_reducible refine e_cf ?_ ?_; · (first | omega | ((try simp (disch := omega) only [w32_eq, w64_eq, ix_n, ix_e, sto_n, sto_e, sto_r, zf_r, Int.toNat_natCast, true_or, or_true, eq_self]) <;> (first | omega | decide)))) | with_reducible refine e_call e1 ?_); try with_reducible rfl
    · try dsimp only
      rw [fix_s]
      unfold k_Mo_readItem_5
      repeat (first | with_reducible refine e_let ?_ | with_reducible refine e_cs ?_ | with_reducible refine e_clet ?_ | with_reducible refine e_cc ?_ | (with_reducible refine e_chk ?_ ?_; · (first | omega | ((try simp (disch := omega) only [w32_eq, w64_eq, ix_n, ix_e, sto_n, sto_e, sto_r, zf_r, Int.toNat_natCast, true_or, or_true, eq_self, i11, Bz_f]) <;> (first | omega | decide)))) | (with_reducible refine e_cchk ?_ ?_; · (first | omega | ((try simp (disch := omega) only [w32_eq, w64_eq, ix_n, ix_e, sto_n, sto_e, sto_r, zf_r, Int.toNat_natCast, true_or, or_true, eq_self, i11, Bz_f]) <;> (first | omega | decide)))) | (with_reducible refine e_t ?_ ?_; · (first | omega | ((try simp (disch := omega) only [w32_eq, w64_eq, ix_n, ix_e, sto_n, sto_e, sto_r, zf_r, Int.toNat_natCast, true_or, or_true, eq_self, i11, Bz_f]) <;> (first | omega | decide)))) | (with_reducible refine e_f ?_ ?_; · (first | omega | ((try simp (disch := omega) only [w32_eq, w64_eq, ix_n, ix_e, sto_n, sto_e, sto_r, zf_r, Int.toNat_natCast, true_or, or_true, eq_self, i11, Bz_f]) <;> (first | omega | decide)))) | (with_reducible refine e_ct ?_ ?_; · (first | omega | ((try simp (disch := omega) only [w32_eq, w64_eq, ix_n, ix_e, sto_n, sto_e, sto_r, zf_r, Int.toNat_natCast, true_or, or_true, eq_self, i11, Bz_f]) <;> (first | omega | decide)))) | (with_reducible refine e_cf ?_ ?_; · (first | omega | ((try simp (disch := omega) only [w32_eq, w64_eq, ix_n, ix_e, sto_n, sto_e, sto_r, zf_r, Int.toNat_natCast, true_or, or_true, eq_self, i11, Bz_f]) <;> (first | omega | decide)))) | with_reducible refine e_call (r_isS i12 (by decide)) ?_); try with_reducible rfl
  · intro f m a i Mc Mr hp
    have hcf : CFt Mc := by
      rcases hp with h | h
      · exact h.cf
      · exact h.cf
    have e1 : d_Pa_stepOfItem (Mc 55 8) Mc = some (-1, Mc) := by rw [hcf.2]; rfl
    refine ⟨?_, ?_⟩
    · try dsimp only
      rw [fix_s]
      unfold k_Pa_parseItem_7
      refine e_let (e_sp (fun _ => ?_) (fun _ => rfl))
      repeat (first | with_reducible refine e_let ?_ | with_reducible refine e_cs ?_ | with_reducible refine e_clet ?_ | with_reducible refine e_cc ?_ | (with_reducible refine e_chk ?_ ?_; · (first | omega | ((try simp (disch := omega) only [w32_eq, w64_eq, ix_n, ix_e, sto_n, sto_e, sto_r, zf_r, Int.toNat_natCast, true_or, or_true, eq_self]) <;> (first | omega | decide)))) | (with_reducible refine e_cchk ?_ ?_; · (first | omega | ((try simp (disch := omega) only [w32_eq, w64_eq, ix_n, ix_e, sto_n, sto_e, sto_r, zf_r, Int.toNat_natCast, true_or, or_true, eq_self]) <;> (first | omega | decide)))) | (with_reducible refine e_t ?_ ?_; · (first | omega | ((try simp (disch := omega) only [w32_eq, w64_eq, ix_n, ix_e, sto_n, sto_e, sto_r, zf_r, Int.toNat_natCast, true_or, or_true, eq_self]) <;> (first | omega | decide)))) | (with_reducible refine e_f ?_ ?_; · (first | omega | ((try simp (disch := omega) only [w32_eq, w64_eq, ix_n, ix_e, sto_n, sto_e, sto_r, zf_r, Int.toNat_natCast, true_or, or_true, eq_self]) <;> (first | omega | decide)))) | (with_reducible refine e_ct ?_ ?_; · (first | omega | ((try simp (disch := omega) only [w32_eq, w64_eq, ix_n, ix_e, sto_n, sto_e, sto_r, zf_r, Int.toNat_natCast, true_or, or_true, eq_self]) <;> (first | omega | decide)))) | (with_reducible refine e_cf ?_ ?_; · (first | omega | ((try simp (disch := omega) only [w32_eq, w64_eq, ix_n, ix_e, sto_n, sto_e, sto_r, zf_r, Int.toNat_natCast, true_or, or_true, eq_self]) <;> (first | omega | decide)))) | with_reducible refine e_call e1 ?_); try with_reducible rfl
    · try dsimp only
      rw [fix_s]
      unfold k_Mo_readItem_5
      rcases hp with h | h
      · have h48 := h.2.2.2.2.2.2.2.1
        have htr := h.tr
        repeat (first | with_reducible refine e_let ?_ | with_reducible refine e_cs ?_ | with_reducible refine e_clet ?_ | with_reducible refine e_cc ?_ | (with_reducible refine e_chk ?_ ?_; · (first | omega | ((try simp (disch := omega) only [w32_eq, w64_eq, ix_n, ix_e, sto_n, sto_e, sto_r, zf_r, Int.toNat_natCast, true_or, or_true, eq_self, h48, Bz_f]) <;> (first | omega | decide)))) | (with_reducible refine e_cchk ?_ ?_; · (first | omega | ((try simp (disch := omega) only [w32_eq, w64_eq, ix_n, ix_e, sto_n, sto_e, sto_r, zf_r, Int.toNat_natCast, true_or, or_true, eq_self, h48, Bz_f]) <;> (first | omega | decide)))) | (with_reducible refine e_t ?_ ?_; · (first | omega | ((try simp (disch := omega) only [w32_eq, w64_eq, ix_n, ix_e, sto_n, sto_e, sto_r, zf_r, Int.toNat_natCast, true_or, or_true, eq_self, h48, Bz_f]) <;> (first | omega | decide)))) | (with_reducible refine e_f ?_ ?_; · (first | omega | ((try simp (disch := omega) only [w32_eq, w64_eq, ix_n, ix_e, sto_n, sto_e, sto_r, zf_r, Int.toNat_natCast, true_or, or_true, eq_self, h48, Bz_f]) <;> (first | omega | decide)))) | (with_reducible refine e_ct ?_ ?_; · (first | omega | ((try simp (disch := omega) only [w32_eq, w64_eq, ix_n, ix_e, sto_n, sto_e, sto_r, zf_r, Int.toNat_natCast, true_or, or_true, eq_self, h48, Bz_f]) <;> (first | omega | decide)))) | (with_reducible refine e_cf ?_ ?_; · (first | omega | ((try simp (disch := omega) only [w32_eq, w64_eq, ix_n, ix_e, sto_n, sto_e, sto_r, zf_r, Int.toNat_natCast, true_or, or_true, eq_self, h48, Bz_f]) <;> (first | omega | decide)))) | with_reducible refine e_call (r_isS htr (by decide)) ?_); try with_reducible rfl
      · have h4 := h.2.2.2.1
        have h5 := h.2.2.2.2.1
        repeat (first | with_reducible refine e_let ?_ | with_reducible refine e_cs ?_ | with_reducible refine e_clet ?_ | with_reducible refine e_cc ?_ | (with_reducible refine e_chk ?_ ?_; · (first | omega | ((try simp (disch := omega) only [w32_eq, w64_eq, ix_n, ix_e, sto_n, sto_e, sto_r, zf_r, Int.toNat_natCast, true_or, or_true, eq_self, h5]) <;> (first | omega | decide)))) | (with_reducible refine e_cchk ?_ ?_; · (first | omega | ((try simp (disch := omega) only [w32_eq, w64_eq, ix_n, ix_e, sto_n, sto_e, sto_r, zf_r, Int.toNat_natCast, true_or, or_true, eq_self, h5]) <;> (first | omega | decide)))) | (with_reducible refine e_t ?_ ?_; · (first | omega | ((try simp (disch := omega) only [w32_eq, w64_eq, ix_n, ix_e, sto_n, sto_e, sto_r, zf_r, Int.toNat_natCast, true_or, or_true, eq_self, h5]) <;> (first | omega | decide)))) | (with_reducible refine e_f ?_ ?_; · (first | omega | ((try simp (disch := omega) only [w32_eq, w64_eq, ix_n, ix_e, sto_n, sto_e, sto_r, zf_r, Int.toNat_natCast, true_or, or_true, eq_self, h5]) <;> (first | omega | decide)))) | (with_reducible refine e_ct ?_ ?_; · (first | omega | ((try simp (disch := omega) only [w32_eq, w64_eq, ix_n, ix_e, sto_n, sto_e, sto_r, zf_r, Int.toNat_natCast, true_or, or_true, eq_self, h5]) <;> (first | omega | decide)))) | (with_reducible refine e_cf ?_ ?_; · (first | omega | ((try simp (disch := omega) only [w32_eq, w64_eq, ix_n, ix_e, sto_n, sto_e, sto_r, zf_r, Int.toNat_natCast, true_or, or_true, eq_self, h5]) <;> (first | omega | decide))))); try with_reducible rfl
  · intro f g t s m a i Mc Mr gd hS hi
    obtain ⟨cc, ⟨i1, i2, i3, i4, i5, i6, i7⟩, i8, i9, i10, i11, i12, e', l1, l2, l3, l4, l5⟩ := gd
    have h6 := cc.2.2.1.1
    refine ⟨?_, ?_⟩
    · have e1 : d_Pa_stepOfItem (Mc 55 8) Mc = some (opI t, Mc) := by
        rw [i8]
        rcases hS with e | e | e <;> subst e <;> rfl
      have ob : opI t = 6 ∨ opI t = 7 ∨ opI t = 8 := by
        unfold opI; split
        · omega
        · split <;> omega
      try dsimp only
      rw [fix_s]
      unfold k_Pa_parseItem_7
      refine e_let (e_t (by rw [h6, w32_eq (by omega) (by omega), w32_eq (by omega) (by omega)]; omega) (e_let (e_call e1 (e_f (by rw [w32_eq (by omega) (by omega)]; omega) (e_let (e_call e1 ?_))))))
      rfl
    · try dsimp only
      rw [fix_s]
      unfold k_Mo_readItem_5 k_Mo_readItem_39 k_Mo_readItem_68
      rcases hS with e | e | e <;> subst e
      · repeat (first | with_reducible refine e_let ?_ | with_reducible refine e_cs ?_ | with_reducible refine e_clet ?_ | with_reducible refine e_cc ?_ | (with_reducible refine e_chk ?_ ?_; · (first | omega | ((try simp (disch := omega) only [w32_eq, w64_eq, ix_n, ix_e, sto_n, sto_e, sto_r, zf_r, Int.toNat_natCast, true_or, or_true, eq_self, i11, Bz_t, Bz_f]) <;> (first | omega | decide)))) | (with_reducible refine e_cchk ?_ ?_; · (first | omega | ((try simp (disch := omega) only [w32_eq, w64_eq, ix_n, ix_e, sto_n, sto_e, sto_r, zf_r, Int.toNat_natCast, true_or, or_true, eq_self, i11, Bz_t, Bz_f]) <;> (first | omega | decide)))) | (with_reducible refine e_t ?_ ?_; · (first | omega | ((try simp (disch := omega) only [w32_eq, w64_eq, ix_n, ix_e, sto_n, sto_e, sto_r, zf_r, Int.toNat_natCast, true_or, or_true, eq_self, i11, Bz_t, Bz_f]) <;> (first | omega | decide)))) | (with_reducible refine e_f ?_ ?_; · (first | omega | ((try simp (disch := omega) only [w32_eq, w64_eq, ix_n, ix_e, sto_n, sto_e, sto_r, zf_r, Int.toNat_natCast, true_or, or_true, eq_self, i11, Bz_t, Bz_f]) <;> (first | omega | decide)))) | (with_reducible refine e_ct ?_ ?_; · (first | omega | ((try simp (disch := omega) only [w32_eq, w64_eq, ix_n, ix_e, sto_n, sto_e, sto_r, zf_r, Int.toNat_natCast, true_or, or_true, eq_self, i11, Bz_t, Bz_f]) <;> (first | omega | decide)))) | (with_reducible refine e_cf ?_ ?_; · (first | omega | ((try simp (disch := omega) only [w32_eq, w64_eq, ix_n, ix_e, sto_n, sto_e, sto_r, zf_r, Int.toNat_natCast, true_or, or_true, eq_self, i11, Bz_t, Bz_f]) <;> (first | omega | decide)))) | with_reducible refine e_call (r_isS i12 (by decide)) ?_)
        rfl
      · repeat (first | with_reducible refine e_let ?_ | with_reducible refine e_cs ?_ | with_reducible refine e_clet ?_ | with_reducible refine e_cc ?_ | (with_reducible refine e_chk ?_ ?_; · (first | omega | ((try simp (disch := omega) only [w32_eq, w64_eq, ix_n, ix_e, sto_n, sto_e, sto_r, zf_r, Int.toNat_natCast, true_or, or_true, eq_self, i11, Bz_t, Bz_f]) <;> (first | omega | decide)))) | (with_reducible refine e_cchk ?_ ?_; · (first | omega | ((try simp (disch := omega) only [w32_eq, w64_eq, ix_n, ix_e, sto_n, sto_e, sto_r, zf_r, Int.toNat_natCast, true_or, or_true, eq_self, i11, Bz_t, Bz_f]) <;> (first | omega | decide)))) | (with_reducible refine e_t ?_ ?_; · (first | omega | ((try simp (disch := omega) only [w32_eq, w64_eq, ix_n, ix_e, sto_n, sto_e, sto_r, zf_r, Int.toNat_natCast, true_or, or_true, eq_self, i11, Bz_t, Bz_f]) <;> (first | omega | decide)))) | (with_reducible refine e_f ?_ ?_; · (first | omega | ((try simp (disch := omega) only [w32_eq, w64_eq, ix_n, ix_e, sto_n, sto_e, sto_r, zf_r, Int.toNat_natCast, true_or, or_true, eq_self, i11, Bz_t, Bz_f]) <;> (first | omega | decide)))) | (with_reducible refine e_ct ?_ ?_; · (first | omega | ((try simp (disch := omega) only [w32_eq, w64_eq, ix_n, ix_e, sto_n, sto_e, sto_r, zf_r, Int.toNat_natCast, true_or, or_true, eq_self, i11, Bz_t, Bz_f]) <;> (first | omega | decide)))) | (with_reducible refine e_cf ?_ ?_; · (first | omega | ((try simp (disch := omega) only [w32_eq, w64_eq, ix_n, ix_e, sto_n, sto_e, sto_r, zf_r, Int.toNat_natCast, true_or, or_true, eq_self, i11, Bz_t, Bz_f]) <;> (first | omega | decide)))) | with_reducible refine e_call (r_isS i12 (by decide)) ?_)
        rfl
      · repeat (first | with_reducible refine e_let ?_ | with_reducible refine e_cs ?_ | with_reducible refine e_clet ?_ | with_reducible refine e_cc ?_ | (with_reducible refine e_chk ?_ ?_; · (first | omega | ((try simp (disch := omega) only [w32_eq, w64_eq, ix_n, ix_e, sto_n, sto_e, sto_r, zf_r, Int.toNat_natCast, true_or, or_true, eq_self, i11, Bz_t, Bz_f]) <;> (first | omega | decide)))) | (with_reducible refine e_cchk ?_ ?_; · (first | omega | ((try simp (disch := omega) only [w32_eq, w64_eq, ix_n, ix_e, sto_n, sto_e, sto_r, zf_r, Int.toNat_natCast, true_or, or_true, eq_self, i11, Bz_t, Bz_f]) <;> (first | omega | decide)))) | (with_reducible refine e_t ?_ ?_; · (first | omega | ((try simp (disch := omega) only [w32_eq, w64_eq, ix_n, ix_e, sto_n, sto_e, sto_r, zf_r, Int.toNat_natCast, true_or, or_true, eq_self, i11, Bz_t, Bz_f]) <;> (first | omega | decide)))) | (with_reducible refine e_f ?_ ?_; · (first | omega | ((try simp (disch := omega) only [w32_eq, w64_eq, ix_n, ix_e, sto_n, sto_e, sto_r, zf_r, Int.toNat_natCast, true_or, or_true, eq_self, i11, Bz_t, Bz_f]) <;> (first | omega | decide)))) | (with_reducible refine e_ct ?_ ?_; · (first | omega | ((try simp (disch := omega) only [w32_eq, w64_eq, ix_n, ix_e, sto_n, sto_e, sto_r, zf_r, Int.toNat_natCast, true_or, or_true, eq_self, i11, Bz_t, Bz_f]) <;> (first | omega | decide)))) | (with_reducible refine e_cf ?_ ?_; · (first | omega | ((try simp (disch := omega) only [w32_eq, w64_eq, ix_n, ix_e, sto_n, sto_e, sto_r, zf_r, Int.toNat_natCast, true_or, or_true, eq_self, i11, Bz_t, Bz_f]) <;> (first | omega | decide)))) | with_reducible refine e_call (r_isS i12 (by decide)) ?_)
        rfl
/-- sums -/
def opS (t : Int) : Int := if t = 43 then 4 else 5
theorem ct_sum {b : Nat → Int} {n D : Nat} {nm : Nat → Int} {RW RF : Int → Mem → Res} {SW : Int → Mem → Res} {SF : Int → Int → Mem → Res} {dp : Int} {N : Nat} (hN : 1 ≤ N) (hA : Ct b n D nm (d_Pa_parseItem RW RF dp) (d_Mo_readItem SW SF dp) QA N) :
    Ct b n D nm (d_Pa_parseSum RW RF dp) (d_Mo_readSum SW SF dp) QA (N + 1) := by
  intro s m a Mc Mr hh
  unfold d_Pa_parseSum d_Mo_readSum
  refine ok2_call (hA s m a Mc Mr hh) (fun _ Mc1 _ Mr1 o => ?_)
  have o' := out_m (Q' := QA) (N' := N + 1) o (by omega) (fun _ h => h)
  have n5 : n ≤ 500 := by
    rcases hh with ⟨t, h⟩ | h
    · exact h.n500
    · exact h.1
  refine loop_bin (S := fun t => t = 43 ∨ t = 45) (op := opS) (LC := fun f i M => fix (fun _ _ _ => none) (k_Pa_parseSum_7 RW RF) f dp i M) (LR := fun g M => fix (fun _ _ => none) (k_Mo_readSum_5 SW SF) g dp M) hA ?_ (by decide) (by omega) (by omega) ?_ (fun _ _ _ _ _ _ => trivial) ?_ ?_ ?_ (n + 1) FU FU 0 a Mc1 Mr1 (by omega) (by unfold FU; omega) (by unfold FU; omega) (by omega) o' (by omega)
  · intro t ht
    unfold opS
    split <;> omega
  · intro t F ht _ q
    unfold opS at q
    exfalso
    rcases ht with e | e <;> subst e <;> revert q <;> decide
  · intro f t s m a i Mc Mr gd nS
    obtain ⟨cc, ⟨i1, i2, i3, i4, i5, i6, i7⟩, i8, i9, i10, i11, i12, e', l1, l2, l3, l4, l5⟩ := gd
    have tb := i12.w.2.2.2.2.2.2
    refine ⟨?_, ?_⟩
    · try dsimp only
      rw [fix_s]
      unfold k_Pa_parseSum_7
      refine e_let (e_sp (fun _ => ?_) (fun _ => rfl))
      repeat (first | with_reducible refine e_let ?_ | with_reducible refine e_cs ?_ | with_reducible refine e_clet ?_ | with_reducible refine e_cc ?_ | (with_reducible refine e_chk ?_ ?_; · (first | omega | ((try simp (disch := omega) only [w32_eq, w64_eq, ix_n, ix_e, sto_n, sto_e, sto_r, zf_r, Int.toNat_natCast, true_or, or_true, eq_self, i8]) <;> (first | omega | decide)))) | (with_reducible refine e_cchk ?_ ?_; · (first | omega | ((try simp (disch := omega) only [w32_eq, w64_eq, ix_n, ix_e, sto_n, sto_e, sto_r, zf_r, Int.toNat_natCast, true_or, or_true, eq_self, i8]) <;> (first | omega | decide)))) | (with_reducible refine e_t ?_ ?_; · (first | omega | ((try simp (disch := omega) only [w32_eq, w64_eq, ix_n, ix_e, sto_n, sto_e, sto_r, zf_r, Int.toNat_natCast, true_or, or_true, eq_self, i8]) <;> (first | omega | decide)))) | (with_reducible refine e_f ?_ ?_; · (first | omega | ((try simp (disch := omega) only [w32_eq, w64_eq, ix_n, ix_e, sto_n, sto_e, sto_r, zf_r, Int.toNat_natCast, true_or, or_true, eq_self, i8]) <;> (first | omega | decide)))) | (with_reducible refine e_ct ?_ ?_; · (first | omega | ((try simp (disch := omega) only [w32_eq, w64_eq, ix_n, ix_e, sto_n, sto_e, sto_r, zf_r, Int.toNat_natCast, true_or, or_true, eq_self, i8]) <;> (first | omega | decide)))) | (with_reducible refine e_cf ?_ ?_; · (first | omega | ((try simp (disch := omega) only [w32_eq, w64_eq, ix_n, ix_e, sto_n, sto_e, sto_r, zf_r, Int.toNat_natCast, true_or, or_true, eq_self, i8]) <;> (first | omega | decide))))); try with_reducible rfl
    · try dsimp only
      rw [fix_s]
      unfold k_Mo_readSum_5
      repeat (first | with_reducible refine e_let ?_ | with_reducible refine e_cs ?_ | with_reducible refine e_clet ?_ | with_reducible refine e_cc ?_ | (with_reducible refine e_chk ?_ ?_; · (first | omega | ((try simp (disch := omega) only [w32_eq, w64_eq, ix_n, ix_e, sto_n, sto_e, sto_r, zf_r, Int.toNat_natCast, true_or, or_true, eq_self, i11, Bz_f]) <;> (first | omega | decide)))) | (with_reducible refine e_cchk ?_ ?_; · (first | omega | ((try simp (disch := omega) only [w32_eq, w64_eq, ix_n, ix_e, sto_n, sto_e, sto_r, zf_r, Int.toNat_natCast, true_or, or_true, eq_self, i11, Bz_f]) <;> (first | omega | decide)))) | (with_reducible refine e_t ?_ ?_; · (first | omega | ((try simp (disch := omega) only [w32_eq, w64_eq, ix_n, ix_e, sto_n, sto_e, sto_r, zf_r, Int.toNat_natCast, true_or, or_true, eq_self, i11, Bz_f]) <;> (first | omega | decide)))) | (with_reducible refine e_f ?_ ?_; · (first | omega | ((try simp (disch := omega) only [w32_eq, w64_eq, ix_n, ix_e, sto_n, sto_e, sto_r, zf_r, Int.toNat_natCast, true_or, or_true, eq_self, i11, Bz_f]) <;> (first | omega | decide)))) | (with_reducible refine e_ct ?_ ?_; · (first | omega | ((try simp (disch := omega) only [w32_eq, w64_eq, ix_n, ix_e, sto_n, sto_e, sto_r, zf_r, Int.toNat_natCast, true_or, or_true, eq_self, i11, Bz_f]) <;> (first | omega | decide)))) | (with_reducible refine e_cf ?_ ?_; · (first | omega | ((try simp (disch := omega) only [w32_eq, w64_eq, ix_n, ix_e, sto_n, sto_e, sto_r, zf_r, Int.toNat_natCast, true_or, or_true, eq_self, i11, Bz_f]) <;> (first | omega | decide)))) | with_reducible refine e_call (r_isS i12 (by decide)) ?_); try with_reducible rfl
  · intro f m a i Mc Mr hp
    have hcf : CFt Mc := by
      rcases hp with h | h
      · exact h.cf
      · exact h.cf
    have h2 := hcf.2
    refine ⟨?_, ?_⟩
    · try dsimp only
      rw [fix_s]
      unfold k_Pa_parseSum_7
      refine e_let (e_sp (fun _ => ?_) (fun _ => rfl))
      repeat (first | with_reducible refine e_let ?_ | with_reducible refine e_cs ?_ | with_reducible refine e_clet ?_ | with_reducible refine e_cc ?_ | (with_reducible refine e_chk ?_ ?_; · (first | omega | ((try simp (disch := omega) only [w32_eq, w64_eq, ix_n, ix_e, sto_n, sto_e, sto_r, zf_r, Int.toNat_natCast, true_or, or_true, eq_self, h2]) <;> (first | omega | decide)))) | (with_reducible refine e_cchk ?_ ?_; · (first | omega | ((try simp (disch := omega) only [w32_eq, w64_eq, ix_n, ix_e, sto_n, sto_e, sto_r, zf_r, Int.toNat_natCast, true_or, or_true, eq_self, h2]) <;> (first | omega | decide)))) | (with_reducible refine e_t ?_ ?_; · (first | omega | ((try simp (disch := omega) only [w32_eq, w64_eq, ix_n, ix_e, sto_n, sto_e, sto_r, zf_r, Int.toNat_natCast, true_or, or_true, eq_self, h2]) <;> (first | omega | decide)))) | (with_reducible refine e_f ?_ ?_; · (first | omega | ((try simp (disch := omega) only [w32_eq, w64_eq, ix_n, ix_e, sto_n, sto_e, sto_r, zf_r, Int.toNat_natCast, true_or, or_true, eq_self, h2]) <;> (first | omega | decide)))) | (with_reducible refine e_ct ?_ ?_; · (first | omega | ((try simp (disch := omega) only [w32_eq, w64_eq, ix_n, ix_e, sto_n, sto_e, sto_r, zf_r, Int.toNat_natCast, true_or, or_true, eq_self, h2]) <;> (first | omega | decide)))) | (with_reducible refine e_cf ?_ ?_; · (first | omega | ((try simp (disch := omega) only [w32_eq, w64_eq, ix_n, ix_e, sto_n, sto_e, sto_r, zf_r, Int.toNat_natCast, true_or, or_true, eq_self, h2]) <;> (first | omega | decide))))); try with_reducible rfl
    · try dsimp only
      rw [fix_s]
      unfold k_Mo_readSum_5
      rcases hp with h | h
      · have h48 := h.2.2.2.2.2.2.2.1
        have htr := h.tr
        repeat (first | with_reducible refine e_let ?_ | with_reducible refine e_cs ?_ | with_reducible refine e_clet ?_ | with_reducible refine e_cc ?_ | (with_reducible refine e_chk ?_ ?_; · (first | omega | ((try simp (disch := omega) only [w32_eq, w64_eq, ix_n, ix_e, sto_n, sto_e, sto_r, zf_r, Int.toNat_natCast, true_or, or_true, eq_self, h48, Bz_f]) <;> (first | omega | decide)))) | (with_reducible refine e_cchk ?_ ?_; · (first | omega | ((try simp (disch := omega) only [w32_eq, w64_eq, ix_n, ix_e, sto_n, sto_e, sto_r, zf_r, Int.toNat_natCast, true_or, or_true, eq_self, h48, Bz_f]) <;> (first | omega | decide)))) | (with_reducible refine e_t ?_ ?_; · (first | omega | ((try simp (disch := omega) only [w32_eq, w64_eq, ix_n, ix_e, sto_n, sto_e, sto_r, zf_r, Int.toNat_natCast, true_or, or_true, eq_self, h48, Bz_f]) <;> (first | omega | decide)))) | (with_reducible refine e_f ?_ ?_; · (first | omega | ((try simp (disch := omega) only [w32_eq, w64_eq, ix_n, ix_e, sto_n, sto_e, sto_r, zf_r, Int.toNat_natCast, true_or, or_true, eq_self, h48, Bz_f]) <;> (first | omega | decide)))) | (with_reducible refine e_ct ?_ ?_; · (first | omega | ((try simp (disch := omega) only [w32_eq, w64_eq, ix_n, ix_e, sto_n, sto_e, sto_r, zf_r, Int.toNat_natCast, true_or, or_true, eq_self, h48, Bz_f]) <;> (first | omega | decide)))) | (with_reducible refine e_cf ?_ ?_; · (first | omega | ((try simp (disch := omega) only [w32_eq, w64_eq, ix_n, ix_e, sto_n, sto_e, sto_r, zf_r, Int.toNat_natCast, true_or, or_true, eq_self, h48, Bz_f]) <;> (first | omega | decide)))) | with_reducible refine e_call (r_isS htr (by decide)) ?_); try with_reducible rfl
      · have h4 := h.2.2.2.1
        have h5 := h.2.2.2.2.1
        repeat (first | with_reducible refine e_let ?_ | with_reducible refine e_cs ?_ | with_reducible refine e_clet ?_ | with_reducible refine e_cc ?_ | (with_reducible refine e_chk ?_ ?_; · (first | omega | ((try simp (disch := omega) only [w32_eq, w64_eq, ix_n, ix_e, sto_n, sto_e, sto_r, zf_r, Int.toNat_natCast, true_or, or_true, eq_self, h5]) <;> (first | omega | decide)))) | (with_reducible refine e_cchk ?_ ?_; · (first | omega | ((try simp (disch := omega) only [w32_eq, w64_eq, ix_n, ix_e, sto_n, sto_e, sto_r, zf_r, Int.toNat_natCast, true_or, or_true, eq_self, h5]) <;> (first | omega | decide)))) | (with_reducible refine e_t ?_ ?_; · (first | omega | ((try simp (disch := omega) only [w32_eq, w64_eq, ix_n, ix_e, sto_n, sto_e, sto_r, zf_r, Int.toNat_natCast, true_or, or_true, eq_self, h5]) <;> (first | omega | decide)))) | (with_reducible refine e_f ?_ ?_; · (first | omega | ((try simp (disch := omega) only [w32_eq, w64_eq, ix_n, ix_e, sto_n, sto_e, sto_r, zf_r, Int.toNat_natCast, true_or, or_true, eq_self, h5]) <;> (first | omega | decide)))) | (with_reducible refine e_ct ?_ ?_; · (first | omega | ((try simp (disch := omega) only [w32_eq, w64_eq, ix_n, ix_e, sto_n, sto_e, sto_r, zf_r, Int.toNat_natCast, true_or, or_true, eq_self, h5]) <;> (first | omega | decide)))) | (with_reducible refine e_cf ?_ ?_; · (first | omega | ((try simp (disch := omega) only [w32_eq, w64_eq, ix_n, ix_e, sto_n, sto_e, sto_r, zf_r, Int.toNat_natCast, true_or, or_true, eq_self, h5]) <;> (first | omega | decide))))); try with_reducible rfl
  · intro f g t s m a i Mc Mr gd hS hi
    obtain ⟨cc, ⟨i1, i2, i3, i4, i5, i6, i7⟩, i8, i9, i10, i11, i12, e', l1, l2, l3, l4, l5⟩ := gd
    have h6 := cc.2.2.1.1
    have n5 := cc.1
    refine ⟨?_, ?_⟩
    · try dsimp only
      rw [fix_s]
      unfold k_Pa_parseSum_7 k_Pa_parseSum_33 k_Pa_parseSum_47
      rcases hS with e | e <;> subst e
      · repeat (first | with_reducible refine e_let ?_ | with_reducible refine e_cs ?_ | with_reducible refine e_clet ?_ | with_reducible refine e_cc ?_ | (with_reducible refine e_chk ?_ ?_; · (first | omega | ((try simp (disch := omega) only [w32_eq, w64_eq, ix_n, ix_e, sto_n, sto_e, sto_r, zf_r, Int.toNat_natCast, true_or, or_true, eq_self, h6, i8]) <;> (first | omega | decide)))) | (with_reducible refine e_cchk ?_ ?_; · (first | omega | ((try simp (disch := omega) only [w32_eq, w64_eq, ix_n, ix_e, sto_n, sto_e, sto_r, zf_r, Int.toNat_natCast, true_or, or_true, eq_self, h6, i8]) <;> (first | omega | decide)))) | (with_reducible refine e_t ?_ ?_; · (first | omega | ((try simp (disch := omega) only [w32_eq, w64_eq, ix_n, ix_e, sto_n, sto_e, sto_r, zf_r, Int.toNat_natCast, true_or, or_true, eq_self, h6, i8]) <;> (first | omega | decide)))) | (with_reducible refine e_f ?_ ?_; · (first | omega | ((try simp (disch := omega) only [w32_eq, w64_eq, ix_n, ix_e, sto_n, sto_e, sto_r, zf_r, Int.toNat_natCast, true_or, or_true, eq_self, h6, i8]) <;> (first | omega | decide)))) | (with_reducible refine e_ct ?_ ?_; · (first | omega | ((try simp (disch := omega) only [w32_eq, w64_eq, ix_n, ix_e, sto_n, sto_e, sto_r, zf_r, Int.toNat_natCast, true_or, or_true, eq_self, h6, i8]) <;> (first | omega | decide)))) | (with_reducible refine e_cf ?_ ?_; · (first | omega | ((try simp (disch := omega) only [w32_eq, w64_eq, ix_n, ix_e, sto_n, sto_e, sto_r, zf_r, Int.toNat_natCast, true_or, or_true, eq_self, h6, i8]) <;> (first | omega | decide)))))
        rfl
      · repeat (first | with_reducible refine e_let ?_ | with_reducible refine e_cs ?_ | with_reducible refine e_clet ?_ | with_reducible refine e_cc ?_ | (with_reducible refine e_chk ?_ ?_; · (first | omega | ((try simp (disch := omega) only [w32_eq, w64_eq, ix_n, ix_e, sto_n, sto_e, sto_r, zf_r, Int.toNat_natCast, true_or, or_true, eq_self, h6, i8]) <;> (first | omega | decide)))) | (with_reducible refine e_cchk ?_ ?_; · (first | omega | ((try simp (disch := omega) only [w32_eq, w64_eq, ix_n, ix_e, sto_n, sto_e, sto_r, zf_r, Int.toNat_natCast, true_or, or_true, eq_self, h6, i8]) <;> (first | omega | decide)))) | (with_reducible refine e_t ?_ ?_; · (first | omega | ((try simp (disch := omega) only [w32_eq, w64_eq, ix_n, ix_e, sto_n, sto_e, sto_r, zf_r, Int.toNat_natCast, true_or, or_true, eq_self, h6, i8]) <;> (first | omega | decide)))) | (with_reducible refine e_f ?_ ?_; · (first | omega | ((try simp (disch := omega) only [w32_eq, w64_eq, ix_n, ix_e, sto_n, sto_e, sto_r, zf_r, Int.toNat_natCast, true_or, or_true, eq_self, h6, i8]) <;> (first | omega | decide)))) | (with_reducible refine e_ct ?_ ?_; · (first | omega | ((try simp (disch := omega) only [w32_eq, w64_eq, ix_n, ix_e, sto_n, sto_e, sto_r, zf_r, Int.toNat_natCast, true_or, or_true, eq_self, h6, i8]) <;> (first | omega | decide)))) | (with_reducible refine e_cf ?_ ?_; · (first | omega | ((try simp (disch := omega) only [w32_eq, w64_eq, ix_n, ix_e, sto_n, sto_e, sto_r, zf_r, Int.toNat_natCast, true_or, or_true, eq_self, h6, i8]) <;> (first | omega | decide)))))
        rfl
    · try dsimp only
      rw [fix_s]
      unfold k_Mo_readSum_5 k_Mo_readSum_30 k_Mo_readSum_44
      rcases hS with e | e <;> subst e
      · repeat (first | with_reducible refine e_let ?_ | with_reducible refine e_cs ?_ | with_reducible refine e_clet ?_ | with_reducible refine e_cc ?_ | (with_reducible refine e_chk ?_ ?_; · (first | omega | ((try simp (disch := omega) only [w32_eq, w64_eq, ix_n, ix_e, sto_n, sto_e, sto_r, zf_r, Int.toNat_natCast, true_or, or_true, eq_self, i11, Bz_t, Bz_f]) <;> (first | omega | decide)))) | (with_reducible refine e_cchk ?_ ?_; · (first | omega | ((try simp (disch := omega) only [w32_eq, w64_eq, ix_n, ix_e, sto_n, sto_e, sto_r, zf_r, Int.toNat_natCast, true_or, or_true, eq_self, i11, Bz_t, Bz_f]) <;> (first | omega | decide)))) | (with_reducible refine e_t ?_ ?_; · (first | omega | ((try simp (disch := omega) only [w32_eq, w64_eq, ix_n, ix_e, sto_n, sto_e, sto_r, zf_r, Int.toNat_natCast, true_or, or_true, eq_self, i11, Bz_t, Bz_f]) <;> (first | omega | decide)))) | (with_reducible refine e_f ?_ ?_; · (first | omega | ((try simp (disch := omega) only [w32_eq, w64_eq, ix_n, ix_e, sto_n, sto_e, sto_r, zf_r, Int.toNat_natCast, true_or, or_true, eq_self, i11, Bz_t, Bz_f]) <;> (first | omega | decide)))) | (with_reducible refine e_ct ?_ ?_; · (first | omega | ((try simp (disch := omega) only [w32_eq, w64_eq, ix_n, ix_e, sto_n, sto_e, sto_r, zf_r, Int.toNat_natCast, true_or, or_true, eq_self, i11, Bz_t, Bz_f]) <;> (first | omega | decide)))) | (with_reducible refine e_cf ?_ ?_; · (first | omega | ((try simp (disch := omega) only [w32_eq, w64_eq, ix_n, ix_e, sto_n, sto_e, sto_r, zf_r, Int.toNat_natCast, true_or, or_true, eq_self, i11, Bz_t, Bz_f]) <;> (first | omega | decide)))) | with_reducible refine e_call (r_isS i12 (by decide)) ?_)
        rfl
      · repeat (first | with_reducible refine e_let ?_ | with_reducible refine e_cs ?_ | with_reducible refine e_clet ?_ | with_reducible refine e_cc ?_ | (with_reducible refine e_chk ?_ ?_; · (first | omega | ((try simp (disch := omega) only [w32_eq, w64_eq, ix_n, ix_e, sto_n, sto_e, sto_r, zf_r, Int.toNat_natCast, true_or, or_true, eq_self, i11, Bz_t, Bz_f]) <;> (first | omega | decide)))) | (with_reducible refine e_cchk ?_ ?_; · (first | omega | ((try simp (disch := omega) only [w32_eq, w64_eq, ix_n, ix_e, sto_n, sto_e, sto_r, zf_r, Int.toNat_natCast, true_or, or_true, eq_self, i11, Bz_t, Bz_f]) <;> (first | omega | decide)))) | (with_reducible refine e_t ?_ ?_; · (first | omega | ((try simp (disch := omega) only [w32_eq, w64_eq, ix_n, ix_e, sto_n, sto_e, sto_r, zf_r, Int.toNat_natCast, true_or, or_true, eq_self, i11, Bz_t, Bz_f]) <;> (first | omega | decide)))) | (with_reducible refine e_f ?_ ?_; · (first | omega | ((try simp (disch := omega) only [w32_eq, w64_eq, ix_n, ix_e, sto_n, sto_e, sto_r, zf_r, Int.toNat_natCast, true_or, or_true, eq_self, i11, Bz_t, Bz_f]) <;> (first | omega | decide)))) | (with_reducible refine e_ct ?_ ?_; · (first | omega | ((try simp (disch := omega) only [w32_eq, w64_eq, ix_n, ix_e, sto_n, sto_e, sto_r, zf_r, Int.toNat_natCast, true_or, or_true, eq_self, i11, Bz_t, Bz_f]) <;> (first | omega | decide)))) | (with_reducible refine e_cf ?_ ?_; · (first | omega | ((try simp (disch := omega) only [w32_eq, w64_eq, ix_n, ix_e, sto_n, sto_e, sto_r, zf_r, Int.toNat_natCast, true_or, or_true, eq_self, i11, Bz_t, Bz_f]) <;> (first | omega | decide)))) | with_reducible refine e_call (r_isS i12 (by decide)) ?_)
        rfl
