/-! both read the same grammar: the states -/
def Cm (b : Nat → Int) (n D : Nat) (nm : Nat → Int) (Mc Mr : Mem) : Prop := n ≤ 500 ∧ BtB b ∧ TpC b n Mc ∧ TpR b n Mr ∧ NmI nm D ∧ Mc 57 1 = (D : Int) ∧ (∀ i, i < D → Mc 61 i = nm i) ∧ Mr 111 57 = (D : Int) ∧ ∀ i, i < D → Mr 154 i = cv (nm i)
def Gd (b : Nat → Int) (n D : Nat) (nm : Nat → Int) (t : Int) (s m a : Nat) (Mc Mr : Mem) : Prop := Cm b n D nm Mc Mr ∧ (Mc 57 2 = (s : Int) ∧ Mr 111 58 = (m : Int) ∧ s ≤ m ∧ m ≤ a ∧ a ≤ n ∧ Mc 55 9 = (a : Int) ∧ Mr 111 51 = (a : Int)) ∧ Mc 55 8 = t ∧ t ≠ 1 ∧ Mc 55 2 = 0 ∧ Mr 111 48 = 0 ∧ TR t (Mc 55 11) (Mc 55 10) Mr ∧ ∃ e : Nat, e ≤ n ∧ a ≤ e ∧ Mc 55 7 = (e : Int) ∧ Mr 111 52 = (e : Int) ∧ (t ≠ 0 → a < e)
def Pd (n m a : Nat) (Mc Mr : Mem) : Prop := n ≤ 500 ∧ Mc 55 2 = 1 ∧ Mc 55 3 = (a : Int) ∧ Mc 55 8 = 1 ∧ (0 ≤ Mc 57 2 ∧ Mc 57 2 ≤ 500) ∧ Mr 111 50 = 4 ∧ Mr 111 51 = (a : Int) ∧ Mr 111 48 = 0 ∧ Mr 111 58 = (m : Int) ∧ m ≤ a ∧ a ≤ n
def Ft (n m a : Nat) (Mc Mr : Mem) : Prop := n ≤ 500 ∧ Mc 55 8 = 1 ∧ (0 ≤ Mc 57 2 ∧ Mc 57 2 ≤ 500) ∧ (1 ≤ Mc 55 2 ∧ Mc 55 2 ≤ 6) ∧ Mr 111 48 = Mc 55 2 ∧ Mr 111 49 = Mc 55 3 ∧ Mr 111 58 = (m : Int) ∧ m ≤ a ∧ a ≤ n
def GP (b : Nat → Int) (n D : Nat) (nm : Nat → Int) (s m a : Nat) (Mc Mr : Mem) : Prop := (∃ t, Gd b n D nm t s m a Mc Mr) ∨ Pd n m a Mc Mr
def CFt (M : Mem) : Prop := (1 ≤ M 55 2 ∧ M 55 2 ≤ 6) ∧ M 55 8 = 1
def Out (b : Nat → Int) (n D : Nat) (nm : Nat → Int) (Q : Fnn → Prop) (N s m a a1 : Nat) (Mc Mr Mc' Mr' : Mem) : Prop := ∃ m' a' : Nat, m ≤ m' ∧ m' + a ≤ m + a' ∧ a1 ≤ a' ∧ ((∃ t s', Gd b n D nm t s' m' a' Mc' Mr' ∧ s ≤ s' ∧ s' + m ≤ s + m' ∧ (∀ i, i < s → Mc' 58 i = Mc 58 i) ∧ (∀ i, i < m → Mr' 152 i = Mr 152 i) ∧ ∃ F, Q F ∧ Den N D F (Mc' 58) s s' (Mr' 152) m m') ∨ Pd n m' a' Mc' Mr' ∨ Ft n m' a' Mc' Mr')
def Ct (b : Nat → Int) (n D : Nat) (nm : Nat → Int) (f g : Mem → Res) (Q : Fnn → Prop) (N : Nat) : Prop := ∀ s m a Mc Mr, GP b n D nm s m a Mc Mr → Ok2 (f Mc) (g Mr) (Out b n D nm Q N s m a a Mc Mr)
def QA : Fnn → Prop := fun _ => True
theorem Pd.cf {n m a : Nat} {Mc Mr : Mem} (h : Pd n m a Mc Mr) : CFt Mc := by
  obtain ⟨-, h1, -, h2, -⟩ := h
  exact ⟨by omega, h2⟩
theorem Ft.cf {n m a : Nat} {Mc Mr : Mem} (h : Ft n m a Mc Mr) : CFt Mc := ⟨h.2.2.2.1, h.2.1⟩
theorem Pd.tr {n m a : Nat} {Mc Mr : Mem} (h : Pd n m a Mc Mr) : TR 1 0 0 Mr := Or.inr (Or.inl ⟨rfl, h.2.2.2.2.2.1⟩)
theorem TpC.on {b : Nat → Int} {n : Nat} {M M' : Mem} (h : TpC b n M) (e0 : M' 55 3 = M 55 3) (e1 : M' 55 6 = M 55 6) (e2 : M' 56 = M 56) : TpC b n M' := ⟨by rw [e1]; exact h.1, by rw [e0]; exact h.2.1, fun j hj => by rw [e2]; exact h.2.2 j hj⟩
theorem TpR.on {b : Nat → Int} {n : Nat} {M M' : Mem} (h : TpR b n M) (e1 : M' 111 45 = M 111 45) (e2 : M' 146 = M 146) : TpR b n M' := ⟨by rw [e1]; exact h.1, fun j hj => by rw [e2]; exact h.2 j hj⟩
theorem Cm.on {b : Nat → Int} {n D : Nat} {nm : Nat → Int} {Mc Mr Mc' Mr' : Mem} (h : Cm b n D nm Mc Mr) (e0 : Mc' 55 3 = Mc 55 3) (e1 : Mc' 55 6 = Mc 55 6) (e2 : Mc' 56 = Mc 56) (e3 : Mc' 57 1 = Mc 57 1) (e4 : Mc' 61 = Mc 61) (f1 : Mr' 111 45 = Mr 111 45) (f2 : Mr' 146 = Mr 146) (f3 : Mr' 111 57 = Mr 111 57) (f4 : Mr' 154 = Mr 154) : Cm b n D nm Mc' Mr' := by
  obtain ⟨h1, h2, h3, h4, h5, h6, h7, h8, h9⟩ := h
  exact ⟨h1, h2, h3.on e0 e1 e2, h4.on f1 f2, h5, by rw [e3]; exact h6, fun i hi => by rw [e4]; exact h7 i hi, by rw [f3]; exact h8, fun i hi => by rw [f4]; exact h9 i hi⟩
theorem gd_adv {b : Nat → Int} {n D : Nat} {nm : Nat → Int} {s m e : Nat} {Mc Mr : Mem} (hC : Cm b n D nm Mc Mr) (h2 : Mc 55 2 = 0) (h48 : Mr 111 48 = 0) (he : e ≤ n) (h7 : Mc 55 7 = (e : Int)) (h52 : Mr 111 52 = (e : Int)) (hs : Mc 57 2 = (s : Int)) (hm : Mr 111 58 = (m : Int)) (hsm : s ≤ m) (hme : m ≤ e) :
    Ok2 (d_Pa_advance Mc) (d_Mo_next Mr) (fun Mc' Mr' => ∃ a, e ≤ a ∧ a ≤ n ∧ GP b n D nm s m a Mc' Mr' ∧ Mc' 58 = Mc 58 ∧ Mr' 152 = Mr 152) := by
  obtain ⟨c1, c2, c3, c4, c5⟩ := hC
  refine ok2_m (adv2 c1 c2 c3 c4 h2 h7 h52 he) (fun Mc' Mr' q => ?_)
  obtain ⟨⟨a, a1, a2, a3, a4, a5, a6⟩, f1, f2⟩ := q
  refine ⟨a, a1, a2, ?_, f1.c 58 (by decide) (by decide), f2.c 152 (by decide) (by decide)⟩
  have g1 : Mc' 57 2 = (s : Int) := by rw [f1.f 57 2 (by decide) (by decide), hs]
  have g2 : Mr' 111 58 = (m : Int) := by rw [f2.f 111 58 (by decide) (by decide), hm]
  have g3 : Mr' 111 48 = 0 := by rw [f2.f 111 48 (by decide) (by decide), h48]
  have g4 : Mc' 55 3 = Mc 55 3 → Cm b n D nm Mc' Mr' := fun e0 => Cm.on ⟨c1, c2, c3, c4, c5⟩ e0 (f1.f 55 6 (by decide) (by decide)) (f1.c 56 (by decide) (by decide)) (f1.f 57 1 (by decide) (by decide)) (f1.c 61 (by decide) (by decide)) (f2.f 111 45 (by decide) (by decide)) (f2.c 146 (by decide) (by decide)) (f2.f 111 57 (by decide) (by decide)) (f2.c 154 (by decide) (by decide))
  rcases a6 with ⟨b1, b2, b0, e', b3, b4, b5, b6, b7⟩ | ⟨b1, b2, b3⟩
  · exact Or.inl ⟨Mc' 55 8, g4 (by rw [b0, c3.2.1]), ⟨g1, g2, hsm, by omega, a2, a3, a4⟩, rfl, b1, b2, g3, a5, e', b3, b4, b5, b6, b7⟩
  · right
    rw [b1] at a5
    exact ⟨c1, b2, b3, b1, by omega, a5.w.2.2.2.1.mpr rfl, a4, g3, g2, by omega, a2⟩
theorem s_add {w v : Int} {s : Nat} {M : Mem} (h : M 57 2 = (s : Int)) (hs : s < 500) : d_Tx_add 57 w v M = some (0, sto (sto M 58 s (cdC w v)) 57 2 ((s + 1 : Nat) : Int)) := by
  have x0 : ix (s : Int) = s := ix_n (by omega)
  unfold d_Tx_add
  repeat (first | with_reducible refine e_let ?_ | with_reducible refine e_cs ?_ | with_reducible refine e_clet ?_ | with_reducible refine e_cc ?_ | (with_reducible refine e_chk ?_ ?_; · (first | omega | ((try simp (disch := omega) only [w32_eq, w64_eq, ix_n, ix_e, sto_n, sto_e, sto_r, zf_r, Int.toNat_natCast, true_or, or_true, eq_self, h, x0]) <;> (first | omega | decide)))) | (with_reducible refine e_cchk ?_ ?_; · (first | omega | ((try simp (disch := omega) only [w32_eq, w64_eq, ix_n, ix_e, sto_n, sto_e, sto_r, zf_r, Int.toNat_natCast, true_or, or_true, eq_self, h, x0]) <;> (first | omega | decide)))) | (with_reducible refine e_t ?_ ?_; · (first | omega | ((try simp (disch := omega) only [w32_eq, w64_eq, ix_n, ix_e, sto_n, sto_e, sto_r, zf_r, Int.toNat_natCast, true_or, or_true, eq_self, h, x0]) <;> (first | omega | decide)))) | (with_reducible refine e_f ?_ ?_; · (first | omega | ((try simp (disch := omega) only [w32_eq, w64_eq, ix_n, ix_e, sto_n, sto_e, sto_r, zf_r, Int.toNat_natCast, true_or, or_true, eq_self, h, x0]) <;> (first | omega | decide)))) | (with_reducible refine e_ct ?_ ?_; · (first | omega | ((try simp (disch := omega) only [w32_eq, w64_eq, ix_n, ix_e, sto_n, sto_e, sto_r, zf_r, Int.toNat_natCast, true_or, or_true, eq_self, h, x0]) <;> (first | omega | decide)))) | (with_reducible refine e_cf ?_ ?_; · (first | omega | ((try simp (disch := omega) only [w32_eq, w64_eq, ix_n, ix_e, sto_n, sto_e, sto_r, zf_r, Int.toNat_natCast, true_or, or_true, eq_self, h, x0]) <;> (first | omega | decide)))))
  rw [h, sto_r (by decide), h, x0]
  rfl
theorem add_cf {w v : Int} {M : Mem} (h : 0 ≤ M 57 2 ∧ M 57 2 ≤ 500) : ∃ M', d_Tx_add 57 w v M = some (0, M') ∧ M' 55 = M 55 ∧ (0 ≤ M' 57 2 ∧ M' 57 2 ≤ 500) := by
  by_cases c : M 57 2 < 500
  · refine ⟨_, s_add (s := (M 57 2).toNat) (by omega) (by omega), by rw [sto_r (by decide), sto_r (by decide)], ?_⟩
    rw [sto_e]; omega
  · refine ⟨M, ?_, rfl, h⟩
    unfold d_Tx_add
    repeat (first | with_reducible refine e_let ?_ | with_reducible refine e_cs ?_ | with_reducible refine e_clet ?_ | with_reducible refine e_cc ?_ | (with_reducible refine e_chk ?_ ?_; · (first | omega | ((try simp (disch := omega) only [w32_eq, w64_eq, ix_n, ix_e, sto_n, sto_e, sto_r, zf_r, Int.toNat_natCast, true_or, or_true, eq_self]) <;> (first | omega | decide)))) | (with_reducible refine e_cchk ?_ ?_; · (first | omega | ((try simp (disch := omega) only [w32_eq, w64_eq, ix_n, ix_e, sto_n, sto_e, sto_r, zf_r, Int.toNat_natCast, true_or, or_true, eq_self]) <;> (first | omega | decide)))) | (with_reducible refine e_t ?_ ?_; · (first | omega | ((try simp (disch := omega) only [w32_eq, w64_eq, ix_n, ix_e, sto_n, sto_e, sto_r, zf_r, Int.toNat_natCast, true_or, or_true, eq_self]) <;> (first | omega | decide)))) | (with_reducible refine e_f ?_ ?_; · (first | omega | ((try simp (disch := omega) only [w32_eq, w64_eq, ix_n, ix_e, sto_n, sto_e, sto_r, zf_r, Int.toNat_natCast, true_or, or_true, eq_self]) <;> (first | omega | decide)))) | (with_reducible refine e_ct ?_ ?_; · (first | omega | ((try simp (disch := omega) only [w32_eq, w64_eq, ix_n, ix_e, sto_n, sto_e, sto_r, zf_r, Int.toNat_natCast, true_or, or_true, eq_self]) <;> (first | omega | decide)))) | (with_reducible refine e_cf ?_ ?_; · (first | omega | ((try simp (disch := omega) only [w32_eq, w64_eq, ix_n, ix_e, sto_n, sto_e, sto_r, zf_r, Int.toNat_natCast, true_or, or_true, eq_self]) <;> (first | omega | decide))))); try with_reducible rfl
theorem s_mark {w v : Int} {m : Nat} {M : Mem} (h : M 111 58 = (m : Int)) (hm : m < 1100) : d_Mo_mark w v M = some (0, sto (sto M 152 m (1048576 * w + v)) 111 58 ((m + 1 : Nat) : Int)) := by
  have x0 : ix (m : Int) = m := ix_n (by omega)
  unfold d_Mo_mark
  repeat (first | with_reducible refine e_let ?_ | with_reducible refine e_cs ?_ | with_reducible refine e_clet ?_ | with_reducible refine e_cc ?_ | (with_reducible refine e_chk ?_ ?_; · (first | omega | ((try simp (disch := omega) only [w32_eq, w64_eq, ix_n, ix_e, sto_n, sto_e, sto_r, zf_r, Int.toNat_natCast, true_or, or_true, eq_self, h, x0]) <;> (first | omega | decide)))) | (with_reducible refine e_cchk ?_ ?_; · (first | omega | ((try simp (disch := omega) only [w32_eq, w64_eq, ix_n, ix_e, sto_n, sto_e, sto_r, zf_r, Int.toNat_natCast, true_or, or_true, eq_self, h, x0]) <;> (first | omega | decide)))) | (with_reducible refine e_t ?_ ?_; · (first | omega | ((try simp (disch := omega) only [w32_eq, w64_eq, ix_n, ix_e, sto_n, sto_e, sto_r, zf_r, Int.toNat_natCast, true_or, or_true, eq_self, h, x0]) <;> (first | omega | decide)))) | (with_reducible refine e_f ?_ ?_; · (first | omega | ((try simp (disch := omega) only [w32_eq, w64_eq, ix_n, ix_e, sto_n, sto_e, sto_r, zf_r, Int.toNat_natCast, true_or, or_true, eq_self, h, x0]) <;> (first | omega | decide)))) | (with_reducible refine e_ct ?_ ?_; · (first | omega | ((try simp (disch := omega) only [w32_eq, w64_eq, ix_n, ix_e, sto_n, sto_e, sto_r, zf_r, Int.toNat_natCast, true_or, or_true, eq_self, h, x0]) <;> (first | omega | decide)))) | (with_reducible refine e_cf ?_ ?_; · (first | omega | ((try simp (disch := omega) only [w32_eq, w64_eq, ix_n, ix_e, sto_n, sto_e, sto_r, zf_r, Int.toNat_natCast, true_or, or_true, eq_self, h, x0]) <;> (first | omega | decide)))))
  rw [h, sto_r (by decide), h, x0]
  rfl
/-! once the component has found a fault, it goes on without moving -/
theorem cf_fail {k : Int} {M : Mem} (h : CFt M) : d_Pa_fail k M = some (0, M) := by
  obtain ⟨h1, h2⟩ := h
  unfold d_Pa_fail k_Pa_fail_20
  repeat (first | with_reducible refine e_let ?_ | with_reducible refine e_cs ?_ | with_reducible refine e_clet ?_ | with_reducible refine e_cc ?_ | (with_reducible refine e_chk ?_ ?_; · (first | omega | ((try simp (disch := omega) only [w32_eq, w64_eq, ix_n, ix_e, sto_n, sto_e, sto_r, zf_r, Int.toNat_natCast, true_or, or_true, eq_self]) <;> (first | omega | decide)))) | (with_reducible refine e_cchk ?_ ?_; · (first | omega | ((try simp (disch := omega) only [w32_eq, w64_eq, ix_n, ix_e, sto_n, sto_e, sto_r, zf_r, Int.toNat_natCast, true_or, or_true, eq_self]) <;> (first | omega | decide)))) | (with_reducible refine e_t ?_ ?_; · (first | omega | ((try simp (disch := omega) only [w32_eq, w64_eq, ix_n, ix_e, sto_n, sto_e, sto_r, zf_r, Int.toNat_natCast, true_or, or_true, eq_self]) <;> (first | omega | decide)))) | (with_reducible refine e_f ?_ ?_; · (first | omega | ((try simp (disch := omega) only [w32_eq, w64_eq, ix_n, ix_e, sto_n, sto_e, sto_r, zf_r, Int.toNat_natCast, true_or, or_true, eq_self]) <;> (first | omega | decide)))) | (with_reducible refine e_ct ?_ ?_; · (first | omega | ((try simp (disch := omega) only [w32_eq, w64_eq, ix_n, ix_e, sto_n, sto_e, sto_r, zf_r, Int.toNat_natCast, true_or, or_true, eq_self]) <;> (first | omega | decide)))) | (with_reducible refine e_cf ?_ ?_; · (first | omega | ((try simp (disch := omega) only [w32_eq, w64_eq, ix_n, ix_e, sto_n, sto_e, sto_r, zf_r, Int.toNat_natCast, true_or, or_true, eq_self]) <;> (first | omega | decide)))))
  rw [sto_i h2]
theorem cf_adv {M : Mem} (h : CFt M) : d_Pa_advance M = some (0, M) := by
  obtain ⟨h1, h2⟩ := h
  unfold d_Pa_advance
  repeat (first | with_reducible refine e_let ?_ | with_reducible refine e_cs ?_ | with_reducible refine e_clet ?_ | with_reducible refine e_cc ?_ | (with_reducible refine e_chk ?_ ?_; · (first | omega | ((try simp (disch := omega) only [w32_eq, w64_eq, ix_n, ix_e, sto_n, sto_e, sto_r, zf_r, Int.toNat_natCast, true_or, or_true, eq_self]) <;> (first | omega | decide)))) | (with_reducible refine e_cchk ?_ ?_; · (first | omega | ((try simp (disch := omega) only [w32_eq, w64_eq, ix_n, ix_e, sto_n, sto_e, sto_r, zf_r, Int.toNat_natCast, true_or, or_true, eq_self]) <;> (first | omega | decide)))) | (with_reducible refine e_t ?_ ?_; · (first | omega | ((try simp (disch := omega) only [w32_eq, w64_eq, ix_n, ix_e, sto_n, sto_e, sto_r, zf_r, Int.toNat_natCast, true_or, or_true, eq_self]) <;> (first | omega | decide)))) | (with_reducible refine e_f ?_ ?_; · (first | omega | ((try simp (disch := omega) only [w32_eq, w64_eq, ix_n, ix_e, sto_n, sto_e, sto_r, zf_r, Int.toNat_natCast, true_or, or_true, eq_self]) <;> (first | omega | decide)))) | (with_reducible refine e_ct ?_ ?_; · (first | omega | ((try simp (disch := omega) only [w32_eq, w64_eq, ix_n, ix_e, sto_n, sto_e, sto_r, zf_r, Int.toNat_natCast, true_or, or_true, eq_self]) <;> (first | omega | decide)))) | (with_reducible refine e_cf ?_ ?_; · (first | omega | ((try simp (disch := omega) only [w32_eq, w64_eq, ix_n, ix_e, sto_n, sto_e, sto_r, zf_r, Int.toNat_natCast, true_or, or_true, eq_self]) <;> (first | omega | decide))))); try with_reducible rfl
theorem cf_exp {k : Int} {M : Mem} (h : CFt M) (hk : w32 k ≠ 1) : d_Pa_expect k M = some (0, M) := by
  unfold d_Pa_expect
  rw [blet_s, h.2, if_neg (fun q => hk (by rw [← q]; rfl)), cf_fail h]; rfl
theorem cf_atom {RW RF : Int → Mem → Res} {d : Int} {M : Mem} (h : CFt M) : d_Pa_parseAtom RW RF d M = some (0, M) := by
  have h2 := h.2
  unfold d_Pa_parseAtom
  repeat (first | with_reducible refine e_let ?_ | with_reducible refine e_cs ?_ | with_reducible refine e_clet ?_ | with_reducible refine e_cc ?_ | (with_reducible refine e_chk ?_ ?_; · (first | omega | ((try simp (disch := omega) only [w32_eq, w64_eq, ix_n, ix_e, sto_n, sto_e, sto_r, zf_r, Int.toNat_natCast, true_or, or_true, eq_self, h2]) <;> (first | omega | decide)))) | (with_reducible refine e_cchk ?_ ?_; · (first | omega | ((try simp (disch := omega) only [w32_eq, w64_eq, ix_n, ix_e, sto_n, sto_e, sto_r, zf_r, Int.toNat_natCast, true_or, or_true, eq_self, h2]) <;> (first | omega | decide)))) | (with_reducible refine e_t ?_ ?_; · (first | omega | ((try simp (disch := omega) only [w32_eq, w64_eq, ix_n, ix_e, sto_n, sto_e, sto_r, zf_r, Int.toNat_natCast, true_or, or_true, eq_self, h2]) <;> (first | omega | decide)))) | (with_reducible refine e_f ?_ ?_; · (first | omega | ((try simp (disch := omega) only [w32_eq, w64_eq, ix_n, ix_e, sto_n, sto_e, sto_r, zf_r, Int.toNat_natCast, true_or, or_true, eq_self, h2]) <;> (first | omega | decide)))) | (with_reducible refine e_ct ?_ ?_; · (first | omega | ((try simp (disch := omega) only [w32_eq, w64_eq, ix_n, ix_e, sto_n, sto_e, sto_r, zf_r, Int.toNat_natCast, true_or, or_true, eq_self, h2]) <;> (first | omega | decide)))) | (with_reducible refine e_cf ?_ ?_; · (first | omega | ((try simp (disch := omega) only [w32_eq, w64_eq, ix_n, ix_e, sto_n, sto_e, sto_r, zf_r, Int.toNat_natCast, true_or, or_true, eq_self, h2]) <;> (first | omega | decide)))) | with_reducible refine e_call (cf_fail h) ?_); try with_reducible rfl
theorem cf_item {RW RF : Int → Mem → Res} {d : Int} {M : Mem} (h : CFt M) : d_Pa_parseItem RW RF d M = some (0, M) := by
  have h2 := h.2
  have e1 : d_Pa_stepOfItem (M 55 8) M = some (-1, M) := by rw [h2]; rfl
  unfold d_Pa_parseItem
  refine e_call (cf_atom h) ?_
  rw [show FU = 4294967295 + 1 from rfl, fix_s]
  unfold k_Pa_parseItem_7
  refine e_let (e_sp (fun _ => ?_) (fun _ => rfl))
  repeat (first | with_reducible refine e_let ?_ | with_reducible refine e_cs ?_ | with_reducible refine e_clet ?_ | with_reducible refine e_cc ?_ | (with_reducible refine e_chk ?_ ?_; · (first | omega | ((try simp (disch := omega) only [w32_eq, w64_eq, ix_n, ix_e, sto_n, sto_e, sto_r, zf_r, Int.toNat_natCast, true_or, or_true, eq_self]) <;> (first | omega | decide)))) | (with_reducible refine e_cchk ?_ ?_; · (first | omega | ((try simp (disch := omega) only [w32_eq, w64_eq, ix_n, ix_e, sto_n, sto_e, sto_r, zf_r, Int.toNat_natCast, true_or, or_true, eq_self]) <;> (first | omega | decide)))) | (with_reducible refine e_t ?_ ?_; · (first | omega | ((try simp (disch := omega) only [w32_eq, w64_eq, ix_n, ix_e, sto_n, sto_e, sto_r, zf_r, Int.toNat_natCast, true_or, or_true, eq_self]) <;> (first | omega | decide)))) | (with_reducible refine e_f ?_ ?_; · (first | omega | ((try simp (disch := omega) only [w32_eq, w64_eq, ix_n, ix_e, sto_n, sto_e, sto_r, zf_r, Int.toNat_natCast, true_or, or_true, eq_self]) <;> (first | omega | decide)))) | (with_reducible refine e_ct ?_ ?_; · (first | omega | ((try simp (disch := omega) only [w32_eq, w64_eq, ix_n, ix_e, sto_n, sto_e, sto_r, zf_r, Int.toNat_natCast, true_or, or_true, eq_self]) <;> (first | omega | decide)))) | (with_reducible refine e_cf ?_ ?_; · (first | omega | ((try simp (disch := omega) only [w32_eq, w64_eq, ix_n, ix_e, sto_n, sto_e, sto_r, zf_r, Int.toNat_natCast, true_or, or_true, eq_self]) <;> (first | omega | decide)))) | with_reducible refine e_call e1 ?_); try with_reducible rfl
theorem cf_sum {RW RF : Int → Mem → Res} {d : Int} {M : Mem} (h : CFt M) : d_Pa_parseSum RW RF d M = some (0, M) := by
  have h2 := h.2
  unfold d_Pa_parseSum
  refine e_call (cf_item h) ?_
  rw [show FU = 4294967295 + 1 from rfl, fix_s]
  unfold k_Pa_parseSum_7
  refine e_let (e_sp (fun _ => ?_) (fun _ => rfl))
  repeat (first | with_reducible refine e_let ?_ | with_reducible refine e_cs ?_ | with_reducible refine e_clet ?_ | with_reducible refine e_cc ?_ | (with_reducible refine e_chk ?_ ?_; · (first | omega | ((try simp (disch := omega) only [w32_eq, w64_eq, ix_n, ix_e, sto_n, sto_e, sto_r, zf_r, Int.toNat_natCast, true_or, or_true, eq_self, h2]) <;> (first | omega | decide)))) | (with_reducible refine e_cchk ?_ ?_; · (first | omega | ((try simp (disch := omega) only [w32_eq, w64_eq, ix_n, ix_e, sto_n, sto_e, sto_r, zf_r, Int.toNat_natCast, true_or, or_true, eq_self, h2]) <;> (first | omega | decide)))) | (with_reducible refine e_t ?_ ?_; · (first | omega | ((try simp (disch := omega) only [w32_eq, w64_eq, ix_n, ix_e, sto_n, sto_e, sto_r, zf_r, Int.toNat_natCast, true_or, or_true, eq_self, h2]) <;> (first | omega | decide)))) | (with_reducible refine e_f ?_ ?_; · (first | omega | ((try simp (disch := omega) only [w32_eq, w64_eq, ix_n, ix_e, sto_n, sto_e, sto_r, zf_r, Int.toNat_natCast, true_or, or_true, eq_self, h2]) <;> (first | omega | decide)))) | (with_reducible refine e_ct ?_ ?_; · (first | omega | ((try simp (disch := omega) only [w32_eq, w64_eq, ix_n, ix_e, sto_n, sto_e, sto_r, zf_r, Int.toNat_natCast, true_or, or_true, eq_self, h2]) <;> (first | omega | decide)))) | (with_reducible refine e_cf ?_ ?_; · (first | omega | ((try simp (disch := omega) only [w32_eq, w64_eq, ix_n, ix_e, sto_n, sto_e, sto_r, zf_r, Int.toNat_natCast, true_or, or_true, eq_self, h2]) <;> (first | omega | decide))))); try with_reducible rfl
theorem cf_one {RW RF : Int → Mem → Res} {d : Int} {M : Mem} (h : CFt M) : d_Pa_parseOne RW RF d M = some (0, M) := by
  have h2 := h.2
  have e1 : d_Pa_stepOfCompares (M 55 8) M = some (-1, M) := by rw [h2]; rfl
  unfold d_Pa_parseOne k_Pa_parseOne_14 k_Pa_parseOne_24
  repeat (first | with_reducible refine e_let ?_ | with_reducible refine e_cs ?_ | with_reducible refine e_clet ?_ | with_reducible refine e_cc ?_ | (with_reducible refine e_chk ?_ ?_; · (first | omega | ((try simp (disch := omega) only [w32_eq, w64_eq, ix_n, ix_e, sto_n, sto_e, sto_r, zf_r, Int.toNat_natCast, true_or, or_true, eq_self, h2]) <;> (first | omega | decide)))) | (with_reducible refine e_cchk ?_ ?_; · (first | omega | ((try simp (disch := omega) only [w32_eq, w64_eq, ix_n, ix_e, sto_n, sto_e, sto_r, zf_r, Int.toNat_natCast, true_or, or_true, eq_self, h2]) <;> (first | omega | decide)))) | (with_reducible refine e_t ?_ ?_; · (first | omega | ((try simp (disch := omega) only [w32_eq, w64_eq, ix_n, ix_e, sto_n, sto_e, sto_r, zf_r, Int.toNat_natCast, true_or, or_true, eq_self, h2]) <;> (first | omega | decide)))) | (with_reducible refine e_f ?_ ?_; · (first | omega | ((try simp (disch := omega) only [w32_eq, w64_eq, ix_n, ix_e, sto_n, sto_e, sto_r, zf_r, Int.toNat_natCast, true_or, or_true, eq_self, h2]) <;> (first | omega | decide)))) | (with_reducible refine e_ct ?_ ?_; · (first | omega | ((try simp (disch := omega) only [w32_eq, w64_eq, ix_n, ix_e, sto_n, sto_e, sto_r, zf_r, Int.toNat_natCast, true_or, or_true, eq_self, h2]) <;> (first | omega | decide)))) | (with_reducible refine e_cf ?_ ?_; · (first | omega | ((try simp (disch := omega) only [w32_eq, w64_eq, ix_n, ix_e, sto_n, sto_e, sto_r, zf_r, Int.toNat_natCast, true_or, or_true, eq_self, h2]) <;> (first | omega | decide)))) | with_reducible refine e_call (cf_sum h) ?_ | with_reducible refine e_call e1 ?_ | with_reducible refine e_call (cf_fail h) ?_); try with_reducible rfl
theorem cf_test {RW RF : Int → Mem → Res} {d : Int} {M : Mem} (h : CFt M) : d_Pa_parseTest RW RF d M = some (0, M) := by
  have h2 := h.2
  unfold d_Pa_parseTest
  repeat (first | with_reducible refine e_let ?_ | with_reducible refine e_cs ?_ | with_reducible refine e_clet ?_ | with_reducible refine e_cc ?_ | (with_reducible refine e_chk ?_ ?_; · (first | omega | ((try simp (disch := omega) only [w32_eq, w64_eq, ix_n, ix_e, sto_n, sto_e, sto_r, zf_r, Int.toNat_natCast, true_or, or_true, eq_self, h2]) <;> (first | omega | decide)))) | (with_reducible refine e_cchk ?_ ?_; · (first | omega | ((try simp (disch := omega) only [w32_eq, w64_eq, ix_n, ix_e, sto_n, sto_e, sto_r, zf_r, Int.toNat_natCast, true_or, or_true, eq_self, h2]) <;> (first | omega | decide)))) | (with_reducible refine e_t ?_ ?_; · (first | omega | ((try simp (disch := omega) only [w32_eq, w64_eq, ix_n, ix_e, sto_n, sto_e, sto_r, zf_r, Int.toNat_natCast, true_or, or_true, eq_self, h2]) <;> (first | omega | decide)))) | (with_reducible refine e_f ?_ ?_; · (first | omega | ((try simp (disch := omega) only [w32_eq, w64_eq, ix_n, ix_e, sto_n, sto_e, sto_r, zf_r, Int.toNat_natCast, true_or, or_true, eq_self, h2]) <;> (first | omega | decide)))) | (with_reducible refine e_ct ?_ ?_; · (first | omega | ((try simp (disch := omega) only [w32_eq, w64_eq, ix_n, ix_e, sto_n, sto_e, sto_r, zf_r, Int.toNat_natCast, true_or, or_true, eq_self, h2]) <;> (first | omega | decide)))) | (with_reducible refine e_cf ?_ ?_; · (first | omega | ((try simp (disch := omega) only [w32_eq, w64_eq, ix_n, ix_e, sto_n, sto_e, sto_r, zf_r, Int.toNat_natCast, true_or, or_true, eq_self, h2]) <;> (first | omega | decide)))) | with_reducible refine e_call (cf_one h) ?_); try with_reducible rfl
theorem cf_begins {M : Mem} (h : CFt M) : d_Pa_beginsSum M = some (0, M) := by
  have h2 := h.2
  unfold d_Pa_beginsSum
  repeat (first | with_reducible refine e_let ?_ | with_reducible refine e_cs ?_ | with_reducible refine e_clet ?_ | with_reducible refine e_cc ?_ | (with_reducible refine e_chk ?_ ?_; · (first | omega | ((try simp (disch := omega) only [w32_eq, w64_eq, ix_n, ix_e, sto_n, sto_e, sto_r, zf_r, Int.toNat_natCast, true_or, or_true, eq_self, h2]) <;> (first | omega | decide)))) | (with_reducible refine e_cchk ?_ ?_; · (first | omega | ((try simp (disch := omega) only [w32_eq, w64_eq, ix_n, ix_e, sto_n, sto_e, sto_r, zf_r, Int.toNat_natCast, true_or, or_true, eq_self, h2]) <;> (first | omega | decide)))) | (with_reducible refine e_t ?_ ?_; · (first | omega | ((try simp (disch := omega) only [w32_eq, w64_eq, ix_n, ix_e, sto_n, sto_e, sto_r, zf_r, Int.toNat_natCast, true_or, or_true, eq_self, h2]) <;> (first | omega | decide)))) | (with_reducible refine e_f ?_ ?_; · (first | omega | ((try simp (disch := omega) only [w32_eq, w64_eq, ix_n, ix_e, sto_n, sto_e, sto_r, zf_r, Int.toNat_natCast, true_or, or_true, eq_self, h2]) <;> (first | omega | decide)))) | (with_reducible refine e_ct ?_ ?_; · (first | omega | ((try simp (disch := omega) only [w32_eq, w64_eq, ix_n, ix_e, sto_n, sto_e, sto_r, zf_r, Int.toNat_natCast, true_or, or_true, eq_self, h2]) <;> (first | omega | decide)))) | (with_reducible refine e_cf ?_ ?_; · (first | omega | ((try simp (disch := omega) only [w32_eq, w64_eq, ix_n, ix_e, sto_n, sto_e, sto_r, zf_r, Int.toNat_natCast, true_or, or_true, eq_self, h2]) <;> (first | omega | decide))))); try with_reducible rfl
theorem cf_may {d : Int} {M : Mem} (h : CFt M) : d_Pa_mayBegin 0 d M = some (0, M) := by
  have h1 := h.1
  unfold d_Pa_mayBegin k_Pa_mayBegin_23
  repeat (first | with_reducible refine e_let ?_ | with_reducible refine e_cs ?_ | with_reducible refine e_clet ?_ | with_reducible refine e_cc ?_ | (with_reducible refine e_chk ?_ ?_; · (first | omega | ((try simp (disch := omega) only [w32_eq, w64_eq, ix_n, ix_e, sto_n, sto_e, sto_r, zf_r, Int.toNat_natCast, true_or, or_true, eq_self]) <;> (first | omega | decide)))) | (with_reducible refine e_cchk ?_ ?_; · (first | omega | ((try simp (disch := omega) only [w32_eq, w64_eq, ix_n, ix_e, sto_n, sto_e, sto_r, zf_r, Int.toNat_natCast, true_or, or_true, eq_self]) <;> (first | omega | decide)))) | (with_reducible refine e_t ?_ ?_; · (first | omega | ((try simp (disch := omega) only [w32_eq, w64_eq, ix_n, ix_e, sto_n, sto_e, sto_r, zf_r, Int.toNat_natCast, true_or, or_true, eq_self]) <;> (first | omega | decide)))) | (with_reducible refine e_f ?_ ?_; · (first | omega | ((try simp (disch := omega) only [w32_eq, w64_eq, ix_n, ix_e, sto_n, sto_e, sto_r, zf_r, Int.toNat_natCast, true_or, or_true, eq_self]) <;> (first | omega | decide)))) | (with_reducible refine e_ct ?_ ?_; · (first | omega | ((try simp (disch := omega) only [w32_eq, w64_eq, ix_n, ix_e, sto_n, sto_e, sto_r, zf_r, Int.toNat_natCast, true_or, or_true, eq_self]) <;> (first | omega | decide)))) | (with_reducible refine e_cf ?_ ?_; · (first | omega | ((try simp (disch := omega) only [w32_eq, w64_eq, ix_n, ix_e, sto_n, sto_e, sto_r, zf_r, Int.toNat_natCast, true_or, or_true, eq_self]) <;> (first | omega | decide)))) | with_reducible refine e_call (cf_fail h) ?_); try with_reducible rfl
theorem cf_whole {RW RF : Int → Mem → Res} {d : Int} {M : Mem} (h : CFt M) : d_Pa_parseWhole RW RF d M = some (0, M) := by
  have h2 := h.2
  unfold d_Pa_parseWhole k_Pa_parseWhole_21
  repeat (first | with_reducible refine e_let ?_ | with_reducible refine e_cs ?_ | with_reducible refine e_clet ?_ | with_reducible refine e_cc ?_ | (with_reducible refine e_chk ?_ ?_; · (first | omega | ((try simp (disch := omega) only [w32_eq, w64_eq, ix_n, ix_e, sto_n, sto_e, sto_r, zf_r, Int.toNat_natCast, true_or, or_true, eq_self, h2]) <;> (first | omega | decide)))) | (with_reducible refine e_cchk ?_ ?_; · (first | omega | ((try simp (disch := omega) only [w32_eq, w64_eq, ix_n, ix_e, sto_n, sto_e, sto_r, zf_r, Int.toNat_natCast, true_or, or_true, eq_self, h2]) <;> (first | omega | decide)))) | (with_reducible refine e_t ?_ ?_; · (first | omega | ((try simp (disch := omega) only [w32_eq, w64_eq, ix_n, ix_e, sto_n, sto_e, sto_r, zf_r, Int.toNat_natCast, true_or, or_true, eq_self, h2]) <;> (first | omega | decide)))) | (with_reducible refine e_f ?_ ?_; · (first | omega | ((try simp (disch := omega) only [w32_eq, w64_eq, ix_n, ix_e, sto_n, sto_e, sto_r, zf_r, Int.toNat_natCast, true_or, or_true, eq_self, h2]) <;> (first | omega | decide)))) | (with_reducible refine e_ct ?_ ?_; · (first | omega | ((try simp (disch := omega) only [w32_eq, w64_eq, ix_n, ix_e, sto_n, sto_e, sto_r, zf_r, Int.toNat_natCast, true_or, or_true, eq_self, h2]) <;> (first | omega | decide)))) | (with_reducible refine e_cf ?_ ?_; · (first | omega | ((try simp (disch := omega) only [w32_eq, w64_eq, ix_n, ix_e, sto_n, sto_e, sto_r, zf_r, Int.toNat_natCast, true_or, or_true, eq_self, h2]) <;> (first | omega | decide)))) | with_reducible refine e_call (cf_begins h) ?_ | with_reducible refine e_call (cf_may h) ?_); try with_reducible rfl
theorem cf_deep {RW RF : Int → Mem → Res} {d : Int} {M : Mem} (h : CFt M) : d_Pa_parseSumOfFew RW RF d M = some (0, M) := by
  unfold d_Pa_parseSumOfFew
  repeat (first | with_reducible refine e_let ?_ | with_reducible refine e_cs ?_ | with_reducible refine e_clet ?_ | with_reducible refine e_cc ?_ | (with_reducible refine e_chk ?_ ?_; · (first | omega | ((try simp (disch := omega) only [w32_eq, w64_eq, ix_n, ix_e, sto_n, sto_e, sto_r, zf_r, Int.toNat_natCast, true_or, or_true, eq_self]) <;> (first | omega | decide)))) | (with_reducible refine e_cchk ?_ ?_; · (first | omega | ((try simp (disch := omega) only [w32_eq, w64_eq, ix_n, ix_e, sto_n, sto_e, sto_r, zf_r, Int.toNat_natCast, true_or, or_true, eq_self]) <;> (first | omega | decide)))) | (with_reducible refine e_t ?_ ?_; · (first | omega | ((try simp (disch := omega) only [w32_eq, w64_eq, ix_n, ix_e, sto_n, sto_e, sto_r, zf_r, Int.toNat_natCast, true_or, or_true, eq_self]) <;> (first | omega | decide)))) | (with_reducible refine e_f ?_ ?_; · (first | omega | ((try simp (disch := omega) only [w32_eq, w64_eq, ix_n, ix_e, sto_n, sto_e, sto_r, zf_r, Int.toNat_natCast, true_or, or_true, eq_self]) <;> (first | omega | decide)))) | (with_reducible refine e_ct ?_ ?_; · (first | omega | ((try simp (disch := omega) only [w32_eq, w64_eq, ix_n, ix_e, sto_n, sto_e, sto_r, zf_r, Int.toNat_natCast, true_or, or_true, eq_self]) <;> (first | omega | decide)))) | (with_reducible refine e_cf ?_ ?_; · (first | omega | ((try simp (disch := omega) only [w32_eq, w64_eq, ix_n, ix_e, sto_n, sto_e, sto_r, zf_r, Int.toNat_natCast, true_or, or_true, eq_self]) <;> (first | omega | decide)))) | with_reducible refine e_call (cf_begins h) ?_ | with_reducible refine e_call (cf_may h) ?_); try with_reducible rfl
/-! a fault is found by both -/
theorem r_wrong {t x u : Int} {M : Mem} (h : TR t x u M) (hb : M 111 48 = 0) : d_Mo_wrong M = some (0, sto (sto M 111 48 (if t = 1 then 1 else 2)) 111 49 (M 111 51)) := by
  have w := h.w
  have w6 := w.2.2.2.2.2.1
  unfold d_Mo_wrong k_Mo_wrong_14 d_Mo_fail
  by_cases c : t = 1
  · have c4 := w.2.2.2.1.mpr c
    rw [if_pos c]
    repeat (first | with_reducible refine e_let ?_ | with_reducible refine e_cs ?_ | with_reducible refine e_clet ?_ | with_reducible refine e_cc ?_ | (with_reducible refine e_chk ?_ ?_; · (first | omega | ((try simp (disch := omega) only [w32_eq, w64_eq, ix_n, ix_e, sto_n, sto_e, sto_r, zf_r, Int.toNat_natCast, true_or, or_true, eq_self, c4, hb]) <;> (first | omega | decide)))) | (with_reducible refine e_cchk ?_ ?_; · (first | omega | ((try simp (disch := omega) only [w32_eq, w64_eq, ix_n, ix_e, sto_n, sto_e, sto_r, zf_r, Int.toNat_natCast, true_or, or_true, eq_self, c4, hb]) <;> (first | omega | decide)))) | (with_reducible refine e_t ?_ ?_; · (first | omega | ((try simp (disch := omega) only [w32_eq, w64_eq, ix_n, ix_e, sto_n, sto_e, sto_r, zf_r, Int.toNat_natCast, true_or, or_true, eq_self, c4, hb]) <;> (first | omega | decide)))) | (with_reducible refine e_f ?_ ?_; · (first | omega | ((try simp (disch := omega) only [w32_eq, w64_eq, ix_n, ix_e, sto_n, sto_e, sto_r, zf_r, Int.toNat_natCast, true_or, or_true, eq_self, c4, hb]) <;> (first | omega | decide)))) | (with_reducible refine e_ct ?_ ?_; · (first | omega | ((try simp (disch := omega) only [w32_eq, w64_eq, ix_n, ix_e, sto_n, sto_e, sto_r, zf_r, Int.toNat_natCast, true_or, or_true, eq_self, c4, hb]) <;> (first | omega | decide)))) | (with_reducible refine e_cf ?_ ?_; · (first | omega | ((try simp (disch := omega) only [w32_eq, w64_eq, ix_n, ix_e, sto_n, sto_e, sto_r, zf_r, Int.toNat_natCast, true_or, or_true, eq_self, c4, hb]) <;> (first | omega | decide))))); try with_reducible rfl
  · have c4 : M 111 50 ≠ 4 := fun q => c (w.2.2.2.1.mp q)
    rw [if_neg c]
    repeat (first | with_reducible refine e_let ?_ | with_reducible refine e_cs ?_ | with_reducible refine e_clet ?_ | with_reducible refine e_cc ?_ | (with_reducible refine e_chk ?_ ?_; · (first | omega | ((try simp (disch := omega) only [w32_eq, w64_eq, ix_n, ix_e, sto_n, sto_e, sto_r, zf_r, Int.toNat_natCast, true_or, or_true, eq_self, hb]) <;> (first | omega | decide)))) | (with_reducible refine e_cchk ?_ ?_; · (first | omega | ((try simp (disch := omega) only [w32_eq, w64_eq, ix_n, ix_e, sto_n, sto_e, sto_r, zf_r, Int.toNat_natCast, true_or, or_true, eq_self, hb]) <;> (first | omega | decide)))) | (with_reducible refine e_t ?_ ?_; · (first | omega | ((try simp (disch := omega) only [w32_eq, w64_eq, ix_n, ix_e, sto_n, sto_e, sto_r, zf_r, Int.toNat_natCast, true_or, or_true, eq_self, hb]) <;> (first | omega | decide)))) | (with_reducible refine e_f ?_ ?_; · (first | omega | ((try simp (disch := omega) only [w32_eq, w64_eq, ix_n, ix_e, sto_n, sto_e, sto_r, zf_r, Int.toNat_natCast, true_or, or_true, eq_self, hb]) <;> (first | omega | decide)))) | (with_reducible refine e_ct ?_ ?_; · (first | omega | ((try simp (disch := omega) only [w32_eq, w64_eq, ix_n, ix_e, sto_n, sto_e, sto_r, zf_r, Int.toNat_natCast, true_or, or_true, eq_self, hb]) <;> (first | omega | decide)))) | (with_reducible refine e_cf ?_ ?_; · (first | omega | ((try simp (disch := omega) only [w32_eq, w64_eq, ix_n, ix_e, sto_n, sto_e, sto_r, zf_r, Int.toNat_natCast, true_or, or_true, eq_self, hb]) <;> (first | omega | decide))))); try with_reducible rfl
theorem ft_gd {b : Nat → Int} {n D : Nat} {nm : Nat → Int} {t k : Int} {s m a : Nat} {Mc Mr : Mem} (h : Gd b n D nm t s m a Mc Mr) (hk : 1 ≤ k ∧ k ≤ 6) : ∃ Mc', d_Pa_fail k Mc = some (0, Mc') ∧ Ft n m a Mc' (sto (sto Mr 111 48 k) 111 49 (Mr 111 51)) := by
  obtain ⟨c, ⟨h1, h2, h3, h4, h5, h6, h7⟩, h8, h9, h10, h11, h12⟩ := h
  have c1 := c.1
  refine ⟨sto (sto (sto Mc 55 2 k) 55 3 (a : Int)) 55 8 1, ?_, ?_⟩
  · unfold d_Pa_fail k_Pa_fail_20
    repeat (first | with_reducible refine e_let ?_ | with_reducible refine e_cs ?_ | with_reducible refine e_clet ?_ | with_reducible refine e_cc ?_ | (with_reducible refine e_chk ?_ ?_; · (first | omega | ((try simp (disch := omega) only [w32_eq, w64_eq, ix_n, ix_e, sto_n, sto_e, sto_r, zf_r, Int.toNat_natCast, true_or, or_true, eq_self, h10]) <;> (first | omega | decide)))) | (with_reducible refine e_cchk ?_ ?_; · (first | omega | ((try simp (disch := omega) only [w32_eq, w64_eq, ix_n, ix_e, sto_n, sto_e, sto_r, zf_r, Int.toNat_natCast, true_or, or_true, eq_self, h10]) <;> (first | omega | decide)))) | (with_reducible refine e_t ?_ ?_; · (first | omega | ((try simp (disch := omega) only [w32_eq, w64_eq, ix_n, ix_e, sto_n, sto_e, sto_r, zf_r, Int.toNat_natCast, true_or, or_true, eq_self, h10]) <;> (first | omega | decide)))) | (with_reducible refine e_f ?_ ?_; · (first | omega | ((try simp (disch := omega) only [w32_eq, w64_eq, ix_n, ix_e, sto_n, sto_e, sto_r, zf_r, Int.toNat_natCast, true_or, or_true, eq_self, h10]) <;> (first | omega | decide)))) | (with_reducible refine e_ct ?_ ?_; · (first | omega | ((try simp (disch := omega) only [w32_eq, w64_eq, ix_n, ix_e, sto_n, sto_e, sto_r, zf_r, Int.toNat_natCast, true_or, or_true, eq_self, h10]) <;> (first | omega | decide)))) | (with_reducible refine e_cf ?_ ?_; · (first | omega | ((try simp (disch := omega) only [w32_eq, w64_eq, ix_n, ix_e, sto_n, sto_e, sto_r, zf_r, Int.toNat_natCast, true_or, or_true, eq_self, h10]) <;> (first | omega | decide)))))
    rw [sto_n (by decide), h6]
  · refine ⟨c.1, sto_e, ?_, ?_, ?_, ?_, ?_, h4, h5⟩
    · simp (disch := omega) only [w32_eq, w64_eq, ix_n, ix_e, sto_n, sto_e, sto_r, zf_r, Int.toNat_natCast, h1]; omega
    · simp (disch := omega) only [w32_eq, w64_eq, ix_n, ix_e, sto_n, sto_e, sto_r, zf_r, Int.toNat_natCast]; exact hk
    · simp (disch := omega) only [w32_eq, w64_eq, ix_n, ix_e, sto_n, sto_e, sto_r, zf_r, Int.toNat_natCast]
    · simp (disch := omega) only [w32_eq, w64_eq, ix_n, ix_e, sto_n, sto_e, sto_r, zf_r, Int.toNat_natCast, h7]
    · simp (disch := omega) only [w32_eq, w64_eq, ix_n, ix_e, sto_n, sto_e, sto_r, zf_r, Int.toNat_natCast, h2]
theorem gp_wrong {b : Nat → Int} {n D : Nat} {nm : Nat → Int} {s m a : Nat} {Mc Mr : Mem} (h : GP b n D nm s m a Mc Mr) : ∃ Mc' Mr', d_Pa_fail 2 Mc = some (0, Mc') ∧ d_Mo_wrong Mr = some (0, Mr') ∧ Ft n m a Mc' Mr' := by
  rcases h with ⟨t, h⟩ | h
  · obtain ⟨Mc', e1, e2⟩ := ft_gd (k := 2) h (by decide)
    obtain ⟨-, -, -, h9, -, h11, h12, -⟩ := h
    refine ⟨Mc', _, e1, r_wrong h12 h11, ?_⟩
    rw [if_neg h9]; exact e2
  · refine ⟨Mc, _, cf_fail h.cf, r_wrong h.tr h.2.2.2.2.2.2.2.1, ?_⟩
    obtain ⟨h1, h2, h3, h4, h5, h6, h7, h8, h9, h10, h11⟩ := h
    refine ⟨h1, h4, h5, by omega, ?_, ?_, ?_, h10, h11⟩
    · rw [sto_n (by decide), sto_e, if_pos rfl, h2]
    · rw [sto_e, h7, h3]
    · simp (disch := omega) only [w32_eq, w64_eq, ix_n, ix_e, sto_n, sto_e, sto_r, zf_r, Int.toNat_natCast, h9]
theorem Gd.n500 {b : Nat → Int} {n D : Nat} {nm : Nat → Int} {t : Int} {s m a : Nat} {Mc Mr : Mem} (h : Gd b n D nm t s m a Mc Mr) : n ≤ 500 := h.1.1
/-- the component's faulty memory, and the steps that it lays yet -/
theorem Ft.on {n m a m' : Nat} {Mc Mr Mc' Mr' : Mem} (h : Ft n m a Mc Mr) (e1 : Mc' 55 = Mc 55) (e2 : 0 ≤ Mc' 57 2 ∧ Mc' 57 2 ≤ 500) (f1 : Mr' 111 48 = Mr 111 48) (f2 : Mr' 111 49 = Mr 111 49) (f3 : Mr' 111 58 = (m' : Int)) {a' : Nat} (hm : m' ≤ a') (ha : a' ≤ n) : Ft n m' a' Mc' Mr' := by
  obtain ⟨h1, h2, h3, h4, h5, h6, h7, h8, h9⟩ := h
  exact ⟨h1, by rw [e1]; exact h2, e2, by rw [e1]; exact h4, by rw [f1, e1]; exact h5, by rw [f2, e1]; exact h6, f3, hm, ha⟩
theorem Pd.on {n m a m' : Nat} {Mc Mr Mc' Mr' : Mem} (h : Pd n m a Mc Mr) (e1 : Mc' 55 = Mc 55) (e2 : 0 ≤ Mc' 57 2 ∧ Mc' 57 2 ≤ 500) (f1 : Mr' 111 48 = Mr 111 48) (f2 : Mr' 111 50 = Mr 111 50) (f4 : Mr' 111 51 = Mr 111 51) (f3 : Mr' 111 58 = (m' : Int)) (hm : m' ≤ a) : Pd n m' a Mc' Mr' := by
  obtain ⟨h1, h2, h3, h4, h5, h6, h7, h8, h9, h10, h11⟩ := h
  exact ⟨h1, by rw [e1]; exact h2, by rw [e1]; exact h3, by rw [e1]; exact h4, e2, by rw [f2]; exact h6, by rw [f4]; exact h7, by rw [f1]; exact h8, f3, hm, h11⟩
theorem TR.on {t x u : Int} {M M' : Mem} (h : TR t x u M) (e1 : M' 111 50 = M 111 50) (e2 : M' 111 53 = M 111 53) (e3 : M' 111 54 = M 111 54) (e4 : M' 111 55 = M 111 55) : TR t x u M' := by
  unfold TR WR at h ⊢
  rw [e1, e2, e3, e4]; exact h
/-- one more step and one more mark -/
theorem gd_lay {b : Nat → Int} {n D : Nat} {nm : Nat → Int} {t x y : Int} {s m a : Nat} {Mc Mr : Mem} (h : Gd b n D nm t s m a Mc Mr) (hm : m + 1 ≤ a) : Gd b n D nm t (s + 1) (m + 1) a (sto (sto Mc 58 s x) 57 2 ((s + 1 : Nat) : Int)) (sto (sto Mr 152 m y) 111 58 ((m + 1 : Nat) : Int)) := by
  obtain ⟨c, ⟨h1, h2, h3, h4, h5, h6, h7⟩, h8, h9, h10, h11, h12, e, k1, k2, k3, k4, k5⟩ := h
  refine ⟨c.on ?_ ?_ ?_ ?_ ?_ ?_ ?_ ?_ ?_, ⟨sto_e, sto_e, by omega, hm, h5, ?_, ?_⟩, ?_, h9, ?_, ?_, ?_, e, k1, k2, ?_, ?_, k5⟩
  all_goals first | (simp (disch := omega) only [w32_eq, w64_eq, ix_n, ix_e, sto_n, sto_e, sto_r, zf_r, Int.toNat_natCast]; done) | skip
  · simp (disch := omega) only [w32_eq, w64_eq, ix_n, ix_e, sto_n, sto_e, sto_r, zf_r, Int.toNat_natCast, h6]
  · simp (disch := omega) only [w32_eq, w64_eq, ix_n, ix_e, sto_n, sto_e, sto_r, zf_r, Int.toNat_natCast, h7]
  · simp (disch := omega) only [w32_eq, w64_eq, ix_n, ix_e, sto_n, sto_e, sto_r, zf_r, Int.toNat_natCast, h8]
  · simp (disch := omega) only [w32_eq, w64_eq, ix_n, ix_e, sto_n, sto_e, sto_r, zf_r, Int.toNat_natCast, h10]
  · simp (disch := omega) only [w32_eq, w64_eq, ix_n, ix_e, sto_n, sto_e, sto_r, zf_r, Int.toNat_natCast, h11]
  · rw [sto_r (show 55 ≠ 57 by decide), sto_r (show 55 ≠ 58 by decide)]
    exact h12.on (by simp (disch := omega) only [w32_eq, w64_eq, ix_n, ix_e, sto_n, sto_e, sto_r, zf_r, Int.toNat_natCast]) (by simp (disch := omega) only [w32_eq, w64_eq, ix_n, ix_e, sto_n, sto_e, sto_r, zf_r, Int.toNat_natCast]) (by simp (disch := omega) only [w32_eq, w64_eq, ix_n, ix_e, sto_n, sto_e, sto_r, zf_r, Int.toNat_natCast]) (by simp (disch := omega) only [w32_eq, w64_eq, ix_n, ix_e, sto_n, sto_e, sto_r, zf_r, Int.toNat_natCast])
  · simp (disch := omega) only [w32_eq, w64_eq, ix_n, ix_e, sto_n, sto_e, sto_r, zf_r, Int.toNat_natCast, k3]
  · simp (disch := omega) only [w32_eq, w64_eq, ix_n, ix_e, sto_n, sto_e, sto_r, zf_r, Int.toNat_natCast, k4]
theorem lay_b {M : Mem} {c d k i j : Nat} {x y : Int} (hcd : c ≠ d) (hi : i < j) : (sto (sto M c j x) d k y) c i = M c i := by
  rw [sto_r hcd, sto_n (by omega)]
/-- read on, and joined to what was read: the middle of sums, items, tests -/
theorem bin_step {b : Nat → Int} {n D : Nat} {nm : Nat → Int} {Q QI : Fnn → Prop} {N NI : Nat} {fi gi : Mem → Res} {w v t : Int} {s0 m0 a0 s m a : Nat} {Mc0 Mr0 Mc Mr : Mem} {F : Fnn} {kc kr : Mem → Res} {P : Mem → Mem → Prop} (hin : Ct b n D nm fi gi QI NI) (hw : 4 ≤ w ∧ w ≤ 15) (hv : 0 ≤ v ∧ v ≤ 1) (hG : Gd b n D nm t s m a Mc Mr) (ht : t ≠ 0) (hs : s0 ≤ s) (hm : m0 ≤ m) (hma : m + a0 ≤ m0 + a) (hsm : s + m0 ≤ s0 + m) (pc : ∀ i, i < s0 → Mc 58 i = Mc0 58 i) (pr : ∀ i, i < m0 → Mr 152 i = Mr0 152 i) (hD : Den N D F (Mc 58) s0 s (Mr 152) m0 m) (hN : NI + 1 ≤ N) (h2N : 2 ≤ N) (hT : w = 11 ∨ w = 12 → isT F) (hQ : ∀ G, QI G → Q (bnF w v F G))
    (hk : ∀ Mc' Mr', Out b n D nm Q N s0 m0 a0 (a + 1) Mc0 Mr0 Mc' Mr' → Ok2 (kc Mc') (kr Mr') P) :
    Ok2 (bcall (d_Pa_advance Mc) fun _ M2 => bcall (fi M2) fun _ M4 => bcall (d_Tx_add 57 w v M4) fun _ M6 => kc M6) (bcall (d_Mo_next Mr) fun _ M2 => bcall (gi M2) fun _ M4 => bcall (d_Mo_mark (rop w) v M4) fun _ M6 => kr M6) P := by
  have n5 := hG.n500
  obtain ⟨c, ⟨h1, h2, h3, h4, h5, h6, h7⟩, h8, h9, h10, h11, h12, e, k1, k2, k3, k4, k5⟩ := hG
  have k5 := k5 ht
  refine ok2_call (gd_adv c h10 h11 k1 k3 k4 h1 h2 h3 (by omega)) (fun _ Mc1 _ Mr1 q => ?_)
  obtain ⟨a1, q1, q2, q3, q4, q5⟩ := q
  refine ok2_call (hin s m a1 Mc1 Mr1 q3) (fun _ Mc2 _ Mr2 o => ?_)
  obtain ⟨m2, a2, o1, o2, o3, o4⟩ := o
  rcases o4 with ⟨t2, s2, g, g1, g2, g3, g4, G, g5, g6⟩ | o4 | o4
  · have gg := g
    obtain ⟨-, ⟨i1, i2, i3, i4, i5, i6, i7⟩, -⟩ := gg
    refine l2_call (s_add i1 (by omega)) ?_
    refine r2_call (s_mark i2 (by omega)) ?_
    refine hk _ _ ⟨m2 + 1, a2, by omega, by omega, by omega, Or.inl ⟨t2, s2 + 1, gd_lay g (by omega), by omega, by omega, fun i hi => ?_, fun i hi => ?_, bnF w v F G, hQ G g5, ?_⟩⟩
    · rw [lay_b (by decide) (by omega), g3 i (by omega), q4, pc i hi]
    · rw [lay_b (by decide) (by omega), g4 i (by omega), q5, pr i hi]
    · obtain ⟨d1, d2, d3⟩ := hD
      obtain ⟨d4, d5, d6⟩ := g6
      obtain ⟨w', ew⟩ : ∃ w' : Nat, w = (w' : Int) := ⟨w.toNat, by omega⟩
      obtain ⟨v', ev⟩ : ∃ v' : Nat, v = (v' : Int) := ⟨v.toNat, by omega⟩
      subst ew ev
      refine ⟨lcl_bin d1 d4, dc_bin (N1 := NI) hN h2N hs g1 ?_ ?_ (by omega) (by omega) (fun q => hT (by omega)) ?_, dr_bin (N1 := NI) hN h2N hm o1 ?_ ?_ (by omega) (by omega) ?_⟩
      · exact d2.c (fun i j1 j2 => by rw [lay_b (by decide) (by omega), g3 i (by omega), q4])
      · exact d5.c (fun i j1 j2 => by rw [lay_b (by decide) (by omega)])
      · rw [sto_r (by decide), sto_e]
      · exact d3.c (fun i j1 j2 => by rw [lay_b (by decide) (by omega), g4 i (by omega), q5])
      · exact d6.c (fun i j1 j2 => by rw [lay_b (by decide) (by omega)])
      · rw [sto_r (by decide), sto_e]
  · have o5 := o4
    obtain ⟨-, -, -, -, p5, -, -, -, p9, p10, p11⟩ := o5
    obtain ⟨M', e1, e2, e3⟩ := add_cf (w := w) (v := v) p5
    refine l2_call e1 ?_
    refine r2_call (s_mark p9 (by omega)) ?_
    exact hk _ _ ⟨m2 + 1, a2, by omega, by omega, by omega, Or.inr (Or.inl (o4.on e2 e3 (by simp (disch := omega) only [w32_eq, w64_eq, ix_n, ix_e, sto_n, sto_e, sto_r, zf_r, Int.toNat_natCast]) (by simp (disch := omega) only [w32_eq, w64_eq, ix_n, ix_e, sto_n, sto_e, sto_r, zf_r, Int.toNat_natCast]) (by simp (disch := omega) only [w32_eq, w64_eq, ix_n, ix_e, sto_n, sto_e, sto_r, zf_r, Int.toNat_natCast]) sto_e (by omega)))⟩
  · have o5 := o4
    obtain ⟨-, -, p5, -, -, -, p9, p10, p11⟩ := o5
    obtain ⟨M', e1, e2, e3⟩ := add_cf (w := w) (v := v) p5
    refine l2_call e1 ?_
    refine r2_call (s_mark p9 (by omega)) ?_
    exact hk _ _ ⟨m2 + 1, a2, by omega, by omega, by omega, Or.inr (Or.inr (o4.on e2 e3 (by simp (disch := omega) only [w32_eq, w64_eq, ix_n, ix_e, sto_n, sto_e, sto_r, zf_r, Int.toNat_natCast]) (by simp (disch := omega) only [w32_eq, w64_eq, ix_n, ix_e, sto_n, sto_e, sto_r, zf_r, Int.toNat_natCast]) sto_e (by omega) (by omega)))⟩
/-- again and again -/
theorem loop_bin {b : Nat → Int} {n D : Nat} {nm : Nat → Int} {Q QI : Fnn → Prop} {N NI : Nat} {fi gi : Mem → Res} {S : Int → Prop} {op : Int → Int} {LC : Nat → Int → Mem → Res} {LR : Nat → Mem → Res}
    (hin : Ct b n D nm fi gi QI NI) (hop : ∀ t, S t → 4 ≤ op t ∧ op t ≤ 12) (hS0 : ¬ S 0) (hN : NI + 1 ≤ N) (h2N : 2 ≤ N) (hT : ∀ t F, S t → Q F → (op t = 11 ∨ op t = 12 → isT F)) (hQ : ∀ t F G, S t → Q F → QI G → Q (bnF (op t) 0 F G))
    (hex : ∀ f t s m a (i : Nat) Mc Mr, Gd b n D nm t s m a Mc Mr → ¬ S t → LC (f + 1) (i : Int) Mc = some (0, Mc) ∧ LR (f + 1) Mr = some (0, Mr))
    (hbd : ∀ f m a (i : Nat) Mc Mr, (Pd n m a Mc Mr ∨ Ft n m a Mc Mr) → LC (f + 1) (i : Int) Mc = some (0, Mc) ∧ LR (f + 1) Mr = some (0, Mr))
    (hst : ∀ f g t s m a (i : Nat) Mc Mr, Gd b n D nm t s m a Mc Mr → S t → i < n → LC (f + 1) (i : Int) Mc = (bcall (d_Pa_advance Mc) fun _ M2 => bcall (fi M2) fun _ M4 => bcall (d_Tx_add 57 (op t) 0 M4) fun _ M6 => LC f ((i + 1 : Nat) : Int) M6) ∧ LR (g + 1) Mr = (bcall (d_Mo_next Mr) fun _ M2 => bcall (gi M2) fun _ M4 => bcall (d_Mo_mark (rop (op t)) 0 M4) fun _ M6 => LR g M6))
    {s0 m0 a0 : Nat} {Mc0 Mr0 : Mem} : ∀ (k f g i a1 : Nat) (Mc Mr : Mem), n < k + a1 → k < f → k < g → i ≤ a1 → Out b n D nm Q N s0 m0 a0 a1 Mc0 Mr0 Mc Mr → a0 ≤ a1 → Ok2 (LC f (i : Int) Mc) (LR g Mr) (Out b n D nm Q N s0 m0 a0 a0 Mc0 Mr0) := by
  intro k; induction k with
  | zero =>
    intro f g i a1 Mc Mr hk hf hg hi o ha
    obtain ⟨m', a', o1, o2, o3, o4⟩ := o
    exfalso
    rcases o4 with ⟨t2, s2, g, -⟩ | o4 | o4
    · have := g.2.1.2.2.2.2.1; omega
    · have := o4.2.2.2.2.2.2.2.2.2.2; omega
    · have := o4.2.2.2.2.2.2.2.2; omega
  | succ k ih =>
    intro f g i a1 Mc Mr hk hf hg hi o ha
    obtain ⟨f, rfl⟩ : ∃ f', f = f' + 1 := ⟨f - 1, by omega⟩
    obtain ⟨g, rfl⟩ : ∃ g', g = g' + 1 := ⟨g - 1, by omega⟩
    have oo := o
    obtain ⟨m', a', o1, o2, o3, o4⟩ := o
    rcases o4 with ⟨t2, s2, gd, g1, g2, g3, g4, F, g5, g6⟩ | o4 | o4
    · by_cases c : S t2
      · have t0 : t2 ≠ 0 := fun q => hS0 (by rw [← q]; exact c)
        have an : a' < n := by
          obtain ⟨-, -, -, -, -, -, -, e, k1, k2, -, -, k5⟩ := gd
          have := k5 t0; omega
        obtain ⟨e1, e2⟩ := hst f g t2 s2 m' a' i Mc Mr gd c (by omega)
        rw [e1, e2]
        have hp := hop t2 c
        refine bin_step (Mc0 := Mc0) (Mr0 := Mr0) (a0 := a0) hin (by omega) (by decide) gd t0 g1 o1 (by omega) g2 g3 g4 g6 hN h2N (hT t2 F c g5) (fun G hG => hQ t2 F G c g5 hG) (fun Mc' Mr' o' => ?_)
        exact ih f g (i + 1) (a' + 1) Mc' Mr' (by omega) (by omega) (by omega) (by omega) o' (by omega)
      · obtain ⟨e1, -⟩ := hex f t2 s2 m' a' i Mc Mr gd c
        obtain ⟨-, e2⟩ := hex g t2 s2 m' a' i Mc Mr gd c
        rw [e1, e2]
        exact ok2_ret ⟨m', a', o1, o2, by omega, Or.inl ⟨t2, s2, gd, g1, g2, g3, g4, F, g5, g6⟩⟩
    · obtain ⟨e1, -⟩ := hbd f m' a' i Mc Mr (Or.inl o4)
      obtain ⟨-, e2⟩ := hbd g m' a' i Mc Mr (Or.inl o4)
      rw [e1, e2]
      exact ok2_ret ⟨m', a', o1, o2, by omega, Or.inr (Or.inl o4)⟩
    · obtain ⟨e1, -⟩ := hbd f m' a' i Mc Mr (Or.inr o4)
      obtain ⟨-, e2⟩ := hbd g m' a' i Mc Mr (Or.inr o4)
      rw [e1, e2]
      exact ok2_ret ⟨m', a', o1, o2, by omega, Or.inr (Or.inr o4)⟩
