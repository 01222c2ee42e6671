/-! both read the same text -/
def EndS (b : Nat → Int) (n : Nat) (Mc Mr : Mem) : Prop := (∃ (D s m a : Nat) (nm : Nat → Int) (F : Nat → Fnn), Gd b n D nm 0 s m a Mc Mr ∧ DI D nm s m F Mc Mr) ∨ ∃ m a : Nat, Ft n m a Mc Mr
theorem c33_end {D : Nat} {R33 : Int → Mem → Res} {M : Mem} (hD : D ≤ 11) (h : M 55 8 = 1 ∧ 1 ≤ M 55 2 ∧ M 55 2 ≤ 6) : k_Pa_parse_33 R33 (D : Int) M = k_Pa_parse_94 M := by
  unfold k_Pa_parse_33
  by_cases c : 10 < D
  · rw [if_pos (by rw [w32_eq (by omega) (by omega)]; omega)]
  · rw [if_neg (by rw [w32_eq (by omega) (by omega)]; omega), blet_s, if_neg (by rw [h.1]; decide), blet_s, if_neg (by rw [w32_eq (by omega) (by omega)]; omega)]
def frQ (M M' : Mem) : Prop := Fr [151, 152, 154] [(111, 48), (111, 49), (111, 50), (111, 51), (111, 52), (111, 53), (111, 54), (111, 55), (111, 57), (111, 58)] M M'
theorem loop_defs {b : Nat → Int} {n : Nat} {a2 : Int} {Mr0 : Mem} {P : Mem → Mem → Prop} (hend : ∀ Mc Mr, EndS b n Mc Mr → frQ Mr0 Mr → Ok2 (k_Pa_parse_94 Mc) (k_Mo_acts_112 a2 Mr) P) :
    ∀ (k fc fr D s m a : Nat) (nm : Nat → Int) (t : Int) (F : Nat → Fnn) (Mc Mr : Mem), n < k + a → k + 1 < fc → k + 1 < fr → Gd b n D nm t s m a Mc Mr → DI D nm s m F Mc Mr → frQ Mr0 Mr → Ok2 (fix (fun _ _ => none) k_Pa_parse_33 fc (D : Int) Mc) (fix (fun _ _ => none) k_Mo_acts_91 fr a2 Mr) P := by
  intro k; induction k with
  | zero =>
    intro fc fr D s m a nm t F Mc Mr hk hfc hfr g di hq
    have := g.2.1.2.2.2.2.1
    omega
  | succ k ih =>
    intro fc fr D s m a nm t F Mc Mr hk hfc hfr g di hq
    obtain ⟨fc, rfl⟩ : ∃ f, fc = f + 1 := ⟨fc - 1, by omega⟩
    obtain ⟨fr, rfl⟩ : ∃ f, fr = f + 1 := ⟨fr - 1, by omega⟩
    have g' := g
    obtain ⟨c, ⟨h1, h2, h3, h4, h5, h6, h7⟩, h8, h9, h10, h11, h12, -⟩ := g'
    have hD := c.2.2.2.2.1.1
    have tw := h12.w
    by_cases t0 : t = 0
    · have ec : fix (fun _ _ => none) k_Pa_parse_33 (fc + 1) (D : Int) Mc = k_Pa_parse_94 Mc := by
        rw [fix_s]
        unfold k_Pa_parse_33
        rw [if_neg (by rw [w32_eq (by omega) (by omega)]; omega), blet_s, if_pos (by rw [h8, t0]; decide)]
      have er : fix (fun _ _ => none) k_Mo_acts_91 (fr + 1) a2 Mr = k_Mo_acts_112 a2 Mr := by
        rw [fix_s]
        unfold k_Mo_acts_91
        rw [blet_s, if_pos (by rw [h11]; decide), blet_s, if_pos (by rw [tw.2.2.1.mpr t0]; decide)]
      rw [ec, er]
      subst t0
      exact hend Mc Mr (Or.inl ⟨D, s, m, a, nm, F, g, di⟩) hq
    · have tb := tw.2.2.2.2.2.2
      have s0 : Mr 111 50 ≠ 0 := fun q => t0 (tw.2.2.1.mp q)
      have sb := tw.2.2.2.2.2.1
      have ec : fix (fun _ _ => none) k_Pa_parse_33 (fc + 1) (D : Int) Mc = bcall (df_cls Mc) fun _ M7 => fix (fun _ _ => none) k_Pa_parse_33 fc ((D + 1 : Nat) : Int) M7 := by
        have key : ∀ R33 : Int → Mem → Res, k_Pa_parse_33 R33 (D : Int) Mc = bcall (df_cls Mc) fun _ M7 => R33 ((D + 1 : Nat) : Int) M7 := fun R33 => by
          unfold k_Pa_parse_33
          rw [if_neg (by rw [w32_eq (by omega) (by omega)]; omega), blet_s, if_neg (by rw [h8, w32_eq (by omega) (by omega)]; exact t0), blet_s, if_pos (by rw [h10]; decide)]
          rw [show ((D + 1 : Nat) : Int) = (D : Int) + 1 by omega]
          symm
          unfold df_cls
          refine e_cc (bcall_cg fun _ M2 => ?_)
          refine e_cc (bcall_cg fun _ M4 => ?_)
          refine e_cc (bcall_cg fun _ M6 => ?_)
          refine e_cc (bcall_cg fun _ M8 => ?_)
          refine e_clet ?_
          rw [blet_s]
          by_cases c8 : w32 (M8 55 2) = 0
          · rw [if_pos c8, if_pos c8]
            refine e_cc (bcall_cg fun _ M9 => ?_)
            unfold k_Pa_parse_88
            rfl
          · rw [if_neg c8, if_neg c8]
            unfold k_Pa_parse_88
            rfl
        rw [fix_s]; exact key _
      have er : ∀ (f : Nat) (M : Mem), M 111 48 = 0 → 1 ≤ M 111 50 → M 111 50 ≤ 4 → fix (fun _ _ => none) k_Mo_acts_91 (f + 1) a2 M = bcall (d_Mo_readDef M) fun _ M6 => fix (fun _ _ => none) k_Mo_acts_91 f a2 M6 := fun f M q1 q2 q3 => by
        have key : ∀ R91 : Int → Mem → Res, k_Mo_acts_91 R91 a2 M = bcall (d_Mo_readDef M) fun _ M6 => R91 a2 M6 := fun R91 => by
          unfold k_Mo_acts_91
          rw [blet_s, if_pos (by rw [q1]; decide), blet_s, if_neg (by rw [w32_eq (by omega) (by omega)]; omega)]
        rw [fix_s]; exact key _
      have eb : ∀ (f : Nat) (M : Mem), 1 ≤ M 111 48 ∧ M 111 48 ≤ 6 → fix (fun _ _ => none) k_Mo_acts_91 (f + 1) a2 M = k_Mo_acts_112 a2 M := fun f M q => by
        have key : ∀ R91 : Int → Mem → Res, k_Mo_acts_91 R91 a2 M = k_Mo_acts_112 a2 M := fun R91 => by
          unfold k_Mo_acts_91
          rw [blet_s, if_neg (by rw [w32_eq (by omega) (by omega)]; omega)]
        rw [fix_s]; exact key _
      rw [ec, er fr Mr h11 (by omega) (by omega)]
      refine ok2_call (ok2_fr (A := fun _ => True) (B := fun M' => frQ Mr M') (df_ok2 (def_step g di)) (fun _ _ => trivial) (fun r hr => w_Mo_readDef hr)) (fun _ Mc1 _ Mr1 o => ?_)
      obtain ⟨o, -, fo⟩ := o
      have hq1 : frQ Mr0 Mr1 := Fr.trans hq fo
      rcases o with ⟨s', m', a', nm', t', F', o1, o2, o3⟩ | ⟨m', a', o⟩ | ⟨m', a', o⟩
      · exact ih fc fr (D + 1) s' m' a' nm' t' F' Mc1 Mr1 (by omega) (by omega) (by omega) o2 o3 hq1
      · obtain ⟨fc, rfl⟩ : ∃ f, fc = f + 1 := ⟨fc - 1, by omega⟩
        obtain ⟨fr, rfl⟩ : ∃ f, fr = f + 1 := ⟨fr - 1, by omega⟩
        obtain ⟨fr, rfl⟩ : ∃ f, fr = f + 1 := ⟨fr - 1, by omega⟩
        have cf := o.cf
        have p6 := o.2.2.2.2.2.1
        have p8 := o.2.2.2.2.2.2.2.1
        rw [fix_s, c33_end (by omega) ⟨cf.2, cf.1⟩, er (fr + 1) Mr1 p8 (by omega) (by omega)]
        obtain ⟨Mc', Mr', e1, e2, e3⟩ := gp_wrong (b := b) (D := D) (nm := nm) (s := s) (Or.inr o)
        rw [cf_fail cf] at e1
        injection e1 with e1
        injection e1 with _ e1
        subst e1
        have rd : d_Mo_readDef Mr1 = some (0, Mr') := by
          unfold d_Mo_readDef k_Mo_readDef_31
          exact e_let (e_f (by rw [p6]; decide) (e_call e2 rfl))
        have q4 := e3.2.2.2.1
        have q5 := e3.2.2.2.2.1
        refine r2_call rd ?_
        rw [eb fr Mr' (by omega)]
        exact hend Mc1 Mr' (Or.inr ⟨m', a', e3⟩) (Fr.trans hq1 (w_Mo_readDef rd))
      · obtain ⟨fc, rfl⟩ : ∃ f, fc = f + 1 := ⟨fc - 1, by omega⟩
        obtain ⟨fr, rfl⟩ : ∃ f, fr = f + 1 := ⟨fr - 1, by omega⟩
        have cf := o.cf
        have q4 := o.2.2.2.1
        have q5 := o.2.2.2.2.1
        rw [fix_s, c33_end (by omega) ⟨cf.2, cf.1⟩, eb fr Mr1 (by omega)]
        exact hend Mc1 Mr1 (Or.inr ⟨m', a', o⟩) hq1
/-- the whole text -/
def stP (M : Mem) (n : Nat) : Mem := zf (sto (sto (sto (sto (sto (sto M 55 6 (n : Int)) 55 7 0) 55 2 0) 55 3 (-1)) 57 1 0) 57 2 0) 60 0 7 (-1)
def stQ (M : Mem) (n : Nat) : Mem := sto (sto (sto (sto (sto (sto (sto M 111 45 (n : Int)) 111 44 0) 111 52 0) 111 48 0) 111 57 0) 111 58 0) 151 0 0
theorem parse2 {b : Nat → Int} {n : Nat} {a2 : Int} {Mc Mr : Mem} {P : Mem → Mem → Prop} (hn : n ≤ 500) (hB : BtB b) (hc : ∀ j, j < n → w8 (Mc 56 j) = b j) (hr : ∀ j, j < n → w8 (Mr 146 j) = b j) (hend : ∀ Mc' Mr', EndS b n Mc' Mr' → frQ (stQ Mr n) Mr' → Ok2 (k_Pa_parse_94 Mc') (k_Mo_acts_112 a2 Mr') P) :
    Ok2 (d_Pa_parse (n : Int) Mc) (bcall (d_Mo_next (stQ Mr n)) fun _ M21 => fix (fun _ _ => none) k_Mo_acts_91 FU a2 M21) P := by
  have ec : d_Pa_parse (n : Int) Mc = bcall (d_Pa_advance (stP Mc n)) fun _ M8 => fix (fun _ _ => none) k_Pa_parse_33 FU 0 M8 := by
    unfold d_Pa_parse d_Tx_empty
    refine e_let (e_let (e_let (e_let (e_clet (e_clet (e_cc (e_call (s_fill1 (by decide)) (e_cs rfl))))))))
  rw [ec]
  have cm : Cm b n 0 (fun _ => 0) (stP Mc n) (stQ Mr n) := by
    unfold stP stQ
    refine ⟨hn, hB, ⟨?_, ?_, fun j hj => ?_⟩, ⟨?_, fun j hj => ?_⟩, ⟨by decide, fun i hi => by omega⟩, ?_, fun i hi => by omega, ?_, fun i hi => by omega⟩
    · simp (disch := omega) only [w32_eq, w64_eq, ix_n, ix_e, sto_n, sto_e, sto_r, zf_r, Int.toNat_natCast]
    · simp (disch := omega) only [w32_eq, w64_eq, ix_n, ix_e, sto_n, sto_e, sto_r, zf_r, Int.toNat_natCast]
    · simp (disch := omega) only [w32_eq, w64_eq, ix_n, ix_e, sto_n, sto_e, sto_r, zf_r, Int.toNat_natCast]; exact hc j hj
    · simp (disch := omega) only [w32_eq, w64_eq, ix_n, ix_e, sto_n, sto_e, sto_r, zf_r, Int.toNat_natCast]
    · simp (disch := omega) only [w32_eq, w64_eq, ix_n, ix_e, sto_n, sto_e, sto_r, zf_r, Int.toNat_natCast]; exact hr j hj
    · simp (disch := omega) only [w32_eq, w64_eq, ix_n, ix_e, sto_n, sto_e, sto_r, zf_r, Int.toNat_natCast]; rfl
    · simp (disch := omega) only [w32_eq, w64_eq, ix_n, ix_e, sto_n, sto_e, sto_r, zf_r, Int.toNat_natCast]; rfl
  refine ok2_call (ok2_fr (gd_adv (s := 0) (m := 0) (e := 0) cm (by unfold stP; simp (disch := omega) only [w32_eq, w64_eq, ix_n, ix_e, sto_n, sto_e, sto_r, zf_r, Int.toNat_natCast]) (by unfold stQ; simp (disch := omega) only [w32_eq, w64_eq, ix_n, ix_e, sto_n, sto_e, sto_r, zf_r, Int.toNat_natCast]) (by omega) (by unfold stP; simp (disch := omega) only [w32_eq, w64_eq, ix_n, ix_e, sto_n, sto_e, sto_r, zf_r, Int.toNat_natCast]; rfl) (by unfold stQ; simp (disch := omega) only [w32_eq, w64_eq, ix_n, ix_e, sto_n, sto_e, sto_r, zf_r, Int.toNat_natCast]; rfl) (by unfold stP; simp (disch := omega) only [w32_eq, w64_eq, ix_n, ix_e, sto_n, sto_e, sto_r, zf_r, Int.toNat_natCast]; rfl) (by unfold stQ; simp (disch := omega) only [w32_eq, w64_eq, ix_n, ix_e, sto_n, sto_e, sto_r, zf_r, Int.toNat_natCast]; rfl) (by omega) (by omega)) (fun r hr => w_Pa_advance hr) (fun r hr => w_Mo_next hr)) (fun _ Mc1 _ Mr1 q => ?_)
  obtain ⟨⟨a, q1, q2, q3, q4, q5⟩, fc, fr⟩ := q
  rcases q3 with ⟨t, g⟩ | g
  · have di : DI 0 (fun _ => 0) 0 0 (fun _ => puF 0 0) Mc1 Mr1 := by
      refine ⟨rfl, ?_, fun j hj => by omega, fun q hq => ?_, fun i j _ hj => by omega⟩
      · rw [fr.f 151 0 (by decide) (by decide)]; unfold stQ; simp (disch := omega) only [w32_eq, w64_eq, ix_n, ix_e, sto_n, sto_e, sto_r, zf_r, Int.toNat_natCast]; rfl
      · rw [fc.f 60 q (by decide) (by simp)]
        unfold stP
        rw [zf_c, if_pos (by omega)]; rfl
    exact loop_defs hend (n + 1) FU FU 0 0 0 a (fun _ => 0) t (fun _ => puF 0 0) Mc1 Mr1 (by omega) (by unfold FU; omega) (by unfold FU; omega) g di (fr.mono (by decide) (by decide))
  · have cf := g.cf
    have p6 := g.2.2.2.2.2.1
    have p8 := g.2.2.2.2.2.2.2.1
    obtain ⟨Mc', Mr', e1, e2, e3⟩ := gp_wrong (b := b) (D := 0) (nm := fun _ => 0) (s := 0) (Or.inr g)
    rw [cf_fail cf] at e1
    injection e1 with e1
    injection e1 with _ e1
    subst e1
    have q4 := e3.2.2.2.1
    have q5 := e3.2.2.2.2.1
    have rd : d_Mo_readDef Mr1 = some (0, Mr') := by
      unfold d_Mo_readDef k_Mo_readDef_31
      exact e_let (e_f (by rw [p6]; decide) (e_call e2 rfl))
    have ec2 : fix (fun _ _ => none) k_Pa_parse_33 FU 0 Mc1 = k_Pa_parse_94 Mc1 := by
      rw [show FU = 4294967295 + 1 from rfl, fix_s]
      exact c33_end (D := 0) (by omega) ⟨cf.2, cf.1⟩
    have er2 : fix (fun _ _ => none) k_Mo_acts_91 FU a2 Mr1 = k_Mo_acts_112 a2 Mr' := by
      rw [show FU = 4294967294 + 1 + 1 from rfl, fix_s]
      have key : ∀ R91 : Int → Mem → Res, k_Mo_acts_91 R91 a2 Mr1 = bcall (d_Mo_readDef Mr1) fun _ M6 => R91 a2 M6 := fun R91 => by
        unfold k_Mo_acts_91
        rw [blet_s, if_pos (by rw [p8]; decide), blet_s, if_neg (by rw [p6]; decide)]
      rw [key, rd]
      refine e_cs ?_
      rw [fix_s]
      have key2 : ∀ R91 : Int → Mem → Res, k_Mo_acts_91 R91 a2 Mr' = k_Mo_acts_112 a2 Mr' := fun R91 => by
        unfold k_Mo_acts_91
        rw [blet_s, if_neg (by rw [q5, w32_eq (by omega) (by omega)]; omega)]
      exact key2 _
    rw [ec2, er2]
    exact hend Mc1 Mr' (Or.inr ⟨0, a, e3⟩) (Fr.trans (fr.mono (by decide) (by decide)) (w_Mo_readDef rd))
