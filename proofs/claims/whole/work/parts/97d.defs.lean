/-! both read the same DEFS -/
def asC : Nat → Int
  | 0 => 355412
  | 1 => 3379448
  | 2 => 161437
  | 3 => 10492150
  | 4 => 38362985
  | 5 => 409469
  | _ => 12001681
theorem asC_b {q : Nat} : 0 ≤ asC q ∧ asC q < 282429536481 := by
  unfold asC; split <;> omega
theorem asC_s {q : Nat} (hq : q < 7) : cv (asC q) = spl q := by
  rcases (show q = 0 ∨ q = 1 ∨ q = 2 ∨ q = 3 ∨ q = 4 ∨ q = 5 ∨ q = 6 by omega) with e | e | e | e | e | e | e <;> subst e <;> decide +kernel
theorem asC_f {x : Int} (h : w64 x = x) {q : Nat} (hq : q < 7) : fndL ASs x 0 = (q : Int) ↔ x = asC q := by
  have f := fndA h
  rcases (show q = 0 ∨ q = 1 ∨ q = 2 ∨ q = 3 ∨ q = 4 ∨ q = 5 ∨ q = 6 by omega) with e | e | e | e | e | e | e <;> subst e
  · show fndL ASs x 0 = ((0 : Nat) : Int) ↔ x = 355412
    omega
  · show fndL ASs x 0 = ((1 : Nat) : Int) ↔ x = 3379448
    omega
  · show fndL ASs x 0 = ((2 : Nat) : Int) ↔ x = 161437
    omega
  · show fndL ASs x 0 = ((3 : Nat) : Int) ↔ x = 10492150
    omega
  · show fndL ASs x 0 = ((4 : Nat) : Int) ↔ x = 38362985
    omega
  · show fndL ASs x 0 = ((5 : Nat) : Int) ↔ x = 409469
    omega
  · show fndL ASs x 0 = ((6 : Nat) : Int) ↔ x = 12001681
    omega
theorem ok2_fr {r1 r2 : Res} {P : Mem → Mem → Prop} {A B : Mem → Prop} (h : Ok2 r1 r2 P) (hA : ∀ r, r1 = some r → A r.2) (hB : ∀ r, r2 = some r → B r.2) : Ok2 r1 r2 (fun M1 M2 => P M1 M2 ∧ A M1 ∧ B M2) := by
  obtain ⟨v1, M1, v2, M2, e1, e2, q⟩ := h
  exact ⟨v1, M1, v2, M2, e1, e2, q, hA _ e1, hB _ e2⟩
def stE (M : Mem) (j : Nat) : Int := if j = 0 then 0 else M 59 (j - 1)
def DI (D : Nat) (nm : Nat → Int) (s m : Nat) (F : Nat → Fnn) (Mc Mr : Mem) : Prop := stE Mc D = (s : Int) ∧ Mr 151 D = (m : Int) ∧ (∀ j, j < D → ∃ e1 e2 p1 p2 : Nat, stE Mc j = (e1 : Int) ∧ Mc 59 j = (e2 : Int) ∧ Mr 151 j = (p1 : Int) ∧ Mr 151 (j + 1) = (p2 : Int) ∧ e1 ≤ e2 ∧ e2 ≤ s ∧ p1 ≤ p2 ∧ p2 ≤ m ∧ Den 37 j (F j) (Mc 58) e1 e2 (Mr 152) p1 p2) ∧ (∀ q, q < 7 → Mc 60 q = ndF nm (asC q) D 0) ∧ ∀ i j, i < j → j < D → nm i ≠ nm j
/-- the names as they stand, and one more -/
theorem ndF_c {nm nm' : Nat → Int} {x : Int} : ∀ r i : Nat, (∀ j, i ≤ j → j < i + r → nm j = nm' j) → ndF nm x r i = ndF nm' x r i
  | 0, _, _ => rfl
  | r + 1, i, h => by
    unfold ndF
    rw [h i (by omega) (by omega), ndF_c r (i + 1) (fun j h1 h2 => h j (by omega) (by omega))]
theorem ndF_s {nm : Nat → Int} {x : Int} : ∀ r i : Nat, ndF nm x (r + 1) i = if ndF nm x r i = -1 then (if nm (i + r) = x then ((i + r : Nat) : Int) else -1) else ndF nm x r i
  | 0, i => by
    show (if nm i = x then (i : Int) else -1) = if (-1 : Int) = -1 then (if nm (i + 0) = x then ((i + 0 : Nat) : Int) else -1) else -1
    rw [if_pos rfl]; rfl
  | r + 1, i => by
    have ih := ndF_s (nm := nm) (x := x) r (i + 1)
    have e : ndF nm x (r + 1 + 1) i = if nm i = x then (i : Int) else ndF nm x (r + 1) (i + 1) := rfl
    have e2 : ndF nm x (r + 1) i = if nm i = x then (i : Int) else ndF nm x r (i + 1) := rfl
    rw [e, e2]
    by_cases c : nm i = x
    · rw [if_pos c, if_pos c, if_neg (by omega)]
    · rw [if_neg c, if_neg c, ih, show i + 1 + r = i + (r + 1) by omega]
/-- the name of a DEF -/
def nmM (Mc : Mem) (D : Nat) (x : Int) : Mem := if fndL ASs x 0 = -1 then sto Mc 61 D x else sto (sto Mc 61 D x) 60 (fndL ASs x 0).toNat (D : Int)
theorem s_name {b : Nat → Int} {n D : Nat} {nm : Nat → Int} {s m a : Nat} {Mc Mr : Mem} (g : Gd b n D nm 3 s m a Mc Mr) (hx : Mc 55 11 ≠ -1) (hv : fndL VRs (Mc 55 11) 0 = -1) (hD : D < 10) (hn : ndF nm (Mc 55 11) D 0 = -1) (x3 : w64 (Mc 55 11) = Mc 55 11) :
    d_Pa_parseName Mc = bcall (d_Pa_advance (nmM Mc D (Mc 55 11))) (fun _ M2 => some (0, M2)) := by
  obtain ⟨⟨c1, c2, c3, c4, c5, c6, c7, c8, c9⟩, ⟨h1, h2, h3, h4, h5, h6, h7⟩, h8, -⟩ := g
  have hfd := s_fdC c5 x3 c6 c7
  have xD : ix (D : Int) = D := ix_n (by omega)
  have fb := fndL_b ASs (Mc 55 11) 0
  rw [show ASs.length = 7 from rfl] at fb
  unfold d_Pa_parseName k_Pa_parseName_37 k_Pa_parseName_137
  refine e_let (e_t (by rw [h8]; decide) (e_let (e_f (by rw [x3]; exact hx) (e_let (e_call s_find2 (e_t (by rw [hv]; decide) (e_f (by decide) (e_let ?_))))))))
  rw [c6]
  refine e_t (by rw [w32_eq (by omega) (by omega)]; omega) (e_let (e_call hfd (e_t (by rw [hn]; decide) (e_let (e_let ?_)))))
  rw [c6]
  refine e_chk (by rw [w32_eq (by omega) (by omega)]; omega) (e_let ?_)
  rw [xD]
  refine e_let ?_
  rw [show (sto Mc 61 D (Mc 55 11)) 55 11 = Mc 55 11 by rw [sto_r (by decide)]]
  refine e_call s_find3 ?_
  unfold nmM
  by_cases c : fndL ASs (Mc 55 11) 0 = -1
  · rw [if_pos c]
    exact e_t (by rw [c]; decide) rfl
  · rw [if_neg c]
    refine e_f (by rw [w32_eq (by omega) (by omega)]; exact c) (e_let ?_)
    rw [show (sto Mc 61 D (Mc 55 11)) 57 1 = (D : Int) by rw [sto_r (by decide), c6]]
    refine e_chk (by rw [w32_eq (by omega) (by omega)]; omega) (e_let ?_)
    rw [ix_e (by omega) (by omega)]
theorem nmM_f {Mc : Mem} {D : Nat} {x : Int} : Fr [60, 61] [] Mc (nmM Mc D x) := by
  unfold nmM; split
  · exact fr_stoA (by decide)
  · exact Fr.trans (fr_stoA (by decide)) (fr_stoA (by decide))
/-- a fault at the name -/
theorem def_bad {n m a : Nat} {Mc Mr : Mem} (h : Ft n m a Mc Mr) : (bcall (d_Pa_expect 58 Mc) fun _ M4 => bcall (d_Pa_parseWholeC 1 M4) fun _ M6 => bcall (d_Pa_expect 59 M6) fun _ M8 => blet (M8 55 2) fun v9 => if w32 v9 = 0 then (blet (M8 57 1) fun v11 => blet (M8 57 2) fun v12 => chk (0 ≤ w32 v11 ∧ w32 v11 < 10) <| blet (sto M8 59 (ix v11) v12) fun M14 => blet (M14 57 1) fun v15 => blet (sto M14 57 1 (v15 + 1)) fun M16 => some (0, M16)) else (some (0, M8))) = some (0, Mc) := by
  have cf := h.cf
  have p4 := h.2.2.2.1
  refine e_call (cf_exp cf (by decide)) (e_call (show d_Pa_parseWholeC 1 Mc = some (0, Mc) from cf_whole cf) (e_call (cf_exp cf (by decide)) (e_let (e_f (by rw [w32_eq (by omega) (by omega)]; omega) rfl))))
theorem def_name {b : Nat → Int} {n D : Nat} {nm : Nat → Int} {t : Int} {s m a : Nat} {Mc Mr : Mem} (g : Gd b n D nm t s m a Mc Mr) (hbad : ¬ (t = 3 ∧ Mc 55 11 ≠ -1 ∧ fndL VRs (Mc 55 11) 0 = -1 ∧ D < 10 ∧ ndF nm (Mc 55 11) D 0 = -1)) :
    ∃ Mc' Mr', d_Pa_parseName Mc = some (0, Mc') ∧ d_Mo_readDef Mr = some (0, Mr') ∧ Ft n m a Mc' Mr' := by
  have g' := g
  obtain ⟨⟨c1, c2, c3, c4, c5, c6, c7, c8, c9⟩, ⟨h1, h2, h3, h4, h5, h6, h7⟩, h8, h9, h10, h11, h12, -⟩ := g'
  obtain ⟨w1, w2, w3, w4, w5, w6, w7, w8⟩ := h12.w
  have hD := c5.1
  by_cases t3 : t = 3
  · have s1 := w1.mpr (by omega)
    obtain ⟨x1, x2⟩ := w5 s1
    have x3 := x1.x
    have hvr := r_var h12
    rw [if_pos s1] at hvr
    have hnm := r_named h12 c5 c8 c9
    rw [if_pos s1] at hnm
    have fv := fndL_b VRs (Mc 55 11) 0
    rw [show VRs.length = 11 from rfl] at fv
    have fn := ndF_b (nm := nm) (x := Mc 55 11) D 0
    have hfd := s_fdC c5 x3 c6 c7
    obtain ⟨Mw, Mr2, f1, f2, f3⟩ := gp_wrong (b := b) (D := D) (nm := nm) (s := s) (Or.inl ⟨t, g⟩)
    by_cases cx : Mc 55 11 = -1
    · have hl : 8 < Mr 111 54 := by unfold WR at x1; omega
      have hl2 : Mr 111 54 ≤ 500 := by unfold WR at x1; omega
      refine ⟨Mw, Mr2, ?_, ?_, f3⟩
      · unfold d_Pa_parseName k_Pa_parseName_36 k_Pa_parseName_37
        exact e_let (e_t (by rw [h8, t3]; decide) (e_let (e_t (by rw [cx]; decide) (e_t (by decide) (e_call f1 rfl)))))
      · unfold d_Mo_readDef k_Mo_readDef_31
        exact e_let (e_t (by rw [s1]; decide) (e_let (e_t (by rw [w32_eq (by omega) (by omega)]; exact hl) (e_call f2 rfl))))
    · have hl : 1 ≤ Mr 111 54 ∧ Mr 111 54 ≤ 8 := by unfold WR at x1; omega
      by_cases cv1 : fndL VRs (Mc 55 11) 0 = -1
      · have ftk : ∀ k : Int, 1 ≤ k ∧ k ≤ 6 → ∃ Mc', d_Pa_fail k Mc = some (0, Mc') ∧ Ft n m a Mc' (sto (sto Mr 111 48 k) 111 49 (Mr 111 51)) := fun k hk => ft_gd g hk
        by_cases cD : D < 10
        · have cn : ndF nm (Mc 55 11) D 0 ≠ -1 := fun q => hbad ⟨t3, cx, cv1, cD, q⟩
          obtain ⟨Mc', e1, e2⟩ := ftk 4 (by decide)
          refine ⟨Mc', _, ?_, ?_, e2⟩
          · unfold d_Pa_parseName k_Pa_parseName_37
            refine e_let (e_t (by rw [h8, t3]; decide) (e_let (e_f (by rw [x3]; exact cx) (e_let (e_call s_find2 (e_t (by rw [cv1]; decide) (e_f (by decide) (e_let ?_))))))))
            rw [c6]
            exact e_t (by rw [w32_eq (by omega) (by omega)]; omega) (e_let (e_call hfd (e_f (by rw [w32_eq (by omega) (by omega)]; exact cn) (e_call e1 rfl))))
          · unfold d_Mo_readDef k_Mo_readDef_54 k_Mo_readDef_70 d_Mo_fail
            refine e_let (e_t (by rw [s1]; decide) (e_let (e_f (by rw [w32_eq (by omega) (by omega)]; omega) (e_call hvr (e_t (by rw [cv1]; decide) (e_call (r_isKept h12) (e_t (by rw [Bz_f (by omega)]; decide) (e_let ?_))))))))
            rw [c8]
            refine e_f (by rw [w32_eq (by omega) (by omega)]; omega) (e_call hnm (e_f (by rw [w32_eq (by omega) (by omega)]; omega) (e_let (e_clet (e_cf (by rw [h11]; decide) (e_clet (e_clet (e_cs (e_let ?_)))))))))
            exact e_t (by rw [sto_n (by decide), sto_e]; decide) rfl
        · obtain ⟨Mc', e1, e2⟩ := ftk 3 (by decide)
          have D10 : D = 10 := by omega
          refine ⟨Mc', _, ?_, ?_, e2⟩
          · unfold d_Pa_parseName k_Pa_parseName_37
            refine e_let (e_t (by rw [h8, t3]; decide) (e_let (e_f (by rw [x3]; exact cx) (e_let (e_call s_find2 (e_t (by rw [cv1]; decide) (e_f (by decide) (e_let ?_))))))))
            rw [c6]
            exact e_f (by rw [w32_eq (by omega) (by omega)]; omega) (e_call e1 rfl)
          · have tr2 : TR t (Mc 55 11) (Mc 55 10) (sto (sto Mr 111 48 3) 111 49 (Mr 111 51)) := h12.on (by simp (disch := omega) only [w32_eq, w64_eq, ix_n, ix_e, sto_n, sto_e, sto_r, zf_r, Int.toNat_natCast]) (by simp (disch := omega) only [w32_eq, w64_eq, ix_n, ix_e, sto_n, sto_e, sto_r, zf_r, Int.toNat_natCast]) (by simp (disch := omega) only [w32_eq, w64_eq, ix_n, ix_e, sto_n, sto_e, sto_r, zf_r, Int.toNat_natCast]) (by simp (disch := omega) only [w32_eq, w64_eq, ix_n, ix_e, sto_n, sto_e, sto_r, zf_r, Int.toNat_natCast])
            have hnm2 := r_named tr2 c5 (by simp (disch := omega) only [w32_eq, w64_eq, ix_n, ix_e, sto_n, sto_e, sto_r, zf_r, Int.toNat_natCast, c8]) (fun i hi => by rw [sto_r (by decide), sto_r (by decide)]; exact c9 i hi)
            rw [if_pos (by simp (disch := omega) only [w32_eq, w64_eq, ix_n, ix_e, sto_n, sto_e, sto_r, zf_r, Int.toNat_natCast, s1])] at hnm2
            unfold d_Mo_readDef k_Mo_readDef_54 k_Mo_readDef_70 d_Mo_fail
            refine e_let (e_t (by rw [s1]; decide) (e_let (e_f (by rw [w32_eq (by omega) (by omega)]; omega) (e_call hvr (e_t (by rw [cv1]; decide) (e_call (r_isKept h12) (e_t (by rw [Bz_f (by omega)]; decide) (e_let ?_))))))))
            rw [c8]
            refine e_t (by rw [D10]; decide) (e_let (e_clet (e_cf (by rw [h11]; decide) (e_clet (e_clet (e_cs (e_call hnm2 ?_)))))))
            have b3 : (sto (sto Mr 111 48 3) 111 49 (Mr 111 51)) 111 48 = 3 := by rw [sto_n (by decide), sto_e]
            by_cases cn : ndF nm (Mc 55 11) D 0 = -1
            · refine e_t (by rw [cn]; decide) (e_let ?_)
              exact e_t (by rw [b3]; decide) rfl
            · refine e_f (by rw [w32_eq (by omega) (by omega)]; omega) (e_let (e_clet (e_ct (by rw [b3]; decide) (e_cs (e_let ?_)))))
              exact e_t (by rw [b3]; decide) rfl
      · refine ⟨Mw, Mr2, ?_, ?_, f3⟩
        · unfold d_Pa_parseName k_Pa_parseName_36 k_Pa_parseName_37
          exact e_let (e_t (by rw [h8, t3]; decide) (e_let (e_f (by rw [x3]; exact cx) (e_let (e_call s_find2 (e_f (by rw [w32_eq (by omega) (by omega)]; exact cv1) (e_t (by decide) (e_call f1 rfl))))))))
        · unfold d_Mo_readDef k_Mo_readDef_31
          exact e_let (e_t (by rw [s1]; decide) (e_let (e_f (by rw [w32_eq (by omega) (by omega)]; omega) (e_call hvr (e_f (by rw [w32_eq (by omega) (by omega)]; omega) (e_call f2 rfl))))))
  · obtain ⟨Mw, Mr2, f1, f2, f3⟩ := gp_wrong (b := b) (D := D) (nm := nm) (s := s) (Or.inl ⟨t, g⟩)
    refine ⟨Mw, Mr2, ?_, ?_, f3⟩
    · unfold d_Pa_parseName k_Pa_parseName_36 k_Pa_parseName_37
      exact e_let (e_f (by rw [h8, w32_eq (by omega) (by omega)]; exact t3) (e_t (by decide) (e_call f1 rfl)))
    · unfold d_Mo_readDef k_Mo_readDef_31
      by_cases s1 : Mr 111 50 = 1
      · obtain ⟨x1, x2⟩ := w5 s1
        have hvr := r_var h12
        rw [if_pos s1, var_kw x1.x (by omega)] at hvr
        by_cases hl : 8 < Mr 111 54
        · have hl2 : Mr 111 54 ≤ 500 := by unfold WR at x1; omega
          exact e_let (e_t (by rw [s1]; decide) (e_let (e_t (by rw [w32_eq (by omega) (by omega)]; exact hl) (e_call f2 rfl))))
        · have hl2 : 1 ≤ Mr 111 54 := by unfold WR at x1; omega
          exact e_let (e_t (by rw [s1]; decide) (e_let (e_f (by rw [w32_eq (by omega) (by omega)]; exact hl) (e_call hvr (e_t (by decide) (e_call (r_isKept h12) (e_f (by rw [Bz_t (by omega)]; decide) (e_call f2 rfl))))))))
      · exact e_let (e_f (by rw [w32_eq (by omega) (by omega)]; exact s1) (e_call f2 rfl))
