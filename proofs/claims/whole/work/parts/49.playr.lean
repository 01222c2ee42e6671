/-! the model plays so -/
def RR (n : Nat) (kw : Int) (M0 M S : Mem) : Prop := (∀ i, i < 9600 → M 134 i = S 0 i) ∧ (∀ i, i < 2400 → M 135 i = S 0 (9600 + i)) ∧ (∀ f, f < 20 → M 139 f = S 2 f ∧ M 140 f = S 2 (20 + f) ∧ M 141 f = S 2 (40 + f) ∧ M 142 f = S 2 (60 + f)) ∧ M 111 39 = S 3 0 ∧ ∀ k, k < n → (M0 120 k = 0 → M 136 k = netS M0 k - S 4 k ∧ M 138 k = gS M0 k kw) ∧ (M0 120 k ≠ 0 → M 137 k = S 4 k)
def raL : List Nat := [134, 135, 136, 137, 138, 139, 140, 141, 142, 143, 144, 145, 155, 156, 157, 158, 159]
def raK : List (Nat × Nat) := [(111, 39), (111, 72), (111, 108)]
theorem l_inEl {e : Nat} (he : e < 8) {M : Mem} : ∀ n fuel i : Nat, i + n = 1200 → n < fuel → fix (fun _ _ _ _ => none) k_Mo_inElevator_4 fuel (e : Int) (sm (fun i => M 134 (1200 * e + i)) i) (i : Int) M = some (sm (fun i => M 134 (1200 * e + i)) 1200, M) := by
  intro n; induction n with
  | zero =>
    intro fuel i e hf
    obtain ⟨f, rfl⟩ : ∃ f, fuel = f + 1 := ⟨fuel - 1, by omega⟩
    rw [fix_s]; unfold k_Mo_inElevator_4
    repeat (first | with_reducible refine e_let ?_ | with_reducible refine e_cs ?_ | with_reducible refine e_clet ?_ | with_reducible refine e_cc ?_ | (with_reducible refine e_chk ?_ ?_; · (first | omega | ((try simp (disch := omega) only [w32_eq, w64_eq, ix_n, ix_e, sto_n, sto_e, sto_r, zf_r, Int.toNat_natCast, true_or, or_true, eq_self]) <;> (first | omega | decide)))) | (with_reducible refine e_cchk ?_ ?_; · (first | omega | ((try simp (disch := omega) only [w32_eq, w64_eq, ix_n, ix_e, sto_n, sto_e, sto_r, zf_r, Int.toNat_natCast, true_or, or_true, eq_self]) <;> (first | omega | decide)))) | (with_reducible refine e_t ?_ ?_; · (first | omega | ((try simp (disch := omega) only [w32_eq, w64_eq, ix_n, ix_e, sto_n, sto_e, sto_r, zf_r, Int.toNat_natCast, true_or, or_true, eq_self]) <;> (first | omega | decide)))) | (with_reducible refine e_f ?_ ?_; · (first | omega | ((try simp (disch := omega) only [w32_eq, w64_eq, ix_n, ix_e, sto_n, sto_e, sto_r, zf_r, Int.toNat_natCast, true_or, or_true, eq_self]) <;> (first | omega | decide)))) | (with_reducible refine e_ct ?_ ?_; · (first | omega | ((try simp (disch := omega) only [w32_eq, w64_eq, ix_n, ix_e, sto_n, sto_e, sto_r, zf_r, Int.toNat_natCast, true_or, or_true, eq_self]) <;> (first | omega | decide)))) | (with_reducible refine e_cf ?_ ?_; · (first | omega | ((try simp (disch := omega) only [w32_eq, w64_eq, ix_n, ix_e, sto_n, sto_e, sto_r, zf_r, Int.toNat_natCast, true_or, or_true, eq_self]) <;> (first | omega | decide)))))
    rw [show i = 1200 by omega]
  | succ n ih =>
    intro fuel i e1 hf
    obtain ⟨f, rfl⟩ : ∃ f, fuel = f + 1 := ⟨fuel - 1, by omega⟩
    rw [fix_s]
    have := ih f (i + 1) (by omega) (by omega)
    have hj : (i : Int) + 1 = ((i + 1 : Nat) : Int) := by omega
    rw [← hj] at this
    unfold k_Mo_inElevator_4 d_Mo_binAt
    repeat (first | with_reducible refine e_let ?_ | with_reducible refine e_cs ?_ | with_reducible refine e_clet ?_ | with_reducible refine e_cc ?_ | (with_reducible refine e_chk ?_ ?_; · (first | omega | ((try simp (disch := omega) only [w32_eq, w64_eq, ix_n, ix_e, sto_n, sto_e, sto_r, zf_r, Int.toNat_natCast, true_or, or_true, eq_self]) <;> (first | omega | decide)))) | (with_reducible refine e_cchk ?_ ?_; · (first | omega | ((try simp (disch := omega) only [w32_eq, w64_eq, ix_n, ix_e, sto_n, sto_e, sto_r, zf_r, Int.toNat_natCast, true_or, or_true, eq_self]) <;> (first | omega | decide)))) | (with_reducible refine e_t ?_ ?_; · (first | omega | ((try simp (disch := omega) only [w32_eq, w64_eq, ix_n, ix_e, sto_n, sto_e, sto_r, zf_r, Int.toNat_natCast, true_or, or_true, eq_self]) <;> (first | omega | decide)))) | (with_reducible refine e_f ?_ ?_; · (first | omega | ((try simp (disch := omega) only [w32_eq, w64_eq, ix_n, ix_e, sto_n, sto_e, sto_r, zf_r, Int.toNat_natCast, true_or, or_true, eq_self]) <;> (first | omega | decide)))) | (with_reducible refine e_ct ?_ ?_; · (first | omega | ((try simp (disch := omega) only [w32_eq, w64_eq, ix_n, ix_e, sto_n, sto_e, sto_r, zf_r, Int.toNat_natCast, true_or, or_true, eq_self]) <;> (first | omega | decide)))) | (with_reducible refine e_cf ?_ ?_; · (first | omega | ((try simp (disch := omega) only [w32_eq, w64_eq, ix_n, ix_e, sto_n, sto_e, sto_r, zf_r, Int.toNat_natCast, true_or, or_true, eq_self]) <;> (first | omega | decide)))))
    have ex : ix (20 * ((6 * (e : Int) + 0) * 10 + 0) + (i : Int)) = 1200 * e + i := by
      rw [show 20 * ((6 * (e : Int) + 0) * 10 + 0) + (i : Int) = ((1200 * e + i : Nat) : Int) by omega, ix_n (by omega)]
    rw [ex]
    exact this
theorem s_inEl {e : Nat} (he : e < 8) {M : Mem} : d_Mo_inElevator (e : Int) M = some (sm (fun i => M 134 (1200 * e + i)) 1200, M) := by
  unfold d_Mo_inElevator
  exact l_inEl he 1200 FU 0 (by omega) (by unfold FU; omega)
theorem netS_sto {M : Mem} {c j k : Nat} {v : Int} (h1 : c ≠ 126) (h2 : c ≠ 127) : netS (sto M c j v) k = netS M k := by unfold netS; rw [sto_r (Ne.symm h1), sto_r (Ne.symm h2)]
theorem s_binAt {a b c : Int} {M : Mem} : d_Mo_binAt a b c M = some (20 * ((6 * a + b) * 10 + c), M) := rfl
theorem y_load {F : Nat → Int → (Nat → Int) → Int} {M0 M S : Mem} {n : Nat} {kw : Int} (hA : AskI F M0) (hG : IvG F M0) (hE : IvE M0) (hP : IvP M0) (hkw : 0 ≤ kw ∧ kw ≤ 519) (hF : Fr raL raK M0 M) (hn : (n : Int) < M0 111 7) (h0 : M0 120 n = 0) (hW : PW M0 n S) (hR : RR n kw M0 M S) :
    Ok (d_Mo_playLoad (n : Int) kw M) (fun _ M' => RR (n + 1) kw M0 M' (stL M0 kw n S)) := by
  obtain ⟨l1, l2, l3, l4, l5, l6, l7, l8, l9, l10, l11, l12, l13, l14⟩ := (hE.2.2.2.2.2.2.2.1 n hn).load h0
  have nb := netS_b l11 l12
  have hg := gS_r hA hG (k := n) (kw := kw)
  have hE1 := hE.1
  have hP1 := hP.1
  have hP2 := hP.2.1
  have hpe := hP.2.2.2.2.2.2.1 (M0 122 n).toNat (by omega)
  obtain ⟨-, hc, hsl⟩ := hW.load (kw := kw) hA hG hE hP hn h0
  obtain ⟨p1, p2, p3, p4, p5, p6, p7⟩ := hW
  have he := p3 (M0 122 n).toNat (by omega)
  have he0 : 0 ≤ S 1 (M0 122 n).toNat := by rw [p2 _ (by omega)]; exact sm_nn 1200 (fun i hi => (p1 _ (by omega)).1)
  obtain ⟨r1, r2, r3, r4, r5⟩ := hR
  have n120 : n < 120 := by omega
  obtain ⟨e, hee⟩ : ∃ e : Nat, M0 122 n = (e : Int) := ⟨(M0 122 n).toNat, by omega⟩
  obtain ⟨f, hff⟩ : ∃ f : Nat, M0 121 n = (f : Int) := ⟨(M0 121 n).toNat, by omega⟩
  have hcm : cmL M0 n S = if netS M0 n ≤ M0 119 e - S 1 e then netS M0 n else M0 119 e - S 1 e := by unfold cmL; rw [hee, Int.toNat_natCast]
  rw [hee, Int.toNat_natCast] at hpe he he0
  have ex : ix (n : Int) = n := ix_n (by omega)
  have exe : ix (e : Int) = e := ix_n (by omega)
  have exf : ix (f : Int) = f := ix_n (by omega)
  unfold d_Mo_playLoad
  repeat (first | with_reducible refine ok_let ?_ | with_reducible refine ok_cs ?_ | with_reducible refine ok_clet ?_ | with_reducible refine ok_cc ?_ | (with_reducible refine ok_chk ?_ ?_; · (first | omega | ((try simp (disch := omega) only [w32_eq, w64_eq, ix_n, ix_e, sto_n, sto_e, sto_r, zf_r, Int.toNat_natCast, true_or, or_true, eq_self]) <;> (first | omega | decide)))) | (with_reducible refine ok_cchk ?_ ?_; · (first | omega | ((try simp (disch := omega) only [w32_eq, w64_eq, ix_n, ix_e, sto_n, sto_e, sto_r, zf_r, Int.toNat_natCast, true_or, or_true, eq_self]) <;> (first | omega | decide)))) | (with_reducible refine ok_t ?_ ?_; · (first | omega | ((try simp (disch := omega) only [w32_eq, w64_eq, ix_n, ix_e, sto_n, sto_e, sto_r, zf_r, Int.toNat_natCast, true_or, or_true, eq_self]) <;> (first | omega | decide)))) | (with_reducible refine ok_f ?_ ?_; · (first | omega | ((try simp (disch := omega) only [w32_eq, w64_eq, ix_n, ix_e, sto_n, sto_e, sto_r, zf_r, Int.toNat_natCast, true_or, or_true, eq_self]) <;> (first | omega | decide)))) | (with_reducible refine ok_ct ?_ ?_; · (first | omega | ((try simp (disch := omega) only [w32_eq, w64_eq, ix_n, ix_e, sto_n, sto_e, sto_r, zf_r, Int.toNat_natCast, true_or, or_true, eq_self]) <;> (first | omega | decide)))) | (with_reducible refine ok_cf ?_ ?_; · (first | omega | ((try simp (disch := omega) only [w32_eq, w64_eq, ix_n, ix_e, sto_n, sto_e, sto_r, zf_r, Int.toNat_natCast, true_or, or_true, eq_self]) <;> (first | omega | decide)))))
  refine ok_call (s_gradeOf (hA.on (hF.ag (by decide) (by decide))) (hG.on hF (by decide) (by decide)) (hE.on hF (by decide) (by decide)) (hP.on hF (by decide) (by decide)) hkw (by rw [hF.f 111 7 (by decide) (by decide)]; exact hn) (by rw [hF.c 120 (by decide) (by decide)]; exact h0)) (fun v M1 hv => ?_)
  obtain ⟨hv, hF1⟩ := hv
  have hgS : v = gS M0 n kw := by
    rw [hv]; unfold gS; rw [hF.f 111 8 (by decide) (by decide), hF.c 130 (by decide) (by decide), hF.c 133 (by decide) (by decide), hF.c 30 (by decide) (by decide), hF.c 132 (by decide) (by decide)]
  have hF2 : Fr raL raK M0 M1 := hF.trans (hF1.mono (by decide) (by decide))
  have u119 := hF2.c 119 (by decide) (by decide)
  have u121 := hF.c 121 (by decide) (by decide)
  have u122 := hF2.c 122 (by decide) (by decide)
  have u125 := hF2.c 125 (by decide) (by decide)
  have u126 := hF2.c 126 (by decide) (by decide)
  have u127 := hF2.c 127 (by decide) (by decide)
  have u134 : M1 134 = M 134 := hF1.c 134 (by decide) (by decide)
  have hn1 : netS M1 n = netS M0 n := by unfold netS; rw [u126, u127]
  repeat (first | with_reducible refine ok_let ?_ | with_reducible refine ok_cs ?_ | with_reducible refine ok_clet ?_ | with_reducible refine ok_cc ?_ | (with_reducible refine ok_chk ?_ ?_; · (first | omega | ((try simp (disch := omega) only [w32_eq, w64_eq, ix_n, ix_e, sto_n, sto_e, sto_r, zf_r, Int.toNat_natCast, true_or, or_true, eq_self]) <;> (first | omega | decide)))) | (with_reducible refine ok_cchk ?_ ?_; · (first | omega | ((try simp (disch := omega) only [w32_eq, w64_eq, ix_n, ix_e, sto_n, sto_e, sto_r, zf_r, Int.toNat_natCast, true_or, or_true, eq_self]) <;> (first | omega | decide)))) | (with_reducible refine ok_t ?_ ?_; · (first | omega | ((try simp (disch := omega) only [w32_eq, w64_eq, ix_n, ix_e, sto_n, sto_e, sto_r, zf_r, Int.toNat_natCast, true_or, or_true, eq_self]) <;> (first | omega | decide)))) | (with_reducible refine ok_f ?_ ?_; · (first | omega | ((try simp (disch := omega) only [w32_eq, w64_eq, ix_n, ix_e, sto_n, sto_e, sto_r, zf_r, Int.toNat_natCast, true_or, or_true, eq_self]) <;> (first | omega | decide)))) | (with_reducible refine ok_ct ?_ ?_; · (first | omega | ((try simp (disch := omega) only [w32_eq, w64_eq, ix_n, ix_e, sto_n, sto_e, sto_r, zf_r, Int.toNat_natCast, true_or, or_true, eq_self]) <;> (first | omega | decide)))) | (with_reducible refine ok_cf ?_ ?_; · (first | omega | ((try simp (disch := omega) only [w32_eq, w64_eq, ix_n, ix_e, sto_n, sto_e, sto_r, zf_r, Int.toNat_natCast, true_or, or_true, eq_self]) <;> (first | omega | decide)))))
  rw [ex, hgS, sto_r (show 122 ≠ 138 by decide), u122, hee, u121, hff]
  refine ok_call_eq (s_inEl (by omega)) ?_
  refine ok_call_eq (s_net n120) ?_
  simp (disch := decide) only [netS_sto, hn1]
  rw [sto_r (show 134 ≠ 138 by decide), u134]
  have hin : sm (fun i => M 134 (1200 * e + i)) 1200 = S 1 e := by
    rw [p2 e (by omega)]; exact sm_ext 1200 (fun i hi => r1 _ (by omega))
  have hin2 : ∀ A : Mem, A 134 = M 134 → sm (fun i => A 134 (1200 * e + i)) 1200 = S 1 e := fun A h => by rw [h]; exact hin
  repeat (first | with_reducible refine ok_let ?_ | with_reducible refine ok_cs ?_ | with_reducible refine ok_clet ?_ | with_reducible refine ok_cc ?_ | (with_reducible refine ok_chk ?_ ?_; · (first | omega | ((try simp (disch := omega) only [w32_eq, w64_eq, ix_n, ix_e, sto_n, sto_e, sto_r, zf_r, Int.toNat_natCast, true_or, or_true, eq_self, u122, hee]) <;> (first | omega | decide)))) | (with_reducible refine ok_cchk ?_ ?_; · (first | omega | ((try simp (disch := omega) only [w32_eq, w64_eq, ix_n, ix_e, sto_n, sto_e, sto_r, zf_r, Int.toNat_natCast, true_or, or_true, eq_self, u122, hee]) <;> (first | omega | decide)))) | (with_reducible refine ok_t ?_ ?_; · (first | omega | ((try simp (disch := omega) only [w32_eq, w64_eq, ix_n, ix_e, sto_n, sto_e, sto_r, zf_r, Int.toNat_natCast, true_or, or_true, eq_self, u122, hee]) <;> (first | omega | decide)))) | (with_reducible refine ok_f ?_ ?_; · (first | omega | ((try simp (disch := omega) only [w32_eq, w64_eq, ix_n, ix_e, sto_n, sto_e, sto_r, zf_r, Int.toNat_natCast, true_or, or_true, eq_self, u122, hee]) <;> (first | omega | decide)))) | (with_reducible refine ok_ct ?_ ?_; · (first | omega | ((try simp (disch := omega) only [w32_eq, w64_eq, ix_n, ix_e, sto_n, sto_e, sto_r, zf_r, Int.toNat_natCast, true_or, or_true, eq_self, u122, hee]) <;> (first | omega | decide)))) | (with_reducible refine ok_cf ?_ ?_; · (first | omega | ((try simp (disch := omega) only [w32_eq, w64_eq, ix_n, ix_e, sto_n, sto_e, sto_r, zf_r, Int.toNat_natCast, true_or, or_true, eq_self, u122, hee]) <;> (first | omega | decide)))))
  simp (disch := omega) only [ex, sto_r, u122, hee, u119, exe, exf, u126, u134, hin]
  have et : mx32 0 (S 1 e + netS M0 n - M0 119 e) = netS M0 n - cmL M0 n S := by
    rw [mx32_eq ⟨by decide, by decide⟩ ⟨by omega, by omega⟩, hcm]
    split <;> split <;> omega
  rw [et]
  refine ok_call_eq (s_net n120) ?_
  simp (disch := decide) only [netS_sto, hn1]
  repeat (first | with_reducible refine ok_let ?_ | with_reducible refine ok_cs ?_ | with_reducible refine ok_clet ?_ | with_reducible refine ok_cc ?_ | (with_reducible refine ok_chk ?_ ?_; · (first | omega | ((try simp (disch := omega) only [w32_eq, w64_eq, ix_n, ix_e, sto_n, sto_e, sto_r, zf_r, Int.toNat_natCast, true_or, or_true, eq_self]) <;> (first | omega | decide)))) | (with_reducible refine ok_cchk ?_ ?_; · (first | omega | ((try simp (disch := omega) only [w32_eq, w64_eq, ix_n, ix_e, sto_n, sto_e, sto_r, zf_r, Int.toNat_natCast, true_or, or_true, eq_self]) <;> (first | omega | decide)))) | (with_reducible refine ok_t ?_ ?_; · (first | omega | ((try simp (disch := omega) only [w32_eq, w64_eq, ix_n, ix_e, sto_n, sto_e, sto_r, zf_r, Int.toNat_natCast, true_or, or_true, eq_self]) <;> (first | omega | decide)))) | (with_reducible refine ok_f ?_ ?_; · (first | omega | ((try simp (disch := omega) only [w32_eq, w64_eq, ix_n, ix_e, sto_n, sto_e, sto_r, zf_r, Int.toNat_natCast, true_or, or_true, eq_self]) <;> (first | omega | decide)))) | (with_reducible refine ok_ct ?_ ?_; · (first | omega | ((try simp (disch := omega) only [w32_eq, w64_eq, ix_n, ix_e, sto_n, sto_e, sto_r, zf_r, Int.toNat_natCast, true_or, or_true, eq_self]) <;> (first | omega | decide)))) | (with_reducible refine ok_cf ?_ ?_; · (first | omega | ((try simp (disch := omega) only [w32_eq, w64_eq, ix_n, ix_e, sto_n, sto_e, sto_r, zf_r, Int.toNat_natCast, true_or, or_true, eq_self]) <;> (first | omega | decide)))))
  simp (disch := omega) only [ex, sto_r, u122, hee, exe, exf, u125, sto_e]
  refine ok_call_eq s_binAt ?_
  have eb : 20 * ((6 * (e : Int) + gS M0 n kw) * 10 + M0 125 n) + (f : Int) = ((20 * slL M0 kw n + f : Nat) : Int) := by unfold slL; rw [hee]; omega
  rw [eb]
  repeat (first | with_reducible refine ok_let ?_ | with_reducible refine ok_cs ?_ | with_reducible refine ok_clet ?_ | with_reducible refine ok_cc ?_ | (with_reducible refine ok_chk ?_ ?_; · (first | omega | ((try simp (disch := omega) only [w32_eq, w64_eq, ix_n, ix_e, sto_n, sto_e, sto_r, zf_r, Int.toNat_natCast, true_or, or_true, eq_self]) <;> (first | omega | decide)))) | (with_reducible refine ok_cchk ?_ ?_; · (first | omega | ((try simp (disch := omega) only [w32_eq, w64_eq, ix_n, ix_e, sto_n, sto_e, sto_r, zf_r, Int.toNat_natCast, true_or, or_true, eq_self]) <;> (first | omega | decide)))) | (with_reducible refine ok_t ?_ ?_; · (first | omega | ((try simp (disch := omega) only [w32_eq, w64_eq, ix_n, ix_e, sto_n, sto_e, sto_r, zf_r, Int.toNat_natCast, true_or, or_true, eq_self]) <;> (first | omega | decide)))) | (with_reducible refine ok_f ?_ ?_; · (first | omega | ((try simp (disch := omega) only [w32_eq, w64_eq, ix_n, ix_e, sto_n, sto_e, sto_r, zf_r, Int.toNat_natCast, true_or, or_true, eq_self]) <;> (first | omega | decide)))) | (with_reducible refine ok_ct ?_ ?_; · (first | omega | ((try simp (disch := omega) only [w32_eq, w64_eq, ix_n, ix_e, sto_n, sto_e, sto_r, zf_r, Int.toNat_natCast, true_or, or_true, eq_self]) <;> (first | omega | decide)))) | (with_reducible refine ok_cf ?_ ?_; · (first | omega | ((try simp (disch := omega) only [w32_eq, w64_eq, ix_n, ix_e, sto_n, sto_e, sto_r, zf_r, Int.toNat_natCast, true_or, or_true, eq_self]) <;> (first | omega | decide)))))
  refine ok_call_eq (s_net n120) ?_
  simp (disch := decide) only [netS_sto, hn1]
  repeat (first | with_reducible refine ok_let ?_ | with_reducible refine ok_cs ?_ | with_reducible refine ok_clet ?_ | with_reducible refine ok_cc ?_ | (with_reducible refine ok_chk ?_ ?_; · (first | omega | ((try simp (disch := omega) only [w32_eq, w64_eq, ix_n, ix_e, sto_n, sto_e, sto_r, zf_r, Int.toNat_natCast, true_or, or_true, eq_self]) <;> (first | omega | decide)))) | (with_reducible refine ok_cchk ?_ ?_; · (first | omega | ((try simp (disch := omega) only [w32_eq, w64_eq, ix_n, ix_e, sto_n, sto_e, sto_r, zf_r, Int.toNat_natCast, true_or, or_true, eq_self]) <;> (first | omega | decide)))) | (with_reducible refine ok_t ?_ ?_; · (first | omega | ((try simp (disch := omega) only [w32_eq, w64_eq, ix_n, ix_e, sto_n, sto_e, sto_r, zf_r, Int.toNat_natCast, true_or, or_true, eq_self]) <;> (first | omega | decide)))) | (with_reducible refine ok_f ?_ ?_; · (first | omega | ((try simp (disch := omega) only [w32_eq, w64_eq, ix_n, ix_e, sto_n, sto_e, sto_r, zf_r, Int.toNat_natCast, true_or, or_true, eq_self]) <;> (first | omega | decide)))) | (with_reducible refine ok_ct ?_ ?_; · (first | omega | ((try simp (disch := omega) only [w32_eq, w64_eq, ix_n, ix_e, sto_n, sto_e, sto_r, zf_r, Int.toNat_natCast, true_or, or_true, eq_self]) <;> (first | omega | decide)))) | (with_reducible refine ok_cf ?_ ?_; · (first | omega | ((try simp (disch := omega) only [w32_eq, w64_eq, ix_n, ix_e, sto_n, sto_e, sto_r, zf_r, Int.toNat_natCast, true_or, or_true, eq_self]) <;> (first | omega | decide)))))
  simp (disch := omega) only [ex, sto_r, sto_e, ix_n, u134]
  refine ok_ret ?_
  have v139 := hF1.c 139 (by decide) (by decide)
  have v140 := hF1.c 140 (by decide) (by decide)
  rw [v139, v140, (r3 f (by omega)).1, (r3 f (by omega)).2.1]
  refine ⟨fun i hi => ?_, fun i hi => ?_, fun g hg => ?_, ?_, fun k hk => ?_⟩
  · simp (disch := decide) only [sto_r, sto_up, u134]
    show _ = up (S 0) (20 * slL M0 kw n + (M0 121 n).toNat) _ i
    rw [hff, Int.toNat_natCast]
    unfold up; split
    · rw [r1 _ (by omega)]; omega
    · exact r1 i hi
  · simp (disch := decide) only [sto_r]
    rw [hF1.c 135 (by decide) (by decide), r2 i hi]
    show _ = up (S 0) (20 * slL M0 kw n + (M0 121 n).toNat) _ (9600 + i)
    rw [up_n (by omega)]
  · simp (disch := decide) only [sto_r, sto_up]
    rw [v139, v140, hF1.c 141 (by decide) (by decide), hF1.c 142 (by decide) (by decide)]
    have q := r3 g hg
    have e2 : stL M0 kw n S 2 = up (up (S 2) f (S 2 f + dv32 (M0 126 n * M0 127 n) 1000)) (20 + f) (S 2 (20 + f) + (netS M0 n - cmL M0 n S)) := by
      show up (up (S 2) (M0 121 n).toNat _) (20 + (M0 121 n).toNat) _ = _
      rw [hff]; rfl
    rw [e2]
    unfold up
    refine ⟨?_, ?_, ?_, ?_⟩
    · rw [if_neg (by omega : ¬ g = 20 + f)]
      split
      · unfold netS; omega
      · exact q.1
    · by_cases c : g = f
      · rw [if_pos c, if_pos (by omega)]
      · rw [if_neg c, if_neg (by omega), if_neg (by omega)]; exact q.2.1
    · rw [if_neg (by omega), if_neg (by omega)]; exact q.2.2.1
    · rw [if_neg (by omega), if_neg (by omega)]; exact q.2.2.2
  · simp (disch := decide) only [sto_r]
    rw [hF1.f 111 39 (by decide) (by decide)]; exact r4
  · simp (disch := decide) only [sto_r, sto_up]
    rw [hF1.c 136 (by decide) (by decide), hF1.c 137 (by decide) (by decide), hF1.c 138 (by decide) (by decide)]
    show (_ → _ = _ - up (S 4) n _ k ∧ _) ∧ (_ → _ = up (S 4) n _ k)
    by_cases c : k = n
    · subst c; rw [up_e, up_e, up_e]
      exact ⟨fun _ => ⟨rfl, rfl⟩, fun h => absurd h0 h⟩
    · rw [up_n c, up_n c, up_n c]; exact r5 k (by omega)
/-- what is taken -/
def tbS (M : Mem) (a3 : Int) (b : Nat) (w : Nat → Int) : Prop := (a3 = 0 ∧ b + 20 ≤ 9600 ∧ ∀ f, f < 20 → M 134 (b + f) = w f) ∨ (a3 = 1 ∧ b + 20 ≤ 2400 ∧ ∀ f, f < 20 → M 135 (b + f) = w f)
theorem l_takeB {n b : Nat} (hn : n ≤ 20) {a2 a3 : Int} {w : Nat → Int} (hw : ∀ f, 0 ≤ w f ∧ w f ≤ 12000000) (h2 : 1 ≤ a2 ∧ a2 ≤ 100000) : ∀ (d fuel i : Nat) (M : Mem), i + d = n → d < fuel → M 111 5 = (n : Int) → tbS M a3 b w → (∀ f, f < i → M 143 f = w f) →
    Ok (fix (fun _ _ _ _ _ _ => none) k_Mo_takeBin_6 fuel (b : Int) a2 a3 (sm w i) (i : Int) M) (fun v M' => v = (if a2 ≤ sm w n then a2 else sm w n) ∧ (∀ f, f < n → M' 144 f = prtS n (if a2 ≤ sm w n then a2 else sm w n) w f) ∧ M' 111 39 = M 111 39 + (a2 - (if a2 ≤ sm w n then a2 else sm w n))) := by
  have hs0 := sm_nn (w := w) n (fun f _ => (hw f).1)
  have hs1 := sm_b (w := w) (c := 12000000) n (fun f _ => (hw f).2)
  intro d; induction d with
  | zero =>
    intro fuel i M e hf h5 ht h1
    have hi : i = n := by omega
    subst hi
    obtain ⟨f, rfl⟩ : ∃ f, fuel = f + 1 := ⟨fuel - 1, by omega⟩
    rw [fix_s]; unfold k_Mo_takeBin_6
    repeat (first | with_reducible refine ok_let ?_ | with_reducible refine ok_cs ?_ | with_reducible refine ok_clet ?_ | with_reducible refine ok_cc ?_ | (with_reducible refine ok_chk ?_ ?_; · (first | omega | ((try simp (disch := omega) only [w32_eq, w64_eq, ix_n, ix_e, sto_n, sto_e, sto_r, zf_r, Int.toNat_natCast, true_or, or_true, eq_self, h5]) <;> (first | omega | decide)))) | (with_reducible refine ok_cchk ?_ ?_; · (first | omega | ((try simp (disch := omega) only [w32_eq, w64_eq, ix_n, ix_e, sto_n, sto_e, sto_r, zf_r, Int.toNat_natCast, true_or, or_true, eq_self, h5]) <;> (first | omega | decide)))) | (with_reducible refine ok_t ?_ ?_; · (first | omega | ((try simp (disch := omega) only [w32_eq, w64_eq, ix_n, ix_e, sto_n, sto_e, sto_r, zf_r, Int.toNat_natCast, true_or, or_true, eq_self, h5]) <;> (first | omega | decide)))) | (with_reducible refine ok_f ?_ ?_; · (first | omega | ((try simp (disch := omega) only [w32_eq, w64_eq, ix_n, ix_e, sto_n, sto_e, sto_r, zf_r, Int.toNat_natCast, true_or, or_true, eq_self, h5]) <;> (first | omega | decide)))) | (with_reducible refine ok_ct ?_ ?_; · (first | omega | ((try simp (disch := omega) only [w32_eq, w64_eq, ix_n, ix_e, sto_n, sto_e, sto_r, zf_r, Int.toNat_natCast, true_or, or_true, eq_self, h5]) <;> (first | omega | decide)))) | (with_reducible refine ok_cf ?_ ?_; · (first | omega | ((try simp (disch := omega) only [w32_eq, w64_eq, ix_n, ix_e, sto_n, sto_e, sto_r, zf_r, Int.toNat_natCast, true_or, or_true, eq_self, h5]) <;> (first | omega | decide)))))
    rw [mn32_eq ⟨by omega, by omega⟩ ⟨by omega, by omega⟩]
    have ht0 : 0 ≤ (if a2 ≤ sm w i then a2 else sm w i) ∧ (if a2 ≤ sm w i then a2 else sm w i) ≤ 100000 := by split <;> omega
    generalize (if a2 ≤ sm w i then a2 else sm w i) = tk at *
    rw [w32_eq (x := tk) (by omega) (by omega)]
    refine ok_call (s_parts hn (w := w) (by rw [sto_n (by decide)]; exact h5) (fun f hf => by rw [sto_r (by decide)]; exact h1 f hf) (fun f => (hw f).1) ht0.1 (by omega) ?_ (by omega)) (fun v M1 hv => ok_ret ⟨rfl, hv.1, ?_⟩)
    · have := mul_b (x := tk) (y := sm w i) (a := 100000) (b := 240000000) ht0 ⟨hs0, by omega⟩
      omega
    · rw [hv.2.f 111 39 (by decide) (by decide), sto_e]
  | succ d ih =>
    intro fuel i M e hf h5 ht h1
    obtain ⟨f, rfl⟩ : ∃ f, fuel = f + 1 := ⟨fuel - 1, by omega⟩
    rw [fix_s]; unfold k_Mo_takeBin_6
    have hj : (i : Int) + 1 = ((i + 1 : Nat) : Int) := by omega
    have hwi := hw i
    have fin : Ok (k_Mo_takeBin_48 (fix (fun _ _ _ _ _ _ => none) k_Mo_takeBin_6 f) (b : Int) a2 a3 (sm w i) (i : Int) (i : Int) (w i) M) (fun v M' => v = (if a2 ≤ sm w n then a2 else sm w n) ∧ (∀ f, f < n → M' 144 f = prtS n (if a2 ≤ sm w n then a2 else sm w n) w f) ∧ M' 111 39 = M 111 39 + (a2 - (if a2 ≤ sm w n then a2 else sm w n))) := by
      unfold k_Mo_takeBin_48
      repeat (first | with_reducible refine ok_let ?_ | with_reducible refine ok_cs ?_ | with_reducible refine ok_clet ?_ | with_reducible refine ok_cc ?_ | (with_reducible refine ok_chk ?_ ?_; · (first | omega | ((try simp (disch := omega) only [w32_eq, w64_eq, ix_n, ix_e, sto_n, sto_e, sto_r, zf_r, Int.toNat_natCast, true_or, or_true, eq_self]) <;> (first | omega | decide)))) | (with_reducible refine ok_cchk ?_ ?_; · (first | omega | ((try simp (disch := omega) only [w32_eq, w64_eq, ix_n, ix_e, sto_n, sto_e, sto_r, zf_r, Int.toNat_natCast, true_or, or_true, eq_self]) <;> (first | omega | decide)))) | (with_reducible refine ok_t ?_ ?_; · (first | omega | ((try simp (disch := omega) only [w32_eq, w64_eq, ix_n, ix_e, sto_n, sto_e, sto_r, zf_r, Int.toNat_natCast, true_or, or_true, eq_self]) <;> (first | omega | decide)))) | (with_reducible refine ok_f ?_ ?_; · (first | omega | ((try simp (disch := omega) only [w32_eq, w64_eq, ix_n, ix_e, sto_n, sto_e, sto_r, zf_r, Int.toNat_natCast, true_or, or_true, eq_self]) <;> (first | omega | decide)))) | (with_reducible refine ok_ct ?_ ?_; · (first | omega | ((try simp (disch := omega) only [w32_eq, w64_eq, ix_n, ix_e, sto_n, sto_e, sto_r, zf_r, Int.toNat_natCast, true_or, or_true, eq_self]) <;> (first | omega | decide)))) | (with_reducible refine ok_cf ?_ ?_; · (first | omega | ((try simp (disch := omega) only [w32_eq, w64_eq, ix_n, ix_e, sto_n, sto_e, sto_r, zf_r, Int.toNat_natCast, true_or, or_true, eq_self]) <;> (first | omega | decide)))))
      rw [hj, ix_n (by omega), sto_e]
      have q := ih f (i + 1) (sto M 143 i (w i)) (by omega) (by omega) (by rw [sto_r (by decide)]; exact h5) ?_ (fun f hf => ?_)
      · rw [sto_r (show 111 ≠ 143 by decide)] at q; exact q
      · unfold tbS at ht ⊢; rw [sto_r (by decide), sto_r (by decide)]; exact ht
      · rw [sto_up]; unfold up; split
        · rename_i c; rw [c]
        · exact h1 f (by omega)
    have ex : ix ((b : Int) + (i : Int)) = b + i := by
      rcases ht with ⟨-, t2, -⟩ | ⟨-, t2, -⟩ <;> (rw [show (b : Int) + (i : Int) = ((b + i : Nat) : Int) by omega, ix_n (by omega)])
    rcases ht with ⟨t1, t2, t3⟩ | ⟨t1, t2, t3⟩
    · repeat (first | with_reducible refine ok_let ?_ | with_reducible refine ok_cs ?_ | with_reducible refine ok_clet ?_ | with_reducible refine ok_cc ?_ | (with_reducible refine ok_chk ?_ ?_; · (first | omega | ((try simp (disch := omega) only [w32_eq, w64_eq, ix_n, ix_e, sto_n, sto_e, sto_r, zf_r, Int.toNat_natCast, true_or, or_true, eq_self, h5, t1]) <;> (first | omega | decide)))) | (with_reducible refine ok_cchk ?_ ?_; · (first | omega | ((try simp (disch := omega) only [w32_eq, w64_eq, ix_n, ix_e, sto_n, sto_e, sto_r, zf_r, Int.toNat_natCast, true_or, or_true, eq_self, h5, t1]) <;> (first | omega | decide)))) | (with_reducible refine ok_t ?_ ?_; · (first | omega | ((try simp (disch := omega) only [w32_eq, w64_eq, ix_n, ix_e, sto_n, sto_e, sto_r, zf_r, Int.toNat_natCast, true_or, or_true, eq_self, h5, t1]) <;> (first | omega | decide)))) | (with_reducible refine ok_f ?_ ?_; · (first | omega | ((try simp (disch := omega) only [w32_eq, w64_eq, ix_n, ix_e, sto_n, sto_e, sto_r, zf_r, Int.toNat_natCast, true_or, or_true, eq_self, h5, t1]) <;> (first | omega | decide)))) | (with_reducible refine ok_ct ?_ ?_; · (first | omega | ((try simp (disch := omega) only [w32_eq, w64_eq, ix_n, ix_e, sto_n, sto_e, sto_r, zf_r, Int.toNat_natCast, true_or, or_true, eq_self, h5, t1]) <;> (first | omega | decide)))) | (with_reducible refine ok_cf ?_ ?_; · (first | omega | ((try simp (disch := omega) only [w32_eq, w64_eq, ix_n, ix_e, sto_n, sto_e, sto_r, zf_r, Int.toNat_natCast, true_or, or_true, eq_self, h5, t1]) <;> (first | omega | decide)))))
      rw [ex, t3 i (by omega), w32_eq (x := w i) (by omega) (by omega)]
      exact fin
    · repeat (first | with_reducible refine ok_let ?_ | with_reducible refine ok_cs ?_ | with_reducible refine ok_clet ?_ | with_reducible refine ok_cc ?_ | (with_reducible refine ok_chk ?_ ?_; · (first | omega | ((try simp (disch := omega) only [w32_eq, w64_eq, ix_n, ix_e, sto_n, sto_e, sto_r, zf_r, Int.toNat_natCast, true_or, or_true, eq_self, h5, t1]) <;> (first | omega | decide)))) | (with_reducible refine ok_cchk ?_ ?_; · (first | omega | ((try simp (disch := omega) only [w32_eq, w64_eq, ix_n, ix_e, sto_n, sto_e, sto_r, zf_r, Int.toNat_natCast, true_or, or_true, eq_self, h5, t1]) <;> (first | omega | decide)))) | (with_reducible refine ok_t ?_ ?_; · (first | omega | ((try simp (disch := omega) only [w32_eq, w64_eq, ix_n, ix_e, sto_n, sto_e, sto_r, zf_r, Int.toNat_natCast, true_or, or_true, eq_self, h5, t1]) <;> (first | omega | decide)))) | (with_reducible refine ok_f ?_ ?_; · (first | omega | ((try simp (disch := omega) only [w32_eq, w64_eq, ix_n, ix_e, sto_n, sto_e, sto_r, zf_r, Int.toNat_natCast, true_or, or_true, eq_self, h5, t1]) <;> (first | omega | decide)))) | (with_reducible refine ok_ct ?_ ?_; · (first | omega | ((try simp (disch := omega) only [w32_eq, w64_eq, ix_n, ix_e, sto_n, sto_e, sto_r, zf_r, Int.toNat_natCast, true_or, or_true, eq_self, h5, t1]) <;> (first | omega | decide)))) | (with_reducible refine ok_cf ?_ ?_; · (first | omega | ((try simp (disch := omega) only [w32_eq, w64_eq, ix_n, ix_e, sto_n, sto_e, sto_r, zf_r, Int.toNat_natCast, true_or, or_true, eq_self, h5, t1]) <;> (first | omega | decide)))))
      rw [ex, t3 i (by omega), w32_eq (x := w i) (by omega) (by omega)]
      exact fin
theorem s_takeBin {n b : Nat} (hn : n ≤ 20) {a2 a3 : Int} {w : Nat → Int} {M : Mem} (hw : ∀ f, 0 ≤ w f ∧ w f ≤ 12000000) (h2 : 1 ≤ a2 ∧ a2 ≤ 100000) (h5 : M 111 5 = (n : Int)) (ht : tbS M a3 b w) :
    Ok (d_Mo_takeBin (b : Int) a2 a3 M) (fun v M' => (v = (if a2 ≤ sm w n then a2 else sm w n) ∧ (∀ f, f < n → M' 144 f = prtS n (if a2 ≤ sm w n then a2 else sm w n) w f) ∧ M' 111 39 = M 111 39 + (a2 - (if a2 ≤ sm w n then a2 else sm w n))) ∧ Fr [143, 144, 145] [(111, 39)] M M') := by
  refine ok_fr ?_ (fun r hr => w_Mo_takeBin hr)
  unfold d_Mo_takeBin
  exact l_takeB hn hw h2 n FU 0 M (by omega) (by unfold FU; omega) h5 ht (fun f hf => by omega)
