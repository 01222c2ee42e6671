/-! votes, and who is for -/
def vE (M : Mem) (w : Int) (f : Nat) : Nat → Int := up (up (up (up (up e0 2 w) 3 (w / 52)) 5 (M 116 f)) 6 (M 117 f)) 7 (M 115 f)
def vtS (F : Nat → Int → (Nat → Int) → Int) (M : Mem) (w : Int) (f : Nat) : Int := F 6 w (vE M w f)
def fvN (F : Nat → Int → (Nat → Int) → Int) (M : Mem) (w d : Int) (n : Nat) : Int := sm (fun f => if M 166 f = 1 ∧ M 115 f = d then vtS F M w f else 0) n
def agN (F : Nat → Int → (Nat → Int) → Int) (M : Mem) (w d : Int) (n : Nat) : Int := sm (fun f => if M 166 f = 0 ∧ M 115 f = d then vtS F M w f else 0) n
theorem vt_b {F : Nat → Int → (Nat → Int) → Int} {M : Mem} (hA : AskI F M) (w : Int) (f : Nat) : 0 ≤ vtS F M w f ∧ vtS F M w f ≤ 1000 := hA.2.2.2.1 6 _ _
theorem fv_b {F : Nat → Int → (Nat → Int) → Int} {M : Mem} (hA : AskI F M) (w d : Int) (n : Nat) : (0 ≤ fvN F M w d n ∧ fvN F M w d n ≤ 1000 * n) ∧ (0 ≤ agN F M w d n ∧ agN F M w d n ≤ 1000 * n) := by
  have hv := fun f => vt_b hA w f
  refine ⟨⟨sm_nn n (fun f _ => ?_), sm_b n (fun f _ => ?_)⟩, ⟨sm_nn n (fun f _ => ?_), sm_b n (fun f _ => ?_)⟩⟩ <;> (split <;> have := hv f <;> omega)
theorem w32_add {x y : Int} : w32 (x + y) = w32 (w32 x + w32 y) := by unfold w32; omega
theorem w32_sub {x y : Int} : w32 (x - y) = w32 (w32 x - w32 y) := by unfold w32; omega
theorem w32_neg {x : Int} : w32 (-x) = w32 (- w32 x) := by unfold w32; omega
theorem s_tellOf {M : Mem} {f : Nat} (hf : f < 20) (h7 : 0 ≤ M 7 f ∧ M 7 f ≤ 5000) (h8 : 0 ≤ M 8 f ∧ M 8 f ≤ 100000) (h6 : 0 ≤ M 6 f ∧ M 6 f ≤ 5) : d_Pr_tellOf (f : Int) M = some (0, sto (sto (sto M 34 5 (M 7 f)) 34 6 (M 8 f)) 34 7 (M 6 f)) := by
  have ef : ix (f : Int) = f := ix_n (by omega)
  unfold d_Pr_tellOf
  repeat (first | with_reducible refine e_let ?_ | with_reducible refine e_cs ?_ | with_reducible refine e_clet ?_ | with_reducible refine e_cc ?_ | (with_reducible refine e_chk ?_ ?_; · (first | omega | ((try simp (disch := omega) only [w32_eq, w64_eq, ix_n, ix_e, sto_n, sto_e, sto_r, zf_r, Int.toNat_natCast, true_or, or_true, eq_self]) <;> (first | omega | decide)))) | (with_reducible refine e_cchk ?_ ?_; · (first | omega | ((try simp (disch := omega) only [w32_eq, w64_eq, ix_n, ix_e, sto_n, sto_e, sto_r, zf_r, Int.toNat_natCast, true_or, or_true, eq_self]) <;> (first | omega | decide)))) | (with_reducible refine e_t ?_ ?_; · (first | omega | ((try simp (disch := omega) only [w32_eq, w64_eq, ix_n, ix_e, sto_n, sto_e, sto_r, zf_r, Int.toNat_natCast, true_or, or_true, eq_self]) <;> (first | omega | decide)))) | (with_reducible refine e_f ?_ ?_; · (first | omega | ((try simp (disch := omega) only [w32_eq, w64_eq, ix_n, ix_e, sto_n, sto_e, sto_r, zf_r, Int.toNat_natCast, true_or, or_true, eq_self]) <;> (first | omega | decide)))) | (with_reducible refine e_ct ?_ ?_; · (first | omega | ((try simp (disch := omega) only [w32_eq, w64_eq, ix_n, ix_e, sto_n, sto_e, sto_r, zf_r, Int.toNat_natCast, true_or, or_true, eq_self]) <;> (first | omega | decide)))) | (with_reducible refine e_cf ?_ ?_; · (first | omega | ((try simp (disch := omega) only [w32_eq, w64_eq, ix_n, ix_e, sto_n, sto_e, sto_r, zf_r, Int.toNat_natCast, true_or, or_true, eq_self]) <;> (first | omega | decide)))))
  refine e_call (s_tell (by decide)) ?_
  repeat (first | with_reducible refine e_let ?_ | with_reducible refine e_cs ?_ | with_reducible refine e_clet ?_ | with_reducible refine e_cc ?_ | (with_reducible refine e_chk ?_ ?_; · (first | omega | ((try simp (disch := omega) only [w32_eq, w64_eq, ix_n, ix_e, sto_n, sto_e, sto_r, zf_r, Int.toNat_natCast, true_or, or_true, eq_self]) <;> (first | omega | decide)))) | (with_reducible refine e_cchk ?_ ?_; · (first | omega | ((try simp (disch := omega) only [w32_eq, w64_eq, ix_n, ix_e, sto_n, sto_e, sto_r, zf_r, Int.toNat_natCast, true_or, or_true, eq_self]) <;> (first | omega | decide)))) | (with_reducible refine e_t ?_ ?_; · (first | omega | ((try simp (disch := omega) only [w32_eq, w64_eq, ix_n, ix_e, sto_n, sto_e, sto_r, zf_r, Int.toNat_natCast, true_or, or_true, eq_self]) <;> (first | omega | decide)))) | (with_reducible refine e_f ?_ ?_; · (first | omega | ((try simp (disch := omega) only [w32_eq, w64_eq, ix_n, ix_e, sto_n, sto_e, sto_r, zf_r, Int.toNat_natCast, true_or, or_true, eq_self]) <;> (first | omega | decide)))) | (with_reducible refine e_ct ?_ ?_; · (first | omega | ((try simp (disch := omega) only [w32_eq, w64_eq, ix_n, ix_e, sto_n, sto_e, sto_r, zf_r, Int.toNat_natCast, true_or, or_true, eq_self]) <;> (first | omega | decide)))) | (with_reducible refine e_cf ?_ ?_; · (first | omega | ((try simp (disch := omega) only [w32_eq, w64_eq, ix_n, ix_e, sto_n, sto_e, sto_r, zf_r, Int.toNat_natCast, true_or, or_true, eq_self]) <;> (first | omega | decide)))))
  refine e_call (s_tell (by decide)) ?_
  repeat (first | with_reducible refine e_let ?_ | with_reducible refine e_cs ?_ | with_reducible refine e_clet ?_ | with_reducible refine e_cc ?_ | (with_reducible refine e_chk ?_ ?_; · (first | omega | ((try simp (disch := omega) only [w32_eq, w64_eq, ix_n, ix_e, sto_n, sto_e, sto_r, zf_r, Int.toNat_natCast, true_or, or_true, eq_self]) <;> (first | omega | decide)))) | (with_reducible refine e_cchk ?_ ?_; · (first | omega | ((try simp (disch := omega) only [w32_eq, w64_eq, ix_n, ix_e, sto_n, sto_e, sto_r, zf_r, Int.toNat_natCast, true_or, or_true, eq_self]) <;> (first | omega | decide)))) | (with_reducible refine e_t ?_ ?_; · (first | omega | ((try simp (disch := omega) only [w32_eq, w64_eq, ix_n, ix_e, sto_n, sto_e, sto_r, zf_r, Int.toNat_natCast, true_or, or_true, eq_self]) <;> (first | omega | decide)))) | (with_reducible refine e_f ?_ ?_; · (first | omega | ((try simp (disch := omega) only [w32_eq, w64_eq, ix_n, ix_e, sto_n, sto_e, sto_r, zf_r, Int.toNat_natCast, true_or, or_true, eq_self]) <;> (first | omega | decide)))) | (with_reducible refine e_ct ?_ ?_; · (first | omega | ((try simp (disch := omega) only [w32_eq, w64_eq, ix_n, ix_e, sto_n, sto_e, sto_r, zf_r, Int.toNat_natCast, true_or, or_true, eq_self]) <;> (first | omega | decide)))) | (with_reducible refine e_cf ?_ ?_; · (first | omega | ((try simp (disch := omega) only [w32_eq, w64_eq, ix_n, ix_e, sto_n, sto_e, sto_r, zf_r, Int.toNat_natCast, true_or, or_true, eq_self]) <;> (first | omega | decide)))))
  refine e_call (s_tell (by decide)) ?_
  rw [show Int.toNat 5 = 5 from rfl, show Int.toNat 6 = 6 from rfl, show Int.toNat 7 = 7 from rfl, ef]
  simp (disch := decide) only [sto_r]
  rw [w32_eq (x := M 7 f) (by omega) (by omega), w32_eq (x := M 8 f) (by omega) (by omega), w32_eq (x := M 6 f) (by omega) (by omega)]
/-- what stays while votes are counted -/
def VcS (M0 : Mem) (w : Int) (M : Mem) : Prop := Ag TxL TxK M0 M ∧ (∀ c ∈ [6, 7, 8, 12], M c = M0 c) ∧ M 5 0 = M0 5 0 ∧ M 32 2 = fcF (M0 147) w (M0 111 56).toNat ∧ ∀ i, i ≠ 5 → i ≠ 6 → i ≠ 7 → ev (M 34) i = eW w i
theorem l_count {F : Nat → Int → (Nat → Int) → Int} {M0 : Mem} {w : Int} (hA : AskI F M0) (hP : IvP M0) (hw : 0 ≤ w ∧ w ≤ 519) :
    ∀ (n fuel i : Nat) (M : Mem), i + n = (M0 111 5).toNat → n < fuel → VcS M0 w M → (∀ f, f < i → w32 (M 105 f) = vtS F M0 w f) → (∀ d : Nat, d < 6 → w32 (M 104 d) = fvN F M0 w d i - agN F M0 w d i) →
    Ok (fix (fun _ _ => none) k_Ba_count_26 fuel (i : Int) M) (fun _ M' => (∀ f : Nat, (f : Int) < M0 111 5 → w32 (M' 105 f) = vtS F M0 w f) ∧ ∀ d : Nat, d < 6 → w32 (M' 104 d) = fvN F M0 w d (M0 111 5).toNat - agN F M0 w d (M0 111 5).toNat) := by
  have hp1 := hP.1
  have hp5 := hP.2.2.1
  intro n; induction n with
  | zero =>
    intro fuel i M e hf hS h105 h104
    have u5 := hS.2.2.1
    have : i = (M0 111 5).toNat := by omega
    subst this
    obtain ⟨f, rfl⟩ : ∃ f, fuel = f + 1 := ⟨fuel - 1, by omega⟩; rw [fix_s]; unfold k_Ba_count_26
    repeat (first | with_reducible refine ok_let ?_ | with_reducible refine ok_cs ?_ | with_reducible refine ok_clet ?_ | with_reducible refine ok_cc ?_ | (with_reducible refine ok_chk ?_ ?_; · (first | omega | ((try simp (disch := omega) only [w32_eq, w64_eq, ix_n, ix_e, sto_n, sto_e, sto_r, zf_r, Int.toNat_natCast, true_or, or_true, eq_self, u5, hp5]) <;> (first | omega | decide)))) | (with_reducible refine ok_cchk ?_ ?_; · (first | omega | ((try simp (disch := omega) only [w32_eq, w64_eq, ix_n, ix_e, sto_n, sto_e, sto_r, zf_r, Int.toNat_natCast, true_or, or_true, eq_self, u5, hp5]) <;> (first | omega | decide)))) | (with_reducible refine ok_t ?_ ?_; · (first | omega | ((try simp (disch := omega) only [w32_eq, w64_eq, ix_n, ix_e, sto_n, sto_e, sto_r, zf_r, Int.toNat_natCast, true_or, or_true, eq_self, u5, hp5]) <;> (first | omega | decide)))) | (with_reducible refine ok_f ?_ ?_; · (first | omega | ((try simp (disch := omega) only [w32_eq, w64_eq, ix_n, ix_e, sto_n, sto_e, sto_r, zf_r, Int.toNat_natCast, true_or, or_true, eq_self, u5, hp5]) <;> (first | omega | decide)))) | (with_reducible refine ok_ct ?_ ?_; · (first | omega | ((try simp (disch := omega) only [w32_eq, w64_eq, ix_n, ix_e, sto_n, sto_e, sto_r, zf_r, Int.toNat_natCast, true_or, or_true, eq_self, u5, hp5]) <;> (first | omega | decide)))) | (with_reducible refine ok_cf ?_ ?_; · (first | omega | ((try simp (disch := omega) only [w32_eq, w64_eq, ix_n, ix_e, sto_n, sto_e, sto_r, zf_r, Int.toNat_natCast, true_or, or_true, eq_self, u5, hp5]) <;> (first | omega | decide)))))
    exact ok_ret ⟨fun f hf => h105 f (by omega), h104⟩
  | succ n ih =>
    intro fuel i M e hf hS h105 h104
    obtain ⟨s1, s2, s3, s4, s5⟩ := hS
    obtain ⟨r1, r2, r3, r4, r5, r6, r7, r8, r9⟩ := hP.2.2.2.2.1 i (by omega)
    have hj : (i : Int) + 1 = ((i + 1 : Nat) : Int) := by omega
    have ei : ix (i : Int) = i := ix_n (by omega)
    have u6 : M 6 i = M0 115 i := by rw [s2 6 (by decide), r1]
    have u7 : M 7 i = M0 116 i := by rw [s2 7 (by decide), r2]
    have u8 : M 8 i = M0 117 i := by rw [s2 8 (by decide), r3]
    have hv := vt_b hA w i
    obtain ⟨f, rfl⟩ : ∃ f, fuel = f + 1 := ⟨fuel - 1, by omega⟩; rw [fix_s]; unfold k_Ba_count_26
    repeat (first | with_reducible refine ok_let ?_ | with_reducible refine ok_cs ?_ | with_reducible refine ok_clet ?_ | with_reducible refine ok_cc ?_ | (with_reducible refine ok_chk ?_ ?_; · (first | omega | ((try simp (disch := omega) only [w32_eq, w64_eq, ix_n, ix_e, sto_n, sto_e, sto_r, zf_r, Int.toNat_natCast, true_or, or_true, eq_self, s3, hp5]) <;> (first | omega | decide)))) | (with_reducible refine ok_cchk ?_ ?_; · (first | omega | ((try simp (disch := omega) only [w32_eq, w64_eq, ix_n, ix_e, sto_n, sto_e, sto_r, zf_r, Int.toNat_natCast, true_or, or_true, eq_self, s3, hp5]) <;> (first | omega | decide)))) | (with_reducible refine ok_t ?_ ?_; · (first | omega | ((try simp (disch := omega) only [w32_eq, w64_eq, ix_n, ix_e, sto_n, sto_e, sto_r, zf_r, Int.toNat_natCast, true_or, or_true, eq_self, s3, hp5]) <;> (first | omega | decide)))) | (with_reducible refine ok_f ?_ ?_; · (first | omega | ((try simp (disch := omega) only [w32_eq, w64_eq, ix_n, ix_e, sto_n, sto_e, sto_r, zf_r, Int.toNat_natCast, true_or, or_true, eq_self, s3, hp5]) <;> (first | omega | decide)))) | (with_reducible refine ok_ct ?_ ?_; · (first | omega | ((try simp (disch := omega) only [w32_eq, w64_eq, ix_n, ix_e, sto_n, sto_e, sto_r, zf_r, Int.toNat_natCast, true_or, or_true, eq_self, s3, hp5]) <;> (first | omega | decide)))) | (with_reducible refine ok_cf ?_ ?_; · (first | omega | ((try simp (disch := omega) only [w32_eq, w64_eq, ix_n, ix_e, sto_n, sto_e, sto_r, zf_r, Int.toNat_natCast, true_or, or_true, eq_self, s3, hp5]) <;> (first | omega | decide)))))
    refine ok_call_eq (s_tellOf (by omega) (by rw [u7]; omega) (by rw [u8]; omega) (by rw [u6]; omega)) ?_
    rw [u6, u7, u8]
    have hX : ev (sto (sto (sto M 34 5 (M0 116 i)) 34 6 (M0 117 i)) 34 7 (M0 115 i) 34) = vE M0 w i := by
      rw [sto_up, sto_up, sto_up, ev_up (by decide), ev_up (by decide), ev_up (by decide), w64_eq (by omega) (by omega), w64_eq (by omega) (by omega), w64_eq (by omega) (by omega)]
      unfold vE
      funext j
      unfold up
      by_cases c7 : j = 7
      · rw [if_pos c7, if_pos c7]
      · rw [if_neg c7, if_neg c7]
        by_cases c6 : j = 6
        · rw [if_pos c6, if_pos c6]
        · rw [if_neg c6, if_neg c6]
          by_cases c5 : j = 5
          · rw [if_pos c5, if_pos c5]
          · rw [if_neg c5, if_neg c5, s5 j c5 c6 c7]; rfl
    have hFX : Fr [34] [] M (sto (sto (sto M 34 5 (M0 116 i)) 34 6 (M0 117 i)) 34 7 (M0 115 i)) := by (repeat (first | with_reducible exact Fr.rfl' | with_reducible assumption | with_reducible refine Fr.trans ?_ (fr_stoA (by decide)) | with_reducible refine Fr.trans ?_ (fr_stoF (by decide)) | with_reducible refine Fr.trans ?_ (fr_zf (by decide))))
    generalize sto (sto (sto M 34 5 (M0 116 i)) 34 6 (M0 117 i)) 34 7 (M0 115 i) = X at *
    refine ok_call (ask_at 6 w (vE M0 w i) hA (s1.trans (hFX.ag (by decide) (by decide))) (by decide) hw rfl (by rw [hFX.f 32 2 (by decide) (by decide)]; exact s4) hX) (fun v Y h => ?_)
    obtain ⟨b1, F1⟩ := h
    have hFY : Fr [34, 35, 36, 37, 38] [(32, 8)] M Y := Fr.trans (hFX.mono (by decide) (by decide)) (F1.mono (by decide) (by decide))
    have y12 : Y 12 i = M0 166 i := by rw [hFY.c 12 (by decide) (by decide), s2 12 (by decide), r4]
    have y6 : Y 6 i = M0 115 i := by rw [hFY.c 6 (by decide) (by decide), u6]
    have y104 : Y 104 = M 104 := hFY.c 104 (by decide) (by decide)
    have y105 : Y 105 = M 105 := hFY.c 105 (by decide) (by decide)
    have keep : ∀ Z : Mem, Fr [104, 105] [] Y Z → VcS M0 w Z := by
      intro Z hZ
      have hFZ : Fr [34, 35, 36, 37, 38, 104, 105] [(32, 8)] M Z := Fr.trans (hFY.mono (by decide) (by decide)) (hZ.mono (by decide) (by decide))
      refine ⟨s1.trans (hFZ.ag (by decide) (by decide)), fun c hc => ?_, by rw [hFZ.f 5 0 (by decide) (by decide)]; exact s3, by rw [hFZ.f 32 2 (by decide) (by decide)]; exact s4, fun j g5 g6 g7 => ?_⟩
      · rw [← s2 c hc]
        exact hFZ.c c ((by decide : ∀ c ∈ [6, 7, 8, 12], c ∉ [34, 35, 36, 37, 38, 104, 105]) c hc) (fun q hq h => (by decide : ∀ q ∈ [(32, 8)], ∀ c ∈ [6, 7, 8, 12], q.1 ≠ c) q hq c hc h)
      · rw [hZ.c 34 (by decide) (by decide), F1.c 34 (by decide) (by decide), hX]
        unfold vE eW
        rw [up_n g7, up_n g6, up_n g5]
    have h105' : ∀ Z : Mem, Z 105 = up (M 105) i v → ∀ f, f < i + 1 → w32 (Z 105 f) = vtS F M0 w f := by
      intro Z hZ f hf
      rw [hZ]; unfold up; split
      · rename_i c; rw [b1, c]; rfl
      · exact h105 f (by omega)
    have sF : ∀ d : Int, fvN F M0 w d (i + 1) = fvN F M0 w d i + (if M0 166 i = 1 ∧ M0 115 i = d then vtS F M0 w i else 0) := fun d => rfl
    have sG : ∀ d : Int, agN F M0 w d (i + 1) = agN F M0 w d i + (if M0 166 i = 0 ∧ M0 115 i = d then vtS F M0 w i else 0) := fun d => rfl
    have hb : ∀ d : Int, _ := fun d => fv_b hA w d i
    have b1' : w32 v = vtS F M0 w i := b1
    have e115 : ix (M0 115 i) = (M0 115 i).toNat := ix_e (by omega) (by omega)
    by_cases c1 : M0 166 i = 1
    · repeat (first | with_reducible refine ok_let ?_ | with_reducible refine ok_cs ?_ | with_reducible refine ok_clet ?_ | with_reducible refine ok_cc ?_ | (with_reducible refine ok_chk ?_ ?_; · (first | omega | ((try simp (disch := omega) only [w32_eq, w64_eq, ix_n, ix_e, sto_n, sto_e, sto_r, zf_r, Int.toNat_natCast, true_or, or_true, eq_self, y12, y6]) <;> (first | omega | decide)))) | (with_reducible refine ok_cchk ?_ ?_; · (first | omega | ((try simp (disch := omega) only [w32_eq, w64_eq, ix_n, ix_e, sto_n, sto_e, sto_r, zf_r, Int.toNat_natCast, true_or, or_true, eq_self, y12, y6]) <;> (first | omega | decide)))) | (with_reducible refine ok_t ?_ ?_; · (first | omega | ((try simp (disch := omega) only [w32_eq, w64_eq, ix_n, ix_e, sto_n, sto_e, sto_r, zf_r, Int.toNat_natCast, true_or, or_true, eq_self, y12, y6]) <;> (first | omega | decide)))) | (with_reducible refine ok_f ?_ ?_; · (first | omega | ((try simp (disch := omega) only [w32_eq, w64_eq, ix_n, ix_e, sto_n, sto_e, sto_r, zf_r, Int.toNat_natCast, true_or, or_true, eq_self, y12, y6]) <;> (first | omega | decide)))) | (with_reducible refine ok_ct ?_ ?_; · (first | omega | ((try simp (disch := omega) only [w32_eq, w64_eq, ix_n, ix_e, sto_n, sto_e, sto_r, zf_r, Int.toNat_natCast, true_or, or_true, eq_self, y12, y6]) <;> (first | omega | decide)))) | (with_reducible refine ok_cf ?_ ?_; · (first | omega | ((try simp (disch := omega) only [w32_eq, w64_eq, ix_n, ix_e, sto_n, sto_e, sto_r, zf_r, Int.toNat_natCast, true_or, or_true, eq_self, y12, y6]) <;> (first | omega | decide)))))
      unfold k_Ba_count_138
      repeat (first | with_reducible refine ok_let ?_ | with_reducible refine ok_cs ?_ | with_reducible refine ok_clet ?_ | with_reducible refine ok_cc ?_ | (with_reducible refine ok_chk ?_ ?_; · (first | omega | ((try simp (disch := omega) only [w32_eq, w64_eq, ix_n, ix_e, sto_n, sto_e, sto_r, zf_r, Int.toNat_natCast, true_or, or_true, eq_self]) <;> (first | omega | decide)))) | (with_reducible refine ok_cchk ?_ ?_; · (first | omega | ((try simp (disch := omega) only [w32_eq, w64_eq, ix_n, ix_e, sto_n, sto_e, sto_r, zf_r, Int.toNat_natCast, true_or, or_true, eq_self]) <;> (first | omega | decide)))) | (with_reducible refine ok_t ?_ ?_; · (first | omega | ((try simp (disch := omega) only [w32_eq, w64_eq, ix_n, ix_e, sto_n, sto_e, sto_r, zf_r, Int.toNat_natCast, true_or, or_true, eq_self]) <;> (first | omega | decide)))) | (with_reducible refine ok_f ?_ ?_; · (first | omega | ((try simp (disch := omega) only [w32_eq, w64_eq, ix_n, ix_e, sto_n, sto_e, sto_r, zf_r, Int.toNat_natCast, true_or, or_true, eq_self]) <;> (first | omega | decide)))) | (with_reducible refine ok_ct ?_ ?_; · (first | omega | ((try simp (disch := omega) only [w32_eq, w64_eq, ix_n, ix_e, sto_n, sto_e, sto_r, zf_r, Int.toNat_natCast, true_or, or_true, eq_self]) <;> (first | omega | decide)))) | (with_reducible refine ok_cf ?_ ?_; · (first | omega | ((try simp (disch := omega) only [w32_eq, w64_eq, ix_n, ix_e, sto_n, sto_e, sto_r, zf_r, Int.toNat_natCast, true_or, or_true, eq_self]) <;> (first | omega | decide)))))
      rw [hj]
      simp (disch := decide) only [ei, sto_r, sto_e]
      rw [y6, e115, y104]
      refine ih f (i + 1) _ (by omega) (by omega) (keep _ (Fr.trans (fr_stoA (by decide)) (fr_stoA (by decide)))) (h105' _ (by rw [sto_r (by decide), sto_up, y105])) (fun d hd => ?_)
      rw [sto_up, sto_r (by decide), y104, sF, sG, if_neg (by omega : ¬ (M0 166 i = 0 ∧ M0 115 i = (d : Int)))]
      have hbd := hb d
      have q := h104 d hd
      unfold up
      by_cases c : d = (M0 115 i).toNat
      · rw [if_pos c, if_pos (by omega), ← c, w32_add, q, b1', w32_eq (by omega) (by omega)]; omega
      · rw [if_neg c, if_neg (by omega), q]; omega
    · by_cases c0 : M0 166 i = 0
      · repeat (first | with_reducible refine ok_let ?_ | with_reducible refine ok_cs ?_ | with_reducible refine ok_clet ?_ | with_reducible refine ok_cc ?_ | (with_reducible refine ok_chk ?_ ?_; · (first | omega | ((try simp (disch := omega) only [w32_eq, w64_eq, ix_n, ix_e, sto_n, sto_e, sto_r, zf_r, Int.toNat_natCast, true_or, or_true, eq_self, y12, y6]) <;> (first | omega | decide)))) | (with_reducible refine ok_cchk ?_ ?_; · (first | omega | ((try simp (disch := omega) only [w32_eq, w64_eq, ix_n, ix_e, sto_n, sto_e, sto_r, zf_r, Int.toNat_natCast, true_or, or_true, eq_self, y12, y6]) <;> (first | omega | decide)))) | (with_reducible refine ok_t ?_ ?_; · (first | omega | ((try simp (disch := omega) only [w32_eq, w64_eq, ix_n, ix_e, sto_n, sto_e, sto_r, zf_r, Int.toNat_natCast, true_or, or_true, eq_self, y12, y6]) <;> (first | omega | decide)))) | (with_reducible refine ok_f ?_ ?_; · (first | omega | ((try simp (disch := omega) only [w32_eq, w64_eq, ix_n, ix_e, sto_n, sto_e, sto_r, zf_r, Int.toNat_natCast, true_or, or_true, eq_self, y12, y6]) <;> (first | omega | decide)))) | (with_reducible refine ok_ct ?_ ?_; · (first | omega | ((try simp (disch := omega) only [w32_eq, w64_eq, ix_n, ix_e, sto_n, sto_e, sto_r, zf_r, Int.toNat_natCast, true_or, or_true, eq_self, y12, y6]) <;> (first | omega | decide)))) | (with_reducible refine ok_cf ?_ ?_; · (first | omega | ((try simp (disch := omega) only [w32_eq, w64_eq, ix_n, ix_e, sto_n, sto_e, sto_r, zf_r, Int.toNat_natCast, true_or, or_true, eq_self, y12, y6]) <;> (first | omega | decide)))))
        unfold k_Ba_count_138
        repeat (first | with_reducible refine ok_let ?_ | with_reducible refine ok_cs ?_ | with_reducible refine ok_clet ?_ | with_reducible refine ok_cc ?_ | (with_reducible refine ok_chk ?_ ?_; · (first | omega | ((try simp (disch := omega) only [w32_eq, w64_eq, ix_n, ix_e, sto_n, sto_e, sto_r, zf_r, Int.toNat_natCast, true_or, or_true, eq_self]) <;> (first | omega | decide)))) | (with_reducible refine ok_cchk ?_ ?_; · (first | omega | ((try simp (disch := omega) only [w32_eq, w64_eq, ix_n, ix_e, sto_n, sto_e, sto_r, zf_r, Int.toNat_natCast, true_or, or_true, eq_self]) <;> (first | omega | decide)))) | (with_reducible refine ok_t ?_ ?_; · (first | omega | ((try simp (disch := omega) only [w32_eq, w64_eq, ix_n, ix_e, sto_n, sto_e, sto_r, zf_r, Int.toNat_natCast, true_or, or_true, eq_self]) <;> (first | omega | decide)))) | (with_reducible refine ok_f ?_ ?_; · (first | omega | ((try simp (disch := omega) only [w32_eq, w64_eq, ix_n, ix_e, sto_n, sto_e, sto_r, zf_r, Int.toNat_natCast, true_or, or_true, eq_self]) <;> (first | omega | decide)))) | (with_reducible refine ok_ct ?_ ?_; · (first | omega | ((try simp (disch := omega) only [w32_eq, w64_eq, ix_n, ix_e, sto_n, sto_e, sto_r, zf_r, Int.toNat_natCast, true_or, or_true, eq_self]) <;> (first | omega | decide)))) | (with_reducible refine ok_cf ?_ ?_; · (first | omega | ((try simp (disch := omega) only [w32_eq, w64_eq, ix_n, ix_e, sto_n, sto_e, sto_r, zf_r, Int.toNat_natCast, true_or, or_true, eq_self]) <;> (first | omega | decide)))))
        rw [hj]
        simp (disch := decide) only [ei, sto_r, sto_e]
        rw [y6, e115, y104]
        refine ih f (i + 1) _ (by omega) (by omega) (keep _ (Fr.trans (fr_stoA (by decide)) (fr_stoA (by decide)))) (h105' _ (by rw [sto_r (by decide), sto_up, y105])) (fun d hd => ?_)
        rw [sto_up, sto_r (by decide), y104, sF, sG, if_neg (by omega : ¬ (M0 166 i = 1 ∧ M0 115 i = (d : Int)))]
        have hbd := hb d
        have q := h104 d hd
        unfold up
        by_cases c : d = (M0 115 i).toNat
        · rw [if_pos c, if_pos (by omega), ← c, w32_sub, q, b1', w32_eq (by omega) (by omega)]; omega
        · rw [if_neg c, if_neg (by omega), q]; omega
      · repeat (first | with_reducible refine ok_let ?_ | with_reducible refine ok_cs ?_ | with_reducible refine ok_clet ?_ | with_reducible refine ok_cc ?_ | (with_reducible refine ok_chk ?_ ?_; · (first | omega | ((try simp (disch := omega) only [w32_eq, w64_eq, ix_n, ix_e, sto_n, sto_e, sto_r, zf_r, Int.toNat_natCast, true_or, or_true, eq_self, y12, y6]) <;> (first | omega | decide)))) | (with_reducible refine ok_cchk ?_ ?_; · (first | omega | ((try simp (disch := omega) only [w32_eq, w64_eq, ix_n, ix_e, sto_n, sto_e, sto_r, zf_r, Int.toNat_natCast, true_or, or_true, eq_self, y12, y6]) <;> (first | omega | decide)))) | (with_reducible refine ok_t ?_ ?_; · (first | omega | ((try simp (disch := omega) only [w32_eq, w64_eq, ix_n, ix_e, sto_n, sto_e, sto_r, zf_r, Int.toNat_natCast, true_or, or_true, eq_self, y12, y6]) <;> (first | omega | decide)))) | (with_reducible refine ok_f ?_ ?_; · (first | omega | ((try simp (disch := omega) only [w32_eq, w64_eq, ix_n, ix_e, sto_n, sto_e, sto_r, zf_r, Int.toNat_natCast, true_or, or_true, eq_self, y12, y6]) <;> (first | omega | decide)))) | (with_reducible refine ok_ct ?_ ?_; · (first | omega | ((try simp (disch := omega) only [w32_eq, w64_eq, ix_n, ix_e, sto_n, sto_e, sto_r, zf_r, Int.toNat_natCast, true_or, or_true, eq_self, y12, y6]) <;> (first | omega | decide)))) | (with_reducible refine ok_cf ?_ ?_; · (first | omega | ((try simp (disch := omega) only [w32_eq, w64_eq, ix_n, ix_e, sto_n, sto_e, sto_r, zf_r, Int.toNat_natCast, true_or, or_true, eq_self, y12, y6]) <;> (first | omega | decide)))))
        unfold k_Ba_count_138
        repeat (first | with_reducible refine ok_let ?_ | with_reducible refine ok_cs ?_ | with_reducible refine ok_clet ?_ | with_reducible refine ok_cc ?_ | (with_reducible refine ok_chk ?_ ?_; · (first | omega | ((try simp (disch := omega) only [w32_eq, w64_eq, ix_n, ix_e, sto_n, sto_e, sto_r, zf_r, Int.toNat_natCast, true_or, or_true, eq_self]) <;> (first | omega | decide)))) | (with_reducible refine ok_cchk ?_ ?_; · (first | omega | ((try simp (disch := omega) only [w32_eq, w64_eq, ix_n, ix_e, sto_n, sto_e, sto_r, zf_r, Int.toNat_natCast, true_or, or_true, eq_self]) <;> (first | omega | decide)))) | (with_reducible refine ok_t ?_ ?_; · (first | omega | ((try simp (disch := omega) only [w32_eq, w64_eq, ix_n, ix_e, sto_n, sto_e, sto_r, zf_r, Int.toNat_natCast, true_or, or_true, eq_self]) <;> (first | omega | decide)))) | (with_reducible refine ok_f ?_ ?_; · (first | omega | ((try simp (disch := omega) only [w32_eq, w64_eq, ix_n, ix_e, sto_n, sto_e, sto_r, zf_r, Int.toNat_natCast, true_or, or_true, eq_self]) <;> (first | omega | decide)))) | (with_reducible refine ok_ct ?_ ?_; · (first | omega | ((try simp (disch := omega) only [w32_eq, w64_eq, ix_n, ix_e, sto_n, sto_e, sto_r, zf_r, Int.toNat_natCast, true_or, or_true, eq_self]) <;> (first | omega | decide)))) | (with_reducible refine ok_cf ?_ ?_; · (first | omega | ((try simp (disch := omega) only [w32_eq, w64_eq, ix_n, ix_e, sto_n, sto_e, sto_r, zf_r, Int.toNat_natCast, true_or, or_true, eq_self]) <;> (first | omega | decide)))))
        rw [hj, ei]
        refine ih f (i + 1) _ (by omega) (by omega) (keep _ (fr_stoA (by decide))) (h105' _ (by rw [sto_up, y105])) (fun d hd => ?_)
        rw [sto_r (by decide), y104, sF, sG, if_neg (by omega : ¬ (M0 166 i = 1 ∧ M0 115 i = (d : Int))), if_neg (by omega : ¬ (M0 166 i = 0 ∧ M0 115 i = (d : Int))), h104 d hd]; omega
theorem s_count {F : Nat → Int → (Nat → Int) → Int} {M0 M : Mem} {w : Int} (hA : AskI F M0) (hP : IvP M0) (hw : 0 ≤ w ∧ w ≤ 519) (hF : Fr [] [(0, 0)] M0 M) :
    Ok (d_Ba_count w M) (fun _ M' => ((∀ f : Nat, (f : Int) < M0 111 5 → w32 (M' 105 f) = vtS F M0 w f) ∧ ∀ d : Nat, d < 6 → w32 (M' 104 d) = fvN F M0 w d (M0 111 5).toNat - agN F M0 w d (M0 111 5).toNat) ∧ Fr [34, 35, 36, 37, 38, 104, 105] [(32, 2), (32, 8)] M M') := by
  refine ok_fr ?_ (fun r hr => w_Ba_count hr)
  have hp1 := hP.1
  unfold d_Ba_count
  refine ok_call_eq (s_fill1 (by decide)) ?_
  have hF1 : Fr [104] [(0, 0)] M0 (zf M 104 0 6 0) := Fr.trans (hF.mono (by decide) (by decide)) (fr_zf (by decide))
  refine ok_call_eq (begin_at w hA (hF1.ag (by decide) (by decide)) hw rfl) ?_
  refine ok_call_eq (s_tellWeek hw) ?_
  have hF2 : Fr [34, 104] [(0, 0), (32, 2)] M0 (sto (sto (sto (zf (zf M 104 0 6 0) 34 0 11 0) 32 2 (fcF (M0 147) w (M0 111 56).toNat)) 34 2 w) 34 3 (w / 52)) := Fr.trans (hF1.mono (by decide) (by decide)) (Fr.trans (fr_zf (by decide)) (Fr.trans (fr_stoF (by decide)) (Fr.trans (fr_stoA (by decide)) (fr_stoA (by decide)))))
  refine l_count hA hP hw (M0 111 5).toNat FU 0 _ (by omega) (by unfold FU; omega) ⟨hF2.ag (by decide) (by decide), fun c hc => ?_, by rw [hF2.f 5 0 (by decide) (by decide)], ?_, fun i _ _ _ => ?_⟩ (fun f hf => by omega) (fun d hd => ?_)
  · exact hF2.c c ((by decide : ∀ c ∈ [6, 7, 8, 12], c ∉ [34, 104]) c hc) (fun q hq h => (by decide : ∀ q ∈ [(0, 0), (32, 2)], ∀ c ∈ [6, 7, 8, 12], q.1 ≠ c) q hq c hc h)
  · rw [sto_r (by decide), sto_r (by decide), sto_e]
  · rw [sto_up, sto_up, sto_r (by decide), ev_up (by decide), ev_up (by decide), ev_zf, w64_eq (by omega) (by omega), w64_eq (by omega) (by omega)]; rfl
  · rw [sto_r (by decide), sto_r (by decide), sto_r (by decide), zf_r (by decide), zf_c, if_pos (by omega)]; rfl
/-- for or not -/
def sgn (x : Int) : Int := if x < 0 then -1 else if x = 0 then 0 else 1
def whS (x : Nat → Int) (n : Nat) : Int := sm (fun d => sgn (x d)) n
theorem sgn_b {x : Int} : -1 ≤ sgn x ∧ sgn x ≤ 1 := by unfold sgn; split <;> (try split) <;> omega
theorem whS_b {x : Nat → Int} : ∀ n : Nat, -(n : Int) ≤ whS x n ∧ whS x n ≤ n
  | 0 => by show -((0 : Nat) : Int) ≤ 0 ∧ (0 : Int) ≤ _; omega
  | n + 1 => by
    have h := whS_b (x := x) n
    have h2 := sgn_b (x := x n)
    show -((n + 1 : Nat) : Int) ≤ whS x n + sgn (x n) ∧ whS x n + sgn (x n) ≤ _
    omega
theorem whS_c {x y : Nat → Int} (n : Nat) (h : ∀ d, d < n → x d = y d) : whS x n = whS y n := sm_ext n (fun d hd => by rw [h d hd])
theorem s_whole {M : Mem} {x : Nat → Int} (hx : ∀ d, d < 6 → w32 (M 104 d) = x d) : d_Ba_isWholeFor M = some (if 0 < whS x 6 then 1 else 0, M) := by
  have l : ∀ n fuel i : Nat, i + n = 6 → n < fuel → fix (fun _ _ _ => none) k_Ba_isWholeFor_4 fuel (whS x i) (i : Int) M = some (if 0 < whS x 6 then 1 else 0, M) := by
    intro n; induction n with
    | zero =>
      intro fuel i e hf
      have : i = 6 := by omega
      subst this
      have hb := whS_b (x := x) 6
      obtain ⟨f, rfl⟩ : ∃ f, fuel = f + 1 := ⟨fuel - 1, by omega⟩; rw [fix_s]; unfold k_Ba_isWholeFor_4
      by_cases c : 0 < whS x 6
      · rw [if_pos c]
        repeat (first | with_reducible refine e_let ?_ | with_reducible refine e_cs ?_ | with_reducible refine e_clet ?_ | with_reducible refine e_cc ?_ | (with_reducible refine e_chk ?_ ?_; · (first | omega | ((try simp (disch := omega) only [w32_eq, w64_eq, ix_n, ix_e, sto_n, sto_e, sto_r, zf_r, Int.toNat_natCast, true_or, or_true, eq_self]) <;> (first | omega | decide)))) | (with_reducible refine e_cchk ?_ ?_; · (first | omega | ((try simp (disch := omega) only [w32_eq, w64_eq, ix_n, ix_e, sto_n, sto_e, sto_r, zf_r, Int.toNat_natCast, true_or, or_true, eq_self]) <;> (first | omega | decide)))) | (with_reducible refine e_t ?_ ?_; · (first | omega | ((try simp (disch := omega) only [w32_eq, w64_eq, ix_n, ix_e, sto_n, sto_e, sto_r, zf_r, Int.toNat_natCast, true_or, or_true, eq_self]) <;> (first | omega | decide)))) | (with_reducible refine e_f ?_ ?_; · (first | omega | ((try simp (disch := omega) only [w32_eq, w64_eq, ix_n, ix_e, sto_n, sto_e, sto_r, zf_r, Int.toNat_natCast, true_or, or_true, eq_self]) <;> (first | omega | decide)))) | (with_reducible refine e_ct ?_ ?_; · (first | omega | ((try simp (disch := omega) only [w32_eq, w64_eq, ix_n, ix_e, sto_n, sto_e, sto_r, zf_r, Int.toNat_natCast, true_or, or_true, eq_self]) <;> (first | omega | decide)))) | (with_reducible refine e_cf ?_ ?_; · (first | omega | ((try simp (disch := omega) only [w32_eq, w64_eq, ix_n, ix_e, sto_n, sto_e, sto_r, zf_r, Int.toNat_natCast, true_or, or_true, eq_self]) <;> (first | omega | decide)))))
        rfl
      · rw [if_neg c]
        repeat (first | with_reducible refine e_let ?_ | with_reducible refine e_cs ?_ | with_reducible refine e_clet ?_ | with_reducible refine e_cc ?_ | (with_reducible refine e_chk ?_ ?_; · (first | omega | ((try simp (disch := omega) only [w32_eq, w64_eq, ix_n, ix_e, sto_n, sto_e, sto_r, zf_r, Int.toNat_natCast, true_or, or_true, eq_self]) <;> (first | omega | decide)))) | (with_reducible refine e_cchk ?_ ?_; · (first | omega | ((try simp (disch := omega) only [w32_eq, w64_eq, ix_n, ix_e, sto_n, sto_e, sto_r, zf_r, Int.toNat_natCast, true_or, or_true, eq_self]) <;> (first | omega | decide)))) | (with_reducible refine e_t ?_ ?_; · (first | omega | ((try simp (disch := omega) only [w32_eq, w64_eq, ix_n, ix_e, sto_n, sto_e, sto_r, zf_r, Int.toNat_natCast, true_or, or_true, eq_self]) <;> (first | omega | decide)))) | (with_reducible refine e_f ?_ ?_; · (first | omega | ((try simp (disch := omega) only [w32_eq, w64_eq, ix_n, ix_e, sto_n, sto_e, sto_r, zf_r, Int.toNat_natCast, true_or, or_true, eq_self]) <;> (first | omega | decide)))) | (with_reducible refine e_ct ?_ ?_; · (first | omega | ((try simp (disch := omega) only [w32_eq, w64_eq, ix_n, ix_e, sto_n, sto_e, sto_r, zf_r, Int.toNat_natCast, true_or, or_true, eq_self]) <;> (first | omega | decide)))) | (with_reducible refine e_cf ?_ ?_; · (first | omega | ((try simp (disch := omega) only [w32_eq, w64_eq, ix_n, ix_e, sto_n, sto_e, sto_r, zf_r, Int.toNat_natCast, true_or, or_true, eq_self]) <;> (first | omega | decide)))))
        rfl
    | succ n ih =>
      intro fuel i e hf
      have hj : (i : Int) + 1 = ((i + 1 : Nat) : Int) := by omega
      have ei : ix (i : Int) = i := ix_n (by omega)
      have hxi := hx i (by omega)
      have hs : whS x (i + 1) = whS x i + sgn (x i) := rfl
      have hc : d_In_compare (M 104 i) 0 M = some (sgn (x i), M) := by
        unfold d_In_compare sgn
        rw [hxi, show w32 0 = 0 from rfl]
        by_cases c1 : x i < 0
        · rw [if_pos c1, if_pos c1]
        · rw [if_neg c1, if_neg c1]
          by_cases c2 : x i = 0
          · rw [if_pos c2, if_pos c2]
          · rw [if_neg c2, if_neg c2]
      obtain ⟨f, rfl⟩ : ∃ f, fuel = f + 1 := ⟨fuel - 1, by omega⟩; rw [fix_s]
      have := ih f (i + 1) (by omega) (by omega)
      rw [hs, ← hj] at this
      unfold k_Ba_isWholeFor_4
      repeat (first | with_reducible refine e_let ?_ | with_reducible refine e_cs ?_ | with_reducible refine e_clet ?_ | with_reducible refine e_cc ?_ | (with_reducible refine e_chk ?_ ?_; · (first | omega | ((try simp (disch := omega) only [w32_eq, w64_eq, ix_n, ix_e, sto_n, sto_e, sto_r, zf_r, Int.toNat_natCast, true_or, or_true, eq_self]) <;> (first | omega | decide)))) | (with_reducible refine e_cchk ?_ ?_; · (first | omega | ((try simp (disch := omega) only [w32_eq, w64_eq, ix_n, ix_e, sto_n, sto_e, sto_r, zf_r, Int.toNat_natCast, true_or, or_true, eq_self]) <;> (first | omega | decide)))) | (with_reducible refine e_t ?_ ?_; · (first | omega | ((try simp (disch := omega) only [w32_eq, w64_eq, ix_n, ix_e, sto_n, sto_e, sto_r, zf_r, Int.toNat_natCast, true_or, or_true, eq_self]) <;> (first | omega | decide)))) | (with_reducible refine e_f ?_ ?_; · (first | omega | ((try simp (disch := omega) only [w32_eq, w64_eq, ix_n, ix_e, sto_n, sto_e, sto_r, zf_r, Int.toNat_natCast, true_or, or_true, eq_self]) <;> (first | omega | decide)))) | (with_reducible refine e_ct ?_ ?_; · (first | omega | ((try simp (disch := omega) only [w32_eq, w64_eq, ix_n, ix_e, sto_n, sto_e, sto_r, zf_r, Int.toNat_natCast, true_or, or_true, eq_self]) <;> (first | omega | decide)))) | (with_reducible refine e_cf ?_ ?_; · (first | omega | ((try simp (disch := omega) only [w32_eq, w64_eq, ix_n, ix_e, sto_n, sto_e, sto_r, zf_r, Int.toNat_natCast, true_or, or_true, eq_self]) <;> (first | omega | decide)))))
      rw [ei]
      refine e_call hc ?_
      exact this
  unfold d_Ba_isWholeFor
  exact l 6 FU 0 (by omega) (by unfold FU; omega)
theorem s_isFor {M : Mem} {x : Nat → Int} (hx : ∀ d, d < 6 → x d = w64 (M 175 d) - w64 (M 176 d)) : d_Mo_isFor M = some (if 0 < whS x 6 then 1 else 0, M) := by
  have l : ∀ n fuel i : Nat, i + n = 6 → n < fuel → fix (fun _ _ _ => none) k_Mo_isFor_4 fuel (whS x i) (i : Int) M = some (if 0 < whS x 6 then 1 else 0, M) := by
    intro n; induction n with
    | zero =>
      intro fuel i e hf
      have : i = 6 := by omega
      subst this
      have hb := whS_b (x := x) 6
      obtain ⟨f, rfl⟩ : ∃ f, fuel = f + 1 := ⟨fuel - 1, by omega⟩; rw [fix_s]; unfold k_Mo_isFor_4
      by_cases c : 0 < whS x 6
      · rw [if_pos c]
        repeat (first | with_reducible refine e_let ?_ | with_reducible refine e_cs ?_ | with_reducible refine e_clet ?_ | with_reducible refine e_cc ?_ | (with_reducible refine e_chk ?_ ?_; · (first | omega | ((try simp (disch := omega) only [w32_eq, w64_eq, ix_n, ix_e, sto_n, sto_e, sto_r, zf_r, Int.toNat_natCast, true_or, or_true, eq_self]) <;> (first | omega | decide)))) | (with_reducible refine e_cchk ?_ ?_; · (first | omega | ((try simp (disch := omega) only [w32_eq, w64_eq, ix_n, ix_e, sto_n, sto_e, sto_r, zf_r, Int.toNat_natCast, true_or, or_true, eq_self]) <;> (first | omega | decide)))) | (with_reducible refine e_t ?_ ?_; · (first | omega | ((try simp (disch := omega) only [w32_eq, w64_eq, ix_n, ix_e, sto_n, sto_e, sto_r, zf_r, Int.toNat_natCast, true_or, or_true, eq_self]) <;> (first | omega | decide)))) | (with_reducible refine e_f ?_ ?_; · (first | omega | ((try simp (disch := omega) only [w32_eq, w64_eq, ix_n, ix_e, sto_n, sto_e, sto_r, zf_r, Int.toNat_natCast, true_or, or_true, eq_self]) <;> (first | omega | decide)))) | (with_reducible refine e_ct ?_ ?_; · (first | omega | ((try simp (disch := omega) only [w32_eq, w64_eq, ix_n, ix_e, sto_n, sto_e, sto_r, zf_r, Int.toNat_natCast, true_or, or_true, eq_self]) <;> (first | omega | decide)))) | (with_reducible refine e_cf ?_ ?_; · (first | omega | ((try simp (disch := omega) only [w32_eq, w64_eq, ix_n, ix_e, sto_n, sto_e, sto_r, zf_r, Int.toNat_natCast, true_or, or_true, eq_self]) <;> (first | omega | decide)))))
        rfl
      · rw [if_neg c]
        repeat (first | with_reducible refine e_let ?_ | with_reducible refine e_cs ?_ | with_reducible refine e_clet ?_ | with_reducible refine e_cc ?_ | (with_reducible refine e_chk ?_ ?_; · (first | omega | ((try simp (disch := omega) only [w32_eq, w64_eq, ix_n, ix_e, sto_n, sto_e, sto_r, zf_r, Int.toNat_natCast, true_or, or_true, eq_self]) <;> (first | omega | decide)))) | (with_reducible refine e_cchk ?_ ?_; · (first | omega | ((try simp (disch := omega) only [w32_eq, w64_eq, ix_n, ix_e, sto_n, sto_e, sto_r, zf_r, Int.toNat_natCast, true_or, or_true, eq_self]) <;> (first | omega | decide)))) | (with_reducible refine e_t ?_ ?_; · (first | omega | ((try simp (disch := omega) only [w32_eq, w64_eq, ix_n, ix_e, sto_n, sto_e, sto_r, zf_r, Int.toNat_natCast, true_or, or_true, eq_self]) <;> (first | omega | decide)))) | (with_reducible refine e_f ?_ ?_; · (first | omega | ((try simp (disch := omega) only [w32_eq, w64_eq, ix_n, ix_e, sto_n, sto_e, sto_r, zf_r, Int.toNat_natCast, true_or, or_true, eq_self]) <;> (first | omega | decide)))) | (with_reducible refine e_ct ?_ ?_; · (first | omega | ((try simp (disch := omega) only [w32_eq, w64_eq, ix_n, ix_e, sto_n, sto_e, sto_r, zf_r, Int.toNat_natCast, true_or, or_true, eq_self]) <;> (first | omega | decide)))) | (with_reducible refine e_cf ?_ ?_; · (first | omega | ((try simp (disch := omega) only [w32_eq, w64_eq, ix_n, ix_e, sto_n, sto_e, sto_r, zf_r, Int.toNat_natCast, true_or, or_true, eq_self]) <;> (first | omega | decide)))))
        rfl
    | succ n ih =>
      intro fuel i e hf
      have hj : (i : Int) + 1 = ((i + 1 : Nat) : Int) := by omega
      have ei : ix (i : Int) = i := ix_n (by omega)
      have hxi := hx i (by omega)
      have hs : whS x (i + 1) = whS x i + sgn (x i) := rfl
      obtain ⟨f, rfl⟩ : ∃ f, fuel = f + 1 := ⟨fuel - 1, by omega⟩; rw [fix_s]
      have := ih f (i + 1) (by omega) (by omega)
      rw [hs, ← hj] at this
      unfold sgn at this
      unfold k_Mo_isFor_4 k_Mo_isFor_52
      rw [ei]
      by_cases c1 : w64 (M 176 i) < w64 (M 175 i)
      · rw [if_neg (by omega), if_neg (by omega)] at this
        refine e_t (by rw [w32_eq (by omega) (by omega)]; omega) (e_chk (by rw [w32_eq (by omega) (by omega)]; omega) (e_let (e_chk (by rw [w32_eq (by omega) (by omega)]; omega) (e_let (e_t c1 ?_)))))
        exact this
      · by_cases c2 : w64 (M 175 i) < w64 (M 176 i)
        · rw [if_pos (by omega)] at this
          refine e_t (by rw [w32_eq (by omega) (by omega)]; omega) (e_chk (by rw [w32_eq (by omega) (by omega)]; omega) (e_let (e_chk (by rw [w32_eq (by omega) (by omega)]; omega) (e_let (e_f c1 (e_chk (by rw [w32_eq (by omega) (by omega)]; omega) (e_let (e_chk (by rw [w32_eq (by omega) (by omega)]; omega) (e_let (e_t c2 ?_))))))))))
          exact this
        · rw [if_neg (by omega), if_pos (by omega)] at this
          refine e_t (by rw [w32_eq (by omega) (by omega)]; omega) (e_chk (by rw [w32_eq (by omega) (by omega)]; omega) (e_let (e_chk (by rw [w32_eq (by omega) (by omega)]; omega) (e_let (e_f c1 (e_chk (by rw [w32_eq (by omega) (by omega)]; omega) (e_let (e_chk (by rw [w32_eq (by omega) (by omega)]; omega) (e_let (e_f c2 ?_))))))))))
          exact this
  unfold d_Mo_isFor
  exact l 6 FU 0 (by omega) (by unfold FU; omega)
