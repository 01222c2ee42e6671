/-! wheat sent: the calls agree -/
def SnA (m r : Nat) (hv wn c : Nat → Int) (v : Int) : Prop := ∃ f lf, FI m r hv wn f lf (fun _ => 0) ∧ (∃ pot, Cer m r c f lf pot) ∧ v = csS m r c f
theorem cs_c {m r : Nat} {c c' f : Nat → Int} (h : ∀ k, k < m * r → c k = c' k) : csS m r c f = csS m r c' f := sm_ext m (fun b hb => sm_ext r (fun o ho => by rw [h _ (way_l hb ho)]))
theorem SnA_c {m r : Nat} {hv hv' wn wn' c c' : Nat → Int} {v : Int} (h1 : ∀ b, b < m → hv b = hv' b) (h2 : ∀ o, o < r → wn o = wn' o) (h3 : ∀ k, k < m * r → c k = c' k) (h : SnA m r hv wn c v) : SnA m r hv' wn' c' v := by
  obtain ⟨f, lf, hI, ⟨pot, hC⟩, hv⟩ := h
  refine ⟨f, lf, ⟨hI.1, fun b hb => by rw [← h1 b hb]; exact hI.2.1 b hb, fun o ho => by rw [← h2 o ho]; exact hI.2.2 o ho⟩, ⟨pot, fun b o hb ho => by rw [← h3 _ (way_l hb ho)]; exact hC.1 b o hb ho, hC.2⟩, by rw [hv, cs_c h3]⟩
theorem SnA_u {m r : Nat} {hv wn c : Nat → Int} {v w : Int} (h1 : SnA m r hv wn c v) (h2 : SnA m r hv wn c w) : v = w := by
  obtain ⟨f, lf, hI, ⟨pot, hC⟩, rfl⟩ := h1
  obtain ⟨g, lg, hJ, ⟨pog, hD⟩, rfl⟩ := h2
  have a := flow_opt (fun _ => rfl) hI hC hJ
  have b := flow_opt (fun _ => rfl) hJ hD hI
  omega
theorem l_sd100 {m r t5 : Nat} {B : Mem} (hmr : m ≤ 5 ∧ r ≤ 4) (ht : t5 < 4) {hv wn : Nat → Int} (hvb : ∀ b, b < m → 0 ≤ hv b ∧ hv b ≤ 30) (hwb : ∀ o, o < r → 0 ≤ wn o ∧ wn o ≤ 30) (hcb : ∀ k, k < m * r → 0 ≤ B 4 (40 * t5 + k) ∧ B 4 (40 * t5 + k) ≤ 100) (hs : sm wn r ≤ sm hv m) :
    ∀ (j fuel i : Nat) (M : Mem), i + j = m * r → j < fuel → Fr [67, 68, 69] [] B M → (∀ b, b < m → M 67 b = hv b) → (∀ o, o < r → M 68 o = wn o) → (∀ k, k < i → M 69 k = B 4 (40 * t5 + k)) →
    Ok (fix (fun _ _ _ _ _ => none) k_PP_send_100 fuel (m : Int) (r : Int) (t5 : Int) (i : Int) M) (fun v M' => SnA m r hv wn (fun k => B 4 (40 * t5 + k)) v ∧ M' 0 0 = B 0 0) := by
  have b1 : m * r ≤ 5 * 4 := Nat.mul_le_mul hmr.1 hmr.2
  have em : (m : Int) * (r : Int) = ((m * r : Nat) : Int) := by push_cast; rfl
  intro j; induction j with
  | zero =>
    intro fuel i M e hf hF h1 h2 h3
    have : i = m * r := by omega
    subst this
    obtain ⟨f, rfl⟩ : ∃ f, fuel = f + 1 := ⟨fuel - 1, by omega⟩; rw [fix_s]; unfold k_PP_send_100
    rw [em]
    repeat (first | with_reducible refine ok_let ?_ | with_reducible refine ok_cs ?_ | with_reducible refine ok_clet ?_ | with_reducible refine ok_cc ?_ | (with_reducible refine ok_chk ?_ ?_; · (first | omega | ((try simp (disch := omega) only [w32_eq, w64_eq, ix_n, ix_e, sto_n, sto_e, sto_r, zf_r, Int.toNat_natCast, true_or, or_true, eq_self]) <;> (first | omega | decide)))) | (with_reducible refine ok_cchk ?_ ?_; · (first | omega | ((try simp (disch := omega) only [w32_eq, w64_eq, ix_n, ix_e, sto_n, sto_e, sto_r, zf_r, Int.toNat_natCast, true_or, or_true, eq_self]) <;> (first | omega | decide)))) | (with_reducible refine ok_t ?_ ?_; · (first | omega | ((try simp (disch := omega) only [w32_eq, w64_eq, ix_n, ix_e, sto_n, sto_e, sto_r, zf_r, Int.toNat_natCast, true_or, or_true, eq_self]) <;> (first | omega | decide)))) | (with_reducible refine ok_f ?_ ?_; · (first | omega | ((try simp (disch := omega) only [w32_eq, w64_eq, ix_n, ix_e, sto_n, sto_e, sto_r, zf_r, Int.toNat_natCast, true_or, or_true, eq_self]) <;> (first | omega | decide)))) | (with_reducible refine ok_ct ?_ ?_; · (first | omega | ((try simp (disch := omega) only [w32_eq, w64_eq, ix_n, ix_e, sto_n, sto_e, sto_r, zf_r, Int.toNat_natCast, true_or, or_true, eq_self]) <;> (first | omega | decide)))) | (with_reducible refine ok_cf ?_ ?_; · (first | omega | ((try simp (disch := omega) only [w32_eq, w64_eq, ix_n, ix_e, sto_n, sto_e, sto_r, zf_r, Int.toNat_natCast, true_or, or_true, eq_self]) <;> (first | omega | decide)))))
    refine ok_call (s_leastCost (m := m) (r := r) (M := M) hmr (fun k hk => by rw [h3 k hk]; exact hcb k hk) (fun b hb => by rw [h1 b hb]; exact hvb b hb) (fun o ho => by rw [h2 o ho]; exact hwb o ho) (by rw [sm_ext r h2, sm_ext m h1]; exact hs)) (fun v M' h => ok_ret ⟨SnA_c h1 h2 h3 h.1, ?_⟩)
    rw [h.2.f 0 0 (by decide) (by decide), hF.f 0 0 (by decide) (by decide)]
  | succ j ih =>
    intro fuel i M e hf hF h1 h2 h3
    have hj : (i : Int) + 1 = ((i + 1 : Nat) : Int) := by omega
    have u4 := hF.c 4 (by decide) (by decide)
    obtain ⟨f, rfl⟩ : ∃ f, fuel = f + 1 := ⟨fuel - 1, by omega⟩; rw [fix_s]; unfold k_PP_send_100
    rw [em]
    repeat (first | with_reducible refine ok_let ?_ | with_reducible refine ok_cs ?_ | with_reducible refine ok_clet ?_ | with_reducible refine ok_cc ?_ | (with_reducible refine ok_chk ?_ ?_; · (first | omega | ((try simp (disch := omega) only [w32_eq, w64_eq, ix_n, ix_e, sto_n, sto_e, sto_r, zf_r, Int.toNat_natCast, true_or, or_true, eq_self]) <;> (first | omega | decide)))) | (with_reducible refine ok_cchk ?_ ?_; · (first | omega | ((try simp (disch := omega) only [w32_eq, w64_eq, ix_n, ix_e, sto_n, sto_e, sto_r, zf_r, Int.toNat_natCast, true_or, or_true, eq_self]) <;> (first | omega | decide)))) | (with_reducible refine ok_t ?_ ?_; · (first | omega | ((try simp (disch := omega) only [w32_eq, w64_eq, ix_n, ix_e, sto_n, sto_e, sto_r, zf_r, Int.toNat_natCast, true_or, or_true, eq_self]) <;> (first | omega | decide)))) | (with_reducible refine ok_f ?_ ?_; · (first | omega | ((try simp (disch := omega) only [w32_eq, w64_eq, ix_n, ix_e, sto_n, sto_e, sto_r, zf_r, Int.toNat_natCast, true_or, or_true, eq_self]) <;> (first | omega | decide)))) | (with_reducible refine ok_ct ?_ ?_; · (first | omega | ((try simp (disch := omega) only [w32_eq, w64_eq, ix_n, ix_e, sto_n, sto_e, sto_r, zf_r, Int.toNat_natCast, true_or, or_true, eq_self]) <;> (first | omega | decide)))) | (with_reducible refine ok_cf ?_ ?_; · (first | omega | ((try simp (disch := omega) only [w32_eq, w64_eq, ix_n, ix_e, sto_n, sto_e, sto_r, zf_r, Int.toNat_natCast, true_or, or_true, eq_self]) <;> (first | omega | decide)))))
    refine ok_call_eq (s_get ht (by omega)) ?_
    repeat (first | with_reducible refine ok_let ?_ | with_reducible refine ok_cs ?_ | with_reducible refine ok_clet ?_ | with_reducible refine ok_cc ?_ | (with_reducible refine ok_chk ?_ ?_; · (first | omega | ((try simp (disch := omega) only [w32_eq, w64_eq, ix_n, ix_e, sto_n, sto_e, sto_r, zf_r, Int.toNat_natCast, true_or, or_true, eq_self]) <;> (first | omega | decide)))) | (with_reducible refine ok_cchk ?_ ?_; · (first | omega | ((try simp (disch := omega) only [w32_eq, w64_eq, ix_n, ix_e, sto_n, sto_e, sto_r, zf_r, Int.toNat_natCast, true_or, or_true, eq_self]) <;> (first | omega | decide)))) | (with_reducible refine ok_t ?_ ?_; · (first | omega | ((try simp (disch := omega) only [w32_eq, w64_eq, ix_n, ix_e, sto_n, sto_e, sto_r, zf_r, Int.toNat_natCast, true_or, or_true, eq_self]) <;> (first | omega | decide)))) | (with_reducible refine ok_f ?_ ?_; · (first | omega | ((try simp (disch := omega) only [w32_eq, w64_eq, ix_n, ix_e, sto_n, sto_e, sto_r, zf_r, Int.toNat_natCast, true_or, or_true, eq_self]) <;> (first | omega | decide)))) | (with_reducible refine ok_ct ?_ ?_; · (first | omega | ((try simp (disch := omega) only [w32_eq, w64_eq, ix_n, ix_e, sto_n, sto_e, sto_r, zf_r, Int.toNat_natCast, true_or, or_true, eq_self]) <;> (first | omega | decide)))) | (with_reducible refine ok_cf ?_ ?_; · (first | omega | ((try simp (disch := omega) only [w32_eq, w64_eq, ix_n, ix_e, sto_n, sto_e, sto_r, zf_r, Int.toNat_natCast, true_or, or_true, eq_self]) <;> (first | omega | decide)))))
    rw [hj, ix_n (by omega), u4]
    refine ih f (i + 1) _ (by omega) (by omega) (hF.trans (fr_stoA (by decide))) (by rw [sto_r (by decide)]; exact h1) (by rw [sto_r (by decide)]; exact h2) (fun k hk => ?_)
    rw [sto_up]
    unfold up
    by_cases c : k = i
    · rw [if_pos c, c]
    · rw [if_neg c]; exact h3 k (by omega)
theorem l_sd63 {m r t3 t5 : Nat} {B : Mem} (hmr : m ≤ 5 ∧ r ≤ 4) (ht3 : t3 < 4) (ht : t5 < 4) {hv : Nat → Int} (hvb : ∀ b, b < m → 0 ≤ hv b ∧ hv b ≤ 30) (hwb : ∀ o, o < r → 0 ≤ B 4 (40 * t3 + o) ∧ B 4 (40 * t3 + o) ≤ 30) (hcb : ∀ k, k < m * r → 0 ≤ B 4 (40 * t5 + k) ∧ B 4 (40 * t5 + k) ≤ 100) (hs : sm (fun o => B 4 (40 * t3 + o)) r ≤ sm hv m) :
    ∀ (j fuel i : Nat) (M : Mem), i + j = r → j < fuel → Fr [67, 68, 69] [] B M → (∀ b, b < m → M 67 b = hv b) → (∀ o, o < i → M 68 o = B 4 (40 * t3 + o)) →
    Ok (fix (fun _ _ _ _ _ _ => none) k_PP_send_63 fuel (m : Int) (t3 : Int) (r : Int) (t5 : Int) (i : Int) M) (fun v M' => SnA m r hv (fun o => B 4 (40 * t3 + o)) (fun k => B 4 (40 * t5 + k)) v ∧ M' 0 0 = B 0 0) := by
  have b1 : m * r ≤ 5 * 4 := Nat.mul_le_mul hmr.1 hmr.2
  intro j; induction j with
  | zero =>
    intro fuel i M e hf hF h1 h2
    have : i = r := by omega
    subst this
    obtain ⟨f, rfl⟩ : ∃ f, fuel = f + 1 := ⟨fuel - 1, by omega⟩; rw [fix_s]; unfold k_PP_send_63
    repeat (first | with_reducible refine ok_let ?_ | with_reducible refine ok_cs ?_ | with_reducible refine ok_clet ?_ | with_reducible refine ok_cc ?_ | (with_reducible refine ok_chk ?_ ?_; · (first | omega | ((try simp (disch := omega) only [w32_eq, w64_eq, ix_n, ix_e, sto_n, sto_e, sto_r, zf_r, Int.toNat_natCast, true_or, or_true, eq_self]) <;> (first | omega | decide)))) | (with_reducible refine ok_cchk ?_ ?_; · (first | omega | ((try simp (disch := omega) only [w32_eq, w64_eq, ix_n, ix_e, sto_n, sto_e, sto_r, zf_r, Int.toNat_natCast, true_or, or_true, eq_self]) <;> (first | omega | decide)))) | (with_reducible refine ok_t ?_ ?_; · (first | omega | ((try simp (disch := omega) only [w32_eq, w64_eq, ix_n, ix_e, sto_n, sto_e, sto_r, zf_r, Int.toNat_natCast, true_or, or_true, eq_self]) <;> (first | omega | decide)))) | (with_reducible refine ok_f ?_ ?_; · (first | omega | ((try simp (disch := omega) only [w32_eq, w64_eq, ix_n, ix_e, sto_n, sto_e, sto_r, zf_r, Int.toNat_natCast, true_or, or_true, eq_self]) <;> (first | omega | decide)))) | (with_reducible refine ok_ct ?_ ?_; · (first | omega | ((try simp (disch := omega) only [w32_eq, w64_eq, ix_n, ix_e, sto_n, sto_e, sto_r, zf_r, Int.toNat_natCast, true_or, or_true, eq_self]) <;> (first | omega | decide)))) | (with_reducible refine ok_cf ?_ ?_; · (first | omega | ((try simp (disch := omega) only [w32_eq, w64_eq, ix_n, ix_e, sto_n, sto_e, sto_r, zf_r, Int.toNat_natCast, true_or, or_true, eq_self]) <;> (first | omega | decide)))))
    exact l_sd100 hmr ht hvb hwb hcb hs (m * i) FU 0 M (by omega) (by unfold FU; omega) hF h1 h2 (fun k hk => by omega)
  | succ j ih =>
    intro fuel i M e hf hF h1 h2
    have hj : (i : Int) + 1 = ((i + 1 : Nat) : Int) := by omega
    have u4 := hF.c 4 (by decide) (by decide)
    obtain ⟨f, rfl⟩ : ∃ f, fuel = f + 1 := ⟨fuel - 1, by omega⟩; rw [fix_s]; unfold k_PP_send_63
    repeat (first | with_reducible refine ok_let ?_ | with_reducible refine ok_cs ?_ | with_reducible refine ok_clet ?_ | with_reducible refine ok_cc ?_ | (with_reducible refine ok_chk ?_ ?_; · (first | omega | ((try simp (disch := omega) only [w32_eq, w64_eq, ix_n, ix_e, sto_n, sto_e, sto_r, zf_r, Int.toNat_natCast, true_or, or_true, eq_self]) <;> (first | omega | decide)))) | (with_reducible refine ok_cchk ?_ ?_; · (first | omega | ((try simp (disch := omega) only [w32_eq, w64_eq, ix_n, ix_e, sto_n, sto_e, sto_r, zf_r, Int.toNat_natCast, true_or, or_true, eq_self]) <;> (first | omega | decide)))) | (with_reducible refine ok_t ?_ ?_; · (first | omega | ((try simp (disch := omega) only [w32_eq, w64_eq, ix_n, ix_e, sto_n, sto_e, sto_r, zf_r, Int.toNat_natCast, true_or, or_true, eq_self]) <;> (first | omega | decide)))) | (with_reducible refine ok_f ?_ ?_; · (first | omega | ((try simp (disch := omega) only [w32_eq, w64_eq, ix_n, ix_e, sto_n, sto_e, sto_r, zf_r, Int.toNat_natCast, true_or, or_true, eq_self]) <;> (first | omega | decide)))) | (with_reducible refine ok_ct ?_ ?_; · (first | omega | ((try simp (disch := omega) only [w32_eq, w64_eq, ix_n, ix_e, sto_n, sto_e, sto_r, zf_r, Int.toNat_natCast, true_or, or_true, eq_self]) <;> (first | omega | decide)))) | (with_reducible refine ok_cf ?_ ?_; · (first | omega | ((try simp (disch := omega) only [w32_eq, w64_eq, ix_n, ix_e, sto_n, sto_e, sto_r, zf_r, Int.toNat_natCast, true_or, or_true, eq_self]) <;> (first | omega | decide)))))
    refine ok_call_eq (s_get ht3 (by omega)) ?_
    repeat (first | with_reducible refine ok_let ?_ | with_reducible refine ok_cs ?_ | with_reducible refine ok_clet ?_ | with_reducible refine ok_cc ?_ | (with_reducible refine ok_chk ?_ ?_; · (first | omega | ((try simp (disch := omega) only [w32_eq, w64_eq, ix_n, ix_e, sto_n, sto_e, sto_r, zf_r, Int.toNat_natCast, true_or, or_true, eq_self]) <;> (first | omega | decide)))) | (with_reducible refine ok_cchk ?_ ?_; · (first | omega | ((try simp (disch := omega) only [w32_eq, w64_eq, ix_n, ix_e, sto_n, sto_e, sto_r, zf_r, Int.toNat_natCast, true_or, or_true, eq_self]) <;> (first | omega | decide)))) | (with_reducible refine ok_t ?_ ?_; · (first | omega | ((try simp (disch := omega) only [w32_eq, w64_eq, ix_n, ix_e, sto_n, sto_e, sto_r, zf_r, Int.toNat_natCast, true_or, or_true, eq_self]) <;> (first | omega | decide)))) | (with_reducible refine ok_f ?_ ?_; · (first | omega | ((try simp (disch := omega) only [w32_eq, w64_eq, ix_n, ix_e, sto_n, sto_e, sto_r, zf_r, Int.toNat_natCast, true_or, or_true, eq_self]) <;> (first | omega | decide)))) | (with_reducible refine ok_ct ?_ ?_; · (first | omega | ((try simp (disch := omega) only [w32_eq, w64_eq, ix_n, ix_e, sto_n, sto_e, sto_r, zf_r, Int.toNat_natCast, true_or, or_true, eq_self]) <;> (first | omega | decide)))) | (with_reducible refine ok_cf ?_ ?_; · (first | omega | ((try simp (disch := omega) only [w32_eq, w64_eq, ix_n, ix_e, sto_n, sto_e, sto_r, zf_r, Int.toNat_natCast, true_or, or_true, eq_self]) <;> (first | omega | decide)))))
    rw [hj, ix_n (by omega), u4]
    refine ih f (i + 1) _ (by omega) (by omega) (hF.trans (fr_stoA (by decide))) (by rw [sto_r (by decide)]; exact h1) (fun k hk => ?_)
    rw [sto_up]
    unfold up
    by_cases c : k = i
    · rw [if_pos c, c]
    · rw [if_neg c]; exact h2 k (by omega)
theorem l_sd27 {m r t1 t3 t5 : Nat} {B : Mem} (hmr : m ≤ 5 ∧ r ≤ 4) (ht1 : t1 < 4) (ht3 : t3 < 4) (ht : t5 < 4) (hvb : ∀ b, b < m → 0 ≤ B 4 (40 * t1 + b) ∧ B 4 (40 * t1 + b) ≤ 30) (hwb : ∀ o, o < r → 0 ≤ B 4 (40 * t3 + o) ∧ B 4 (40 * t3 + o) ≤ 30) (hcb : ∀ k, k < m * r → 0 ≤ B 4 (40 * t5 + k) ∧ B 4 (40 * t5 + k) ≤ 100) (hs : sm (fun o => B 4 (40 * t3 + o)) r ≤ sm (fun b => B 4 (40 * t1 + b)) m) :
    ∀ (j fuel i : Nat) (M : Mem), i + j = m → j < fuel → Fr [67, 68, 69] [] B M → (∀ b, b < i → M 67 b = B 4 (40 * t1 + b)) →
    Ok (fix (fun _ _ _ _ _ _ _ => none) k_PP_send_27 fuel (t1 : Int) (m : Int) (t3 : Int) (r : Int) (t5 : Int) (i : Int) M) (fun v M' => SnA m r (fun b => B 4 (40 * t1 + b)) (fun o => B 4 (40 * t3 + o)) (fun k => B 4 (40 * t5 + k)) v ∧ M' 0 0 = B 0 0) := by
  intro j; induction j with
  | zero =>
    intro fuel i M e hf hF h1
    have : i = m := by omega
    subst this
    obtain ⟨f, rfl⟩ : ∃ f, fuel = f + 1 := ⟨fuel - 1, by omega⟩; rw [fix_s]; unfold k_PP_send_27
    repeat (first | with_reducible refine ok_let ?_ | with_reducible refine ok_cs ?_ | with_reducible refine ok_clet ?_ | with_reducible refine ok_cc ?_ | (with_reducible refine ok_chk ?_ ?_; · (first | omega | ((try simp (disch := omega) only [w32_eq, w64_eq, ix_n, ix_e, sto_n, sto_e, sto_r, zf_r, Int.toNat_natCast, true_or, or_true, eq_self]) <;> (first | omega | decide)))) | (with_reducible refine ok_cchk ?_ ?_; · (first | omega | ((try simp (disch := omega) only [w32_eq, w64_eq, ix_n, ix_e, sto_n, sto_e, sto_r, zf_r, Int.toNat_natCast, true_or, or_true, eq_self]) <;> (first | omega | decide)))) | (with_reducible refine ok_t ?_ ?_; · (first | omega | ((try simp (disch := omega) only [w32_eq, w64_eq, ix_n, ix_e, sto_n, sto_e, sto_r, zf_r, Int.toNat_natCast, true_or, or_true, eq_self]) <;> (first | omega | decide)))) | (with_reducible refine ok_f ?_ ?_; · (first | omega | ((try simp (disch := omega) only [w32_eq, w64_eq, ix_n, ix_e, sto_n, sto_e, sto_r, zf_r, Int.toNat_natCast, true_or, or_true, eq_self]) <;> (first | omega | decide)))) | (with_reducible refine ok_ct ?_ ?_; · (first | omega | ((try simp (disch := omega) only [w32_eq, w64_eq, ix_n, ix_e, sto_n, sto_e, sto_r, zf_r, Int.toNat_natCast, true_or, or_true, eq_self]) <;> (first | omega | decide)))) | (with_reducible refine ok_cf ?_ ?_; · (first | omega | ((try simp (disch := omega) only [w32_eq, w64_eq, ix_n, ix_e, sto_n, sto_e, sto_r, zf_r, Int.toNat_natCast, true_or, or_true, eq_self]) <;> (first | omega | decide)))))
    exact l_sd63 hmr ht3 ht hvb hwb hcb hs r FU 0 M (by omega) (by unfold FU; omega) hF h1 (fun k hk => by omega)
  | succ j ih =>
    intro fuel i M e hf hF h1
    have hj : (i : Int) + 1 = ((i + 1 : Nat) : Int) := by omega
    have u4 := hF.c 4 (by decide) (by decide)
    obtain ⟨f, rfl⟩ : ∃ f, fuel = f + 1 := ⟨fuel - 1, by omega⟩; rw [fix_s]; unfold k_PP_send_27
    repeat (first | with_reducible refine ok_let ?_ | with_reducible refine ok_cs ?_ | with_reducible refine ok_clet ?_ | with_reducible refine ok_cc ?_ | (with_reducible refine ok_chk ?_ ?_; · (first | omega | ((try simp (disch := omega) only [w32_eq, w64_eq, ix_n, ix_e, sto_n, sto_e, sto_r, zf_r, Int.toNat_natCast, true_or, or_true, eq_self]) <;> (first | omega | decide)))) | (with_reducible refine ok_cchk ?_ ?_; · (first | omega | ((try simp (disch := omega) only [w32_eq, w64_eq, ix_n, ix_e, sto_n, sto_e, sto_r, zf_r, Int.toNat_natCast, true_or, or_true, eq_self]) <;> (first | omega | decide)))) | (with_reducible refine ok_t ?_ ?_; · (first | omega | ((try simp (disch := omega) only [w32_eq, w64_eq, ix_n, ix_e, sto_n, sto_e, sto_r, zf_r, Int.toNat_natCast, true_or, or_true, eq_self]) <;> (first | omega | decide)))) | (with_reducible refine ok_f ?_ ?_; · (first | omega | ((try simp (disch := omega) only [w32_eq, w64_eq, ix_n, ix_e, sto_n, sto_e, sto_r, zf_r, Int.toNat_natCast, true_or, or_true, eq_self]) <;> (first | omega | decide)))) | (with_reducible refine ok_ct ?_ ?_; · (first | omega | ((try simp (disch := omega) only [w32_eq, w64_eq, ix_n, ix_e, sto_n, sto_e, sto_r, zf_r, Int.toNat_natCast, true_or, or_true, eq_self]) <;> (first | omega | decide)))) | (with_reducible refine ok_cf ?_ ?_; · (first | omega | ((try simp (disch := omega) only [w32_eq, w64_eq, ix_n, ix_e, sto_n, sto_e, sto_r, zf_r, Int.toNat_natCast, true_or, or_true, eq_self]) <;> (first | omega | decide)))))
    refine ok_call_eq (s_get ht1 (by omega)) ?_
    repeat (first | with_reducible refine ok_let ?_ | with_reducible refine ok_cs ?_ | with_reducible refine ok_clet ?_ | with_reducible refine ok_cc ?_ | (with_reducible refine ok_chk ?_ ?_; · (first | omega | ((try simp (disch := omega) only [w32_eq, w64_eq, ix_n, ix_e, sto_n, sto_e, sto_r, zf_r, Int.toNat_natCast, true_or, or_true, eq_self]) <;> (first | omega | decide)))) | (with_reducible refine ok_cchk ?_ ?_; · (first | omega | ((try simp (disch := omega) only [w32_eq, w64_eq, ix_n, ix_e, sto_n, sto_e, sto_r, zf_r, Int.toNat_natCast, true_or, or_true, eq_self]) <;> (first | omega | decide)))) | (with_reducible refine ok_t ?_ ?_; · (first | omega | ((try simp (disch := omega) only [w32_eq, w64_eq, ix_n, ix_e, sto_n, sto_e, sto_r, zf_r, Int.toNat_natCast, true_or, or_true, eq_self]) <;> (first | omega | decide)))) | (with_reducible refine ok_f ?_ ?_; · (first | omega | ((try simp (disch := omega) only [w32_eq, w64_eq, ix_n, ix_e, sto_n, sto_e, sto_r, zf_r, Int.toNat_natCast, true_or, or_true, eq_self]) <;> (first | omega | decide)))) | (with_reducible refine ok_ct ?_ ?_; · (first | omega | ((try simp (disch := omega) only [w32_eq, w64_eq, ix_n, ix_e, sto_n, sto_e, sto_r, zf_r, Int.toNat_natCast, true_or, or_true, eq_self]) <;> (first | omega | decide)))) | (with_reducible refine ok_cf ?_ ?_; · (first | omega | ((try simp (disch := omega) only [w32_eq, w64_eq, ix_n, ix_e, sto_n, sto_e, sto_r, zf_r, Int.toNat_natCast, true_or, or_true, eq_self]) <;> (first | omega | decide)))))
    rw [hj, ix_n (by omega), u4]
    refine ih f (i + 1) _ (by omega) (by omega) (hF.trans (fr_stoA (by decide))) (fun k hk => ?_)
    rw [sto_up]
    unfold up
    by_cases c : k = i
    · rw [if_pos c, c]
    · rw [if_neg c]; exact h1 k (by omega)
theorem l_sr108 {m r t5 n : Nat} {B : Mem} (hmr : m ≤ 5 ∧ r ≤ 4) (hr0 : 0 < r) (ht : t5 < 4) {hv wn : Nat → Int} (hvb : ∀ b, b < m → 0 ≤ hv b ∧ hv b ≤ 30) (hwb : ∀ o, o < r → 0 ≤ wn o ∧ wn o ≤ 30) (hcb : ∀ k, k < m * r → 0 ≤ B 114 (40 * t5 + k) ∧ B 114 (40 * t5 + k) ≤ 100) (hs : sm wn r ≤ sm hv m) (hn : sm wn r = (n : Int)) :
    ∀ (j fuel i : Nat) (M : Mem), i + j = m * r → j < fuel → Fr [182, 183, 184, 185] [] B M → (∀ b, b < m → M 182 b = hv b) → (∀ o, o < r → M 183 o = wn o) → (∀ k, k < i → M 184 k = B 114 (40 * t5 + k) ∧ M 185 k = 0) →
    Ok (fix (fun _ _ _ _ _ _ => none) k_Mo_send_108 fuel (m : Int) (r : Int) (t5 : Int) (n : Int) (i : Int) M) (fun v M' => SnA m r hv wn (fun k => B 114 (40 * t5 + k)) v ∧ M' 0 0 = B 0 0 ∧ M' 111 0 = B 111 0) := by
  have b1 : m * r ≤ 5 * 4 := Nat.mul_le_mul hmr.1 hmr.2
  have em : (m : Int) * (r : Int) = ((m * r : Nat) : Int) := by push_cast; rfl
  have hn' : n ≤ 120 := by
    have := sm_b (w := wn) (c := 30) r (fun o ho => (hwb o ho).2)
    omega
  intro j; induction j with
  | zero =>
    intro fuel i M e hf hF h1 h2 h3
    have : i = m * r := by omega
    subst this
    obtain ⟨f, rfl⟩ : ∃ f, fuel = f + 1 := ⟨fuel - 1, by omega⟩; rw [fix_s]; unfold k_Mo_send_108
    rw [em]
    repeat (first | with_reducible refine ok_let ?_ | with_reducible refine ok_cs ?_ | with_reducible refine ok_clet ?_ | with_reducible refine ok_cc ?_ | (with_reducible refine ok_chk ?_ ?_; · (first | omega | ((try simp (disch := omega) only [w32_eq, w64_eq, ix_n, ix_e, sto_n, sto_e, sto_r, zf_r, Int.toNat_natCast, true_or, or_true, eq_self]) <;> (first | omega | decide)))) | (with_reducible refine ok_cchk ?_ ?_; · (first | omega | ((try simp (disch := omega) only [w32_eq, w64_eq, ix_n, ix_e, sto_n, sto_e, sto_r, zf_r, Int.toNat_natCast, true_or, or_true, eq_self]) <;> (first | omega | decide)))) | (with_reducible refine ok_t ?_ ?_; · (first | omega | ((try simp (disch := omega) only [w32_eq, w64_eq, ix_n, ix_e, sto_n, sto_e, sto_r, zf_r, Int.toNat_natCast, true_or, or_true, eq_self]) <;> (first | omega | decide)))) | (with_reducible refine ok_f ?_ ?_; · (first | omega | ((try simp (disch := omega) only [w32_eq, w64_eq, ix_n, ix_e, sto_n, sto_e, sto_r, zf_r, Int.toNat_natCast, true_or, or_true, eq_self]) <;> (first | omega | decide)))) | (with_reducible refine ok_ct ?_ ?_; · (first | omega | ((try simp (disch := omega) only [w32_eq, w64_eq, ix_n, ix_e, sto_n, sto_e, sto_r, zf_r, Int.toNat_natCast, true_or, or_true, eq_self]) <;> (first | omega | decide)))) | (with_reducible refine ok_cf ?_ ?_; · (first | omega | ((try simp (disch := omega) only [w32_eq, w64_eq, ix_n, ix_e, sto_n, sto_e, sto_r, zf_r, Int.toNat_natCast, true_or, or_true, eq_self]) <;> (first | omega | decide)))))
    have e0 : csS m r (M 184) (M 185) = 0 := sm_0 m (fun b hb => sm_0 r (fun o ho => by rw [(h3 _ (way_l hb ho)).2, Int.mul_zero]))
    have q := l_sn153 (B := M) (hv := hv) (wn := wn) hmr hr0 (fun k hk => by rw [(h3 k hk).1]; exact hcb k hk) (fun b hb => (hvb b hb).2) (fun o ho => (hwb o ho).2) hs hn' n FU 0 M (by omega) (by unfold FU; omega) Fr.rfl' ⟨fun b o hb ho => by rw [(h3 _ (way_l hb ho)).2]; exact Int.le_refl _, fun b hb => ?_, fun o ho => ?_⟩ ⟨fun _ => 0, fun b o hb ho => ?_, fun _ _ _ => rfl, fun _ _ => ⟨Int.le_refl _, show (0 : Int) ≤ 36000 by decide⟩⟩ (by rw [sm_ext r h2, hn])
    · rw [e0] at q
      refine ok_mono q (fun v M' h => ⟨SnA_c (fun _ _ => rfl) (fun _ _ => rfl) (fun k hk => (h3 k hk).1) h.1, ?_, ?_⟩)
      · rw [h.2.1, hF.f 0 0 (by decide) (by decide)]
      · rw [h.2.2, hF.f 111 0 (by decide) (by decide)]
    · rw [h1 b hb]
      refine ⟨(hvb b hb).1, ?_⟩
      unfold rwS
      rw [sm_0 r (fun o ho => (h3 _ (way_l hb ho)).2)]; omega
    · rw [h2 o ho]
      refine ⟨(hwb o ho).1, ?_⟩
      unfold clS
      rw [sm_0 m (fun b hb => (h3 _ (way_l hb ho)).2)]; omega
    · rw [(h3 _ (way_l hb ho)).1, (h3 _ (way_l hb ho)).2]
      have := hcb _ (way_l hb ho)
      exact ⟨by show (0 : Int) ≤ 0 + _; omega, fun h => absurd h (by decide)⟩
  | succ j ih =>
    intro fuel i M e hf hF h1 h2 h3
    have hj : (i : Int) + 1 = ((i + 1 : Nat) : Int) := by omega
    have u4 := hF.c 114 (by decide) (by decide)
    obtain ⟨f, rfl⟩ : ∃ f, fuel = f + 1 := ⟨fuel - 1, by omega⟩; rw [fix_s]; unfold k_Mo_send_108
    rw [em]
    repeat (first | with_reducible refine ok_let ?_ | with_reducible refine ok_cs ?_ | with_reducible refine ok_clet ?_ | with_reducible refine ok_cc ?_ | (with_reducible refine ok_chk ?_ ?_; · (first | omega | ((try simp (disch := omega) only [w32_eq, w64_eq, ix_n, ix_e, sto_n, sto_e, sto_r, zf_r, Int.toNat_natCast, true_or, or_true, eq_self]) <;> (first | omega | decide)))) | (with_reducible refine ok_cchk ?_ ?_; · (first | omega | ((try simp (disch := omega) only [w32_eq, w64_eq, ix_n, ix_e, sto_n, sto_e, sto_r, zf_r, Int.toNat_natCast, true_or, or_true, eq_self]) <;> (first | omega | decide)))) | (with_reducible refine ok_t ?_ ?_; · (first | omega | ((try simp (disch := omega) only [w32_eq, w64_eq, ix_n, ix_e, sto_n, sto_e, sto_r, zf_r, Int.toNat_natCast, true_or, or_true, eq_self]) <;> (first | omega | decide)))) | (with_reducible refine ok_f ?_ ?_; · (first | omega | ((try simp (disch := omega) only [w32_eq, w64_eq, ix_n, ix_e, sto_n, sto_e, sto_r, zf_r, Int.toNat_natCast, true_or, or_true, eq_self]) <;> (first | omega | decide)))) | (with_reducible refine ok_ct ?_ ?_; · (first | omega | ((try simp (disch := omega) only [w32_eq, w64_eq, ix_n, ix_e, sto_n, sto_e, sto_r, zf_r, Int.toNat_natCast, true_or, or_true, eq_self]) <;> (first | omega | decide)))) | (with_reducible refine ok_cf ?_ ?_; · (first | omega | ((try simp (disch := omega) only [w32_eq, w64_eq, ix_n, ix_e, sto_n, sto_e, sto_r, zf_r, Int.toNat_natCast, true_or, or_true, eq_self]) <;> (first | omega | decide)))))
    refine ok_call_eq (s_number ht (by omega)) ?_
    repeat (first | with_reducible refine ok_let ?_ | with_reducible refine ok_cs ?_ | with_reducible refine ok_clet ?_ | with_reducible refine ok_cc ?_ | (with_reducible refine ok_chk ?_ ?_; · (first | omega | ((try simp (disch := omega) only [w32_eq, w64_eq, ix_n, ix_e, sto_n, sto_e, sto_r, zf_r, Int.toNat_natCast, true_or, or_true, eq_self]) <;> (first | omega | decide)))) | (with_reducible refine ok_cchk ?_ ?_; · (first | omega | ((try simp (disch := omega) only [w32_eq, w64_eq, ix_n, ix_e, sto_n, sto_e, sto_r, zf_r, Int.toNat_natCast, true_or, or_true, eq_self]) <;> (first | omega | decide)))) | (with_reducible refine ok_t ?_ ?_; · (first | omega | ((try simp (disch := omega) only [w32_eq, w64_eq, ix_n, ix_e, sto_n, sto_e, sto_r, zf_r, Int.toNat_natCast, true_or, or_true, eq_self]) <;> (first | omega | decide)))) | (with_reducible refine ok_f ?_ ?_; · (first | omega | ((try simp (disch := omega) only [w32_eq, w64_eq, ix_n, ix_e, sto_n, sto_e, sto_r, zf_r, Int.toNat_natCast, true_or, or_true, eq_self]) <;> (first | omega | decide)))) | (with_reducible refine ok_ct ?_ ?_; · (first | omega | ((try simp (disch := omega) only [w32_eq, w64_eq, ix_n, ix_e, sto_n, sto_e, sto_r, zf_r, Int.toNat_natCast, true_or, or_true, eq_self]) <;> (first | omega | decide)))) | (with_reducible refine ok_cf ?_ ?_; · (first | omega | ((try simp (disch := omega) only [w32_eq, w64_eq, ix_n, ix_e, sto_n, sto_e, sto_r, zf_r, Int.toNat_natCast, true_or, or_true, eq_self]) <;> (first | omega | decide)))))
    rw [hj, ix_n (by omega), u4]
    refine ih f (i + 1) _ (by omega) (by omega) (hF.trans (Fr.trans (fr_stoA (by decide)) (fr_stoA (by decide)))) (by rw [sto_r (by decide), sto_r (by decide)]; exact h1) (by rw [sto_r (by decide), sto_r (by decide)]; exact h2) (fun k hk => ?_)
    rw [sto_r (show 184 ≠ 185 by decide), sto_up, sto_up, sto_r (show 185 ≠ 184 by decide)]
    unfold up
    by_cases c : k = i
    · rw [if_pos c, if_pos c, c]; exact ⟨rfl, rfl⟩
    · rw [if_neg c, if_neg c]; exact h3 k (by omega)
theorem l_sr65 {m r t3 t5 : Nat} {B : Mem} (hmr : m ≤ 5 ∧ r ≤ 4) (hr0 : 0 < r) (ht3 : t3 < 4) (ht : t5 < 4) {hv : Nat → Int} (hvb : ∀ b, b < m → 0 ≤ hv b ∧ hv b ≤ 30) (hwb : ∀ o, o < r → 0 ≤ B 114 (40 * t3 + o) ∧ B 114 (40 * t3 + o) ≤ 30) (hcb : ∀ k, k < m * r → 0 ≤ B 114 (40 * t5 + k) ∧ B 114 (40 * t5 + k) ≤ 100) (hs : sm (fun o => B 114 (40 * t3 + o)) r ≤ sm hv m) :
    ∀ (j fuel i : Nat) (M : Mem), i + j = r → j < fuel → Fr [182, 183, 184, 185] [] B M → (∀ b, b < m → M 182 b = hv b) → (∀ o, o < i → M 183 o = B 114 (40 * t3 + o)) →
    Ok (fix (fun _ _ _ _ _ _ _ => none) k_Mo_send_65 fuel (m : Int) (t3 : Int) (r : Int) (t5 : Int) (sm (fun o => B 114 (40 * t3 + o)) i) (i : Int) M) (fun v M' => SnA m r hv (fun o => B 114 (40 * t3 + o)) (fun k => B 114 (40 * t5 + k)) v ∧ M' 0 0 = B 0 0 ∧ M' 111 0 = B 111 0) := by
  have b1 : m * r ≤ 5 * 4 := Nat.mul_le_mul hmr.1 hmr.2
  intro j; induction j with
  | zero =>
    intro fuel i M e hf hF h1 h2
    have : i = r := by omega
    subst this
    have nn : 0 ≤ sm (fun o => B 114 (40 * t3 + o)) i := sm_nn i (fun o ho => (hwb o ho).1)
    obtain ⟨n, hn⟩ : ∃ n : Nat, sm (fun o => B 114 (40 * t3 + o)) i = (n : Int) := ⟨(sm (fun o => B 114 (40 * t3 + o)) i).toNat, by omega⟩
    obtain ⟨f, rfl⟩ : ∃ f, fuel = f + 1 := ⟨fuel - 1, by omega⟩; rw [fix_s]; unfold k_Mo_send_65
    repeat (first | with_reducible refine ok_let ?_ | with_reducible refine ok_cs ?_ | with_reducible refine ok_clet ?_ | with_reducible refine ok_cc ?_ | (with_reducible refine ok_chk ?_ ?_; · (first | omega | ((try simp (disch := omega) only [w32_eq, w64_eq, ix_n, ix_e, sto_n, sto_e, sto_r, zf_r, Int.toNat_natCast, true_or, or_true, eq_self]) <;> (first | omega | decide)))) | (with_reducible refine ok_cchk ?_ ?_; · (first | omega | ((try simp (disch := omega) only [w32_eq, w64_eq, ix_n, ix_e, sto_n, sto_e, sto_r, zf_r, Int.toNat_natCast, true_or, or_true, eq_self]) <;> (first | omega | decide)))) | (with_reducible refine ok_t ?_ ?_; · (first | omega | ((try simp (disch := omega) only [w32_eq, w64_eq, ix_n, ix_e, sto_n, sto_e, sto_r, zf_r, Int.toNat_natCast, true_or, or_true, eq_self]) <;> (first | omega | decide)))) | (with_reducible refine ok_f ?_ ?_; · (first | omega | ((try simp (disch := omega) only [w32_eq, w64_eq, ix_n, ix_e, sto_n, sto_e, sto_r, zf_r, Int.toNat_natCast, true_or, or_true, eq_self]) <;> (first | omega | decide)))) | (with_reducible refine ok_ct ?_ ?_; · (first | omega | ((try simp (disch := omega) only [w32_eq, w64_eq, ix_n, ix_e, sto_n, sto_e, sto_r, zf_r, Int.toNat_natCast, true_or, or_true, eq_self]) <;> (first | omega | decide)))) | (with_reducible refine ok_cf ?_ ?_; · (first | omega | ((try simp (disch := omega) only [w32_eq, w64_eq, ix_n, ix_e, sto_n, sto_e, sto_r, zf_r, Int.toNat_natCast, true_or, or_true, eq_self]) <;> (first | omega | decide)))))
    rw [hn]
    exact l_sr108 hmr hr0 ht hvb hwb hcb hs hn (m * i) FU 0 M (by omega) (by unfold FU; omega) hF h1 h2 (fun k hk => by omega)
  | succ j ih =>
    intro fuel i M e hf hF h1 h2
    have hj : (i : Int) + 1 = ((i + 1 : Nat) : Int) := by omega
    have u4 := hF.c 114 (by decide) (by decide)
    have ei : ix (i : Int) = i := ix_n (by omega)
    obtain ⟨f, rfl⟩ : ∃ f, fuel = f + 1 := ⟨fuel - 1, by omega⟩; rw [fix_s]
    have := ih f (i + 1) (sto M 183 i (B 114 (40 * t3 + i))) (by omega) (by omega) (hF.trans (fr_stoA (by decide))) (by rw [sto_r (by decide)]; exact h1) (fun k hk => by
      rw [sto_up]
      unfold up
      by_cases c : k = i
      · rw [if_pos c, c]
      · rw [if_neg c]; exact h2 k (by omega))
    unfold k_Mo_send_65
    refine ok_t (by first | omega | ((try simp (disch := omega) only [w32_eq, w64_eq, ix_n, ix_e, sto_n, sto_e, sto_r, zf_r, Int.toNat_natCast, true_or, or_true, eq_self]) <;> (first | omega | decide))) (ok_call_eq (s_number ht3 (by omega)) (ok_chk (by first | omega | ((try simp (disch := omega) only [w32_eq, w64_eq, ix_n, ix_e, sto_n, sto_e, sto_r, zf_r, Int.toNat_natCast, true_or, or_true, eq_self]) <;> (first | omega | decide))) (ok_let (ok_chk (by first | omega | ((try simp (disch := omega) only [w32_eq, w64_eq, ix_n, ix_e, sto_n, sto_e, sto_r, zf_r, Int.toNat_natCast, true_or, or_true, eq_self]) <;> (first | omega | decide))) (ok_let (ok_let (ok_let ?_)))))))
    rw [hj, ei, u4, sto_e]
    exact this
theorem l_sr35 {m r t1 t3 t5 : Nat} {B : Mem} (hmr : m ≤ 5 ∧ r ≤ 4) (hr0 : 0 < r) (ht1 : t1 < 4) (ht3 : t3 < 4) (ht : t5 < 4) (hvb : ∀ b, b < m → 0 ≤ B 114 (40 * t1 + b) ∧ B 114 (40 * t1 + b) ≤ 30) (hwb : ∀ o, o < r → 0 ≤ B 114 (40 * t3 + o) ∧ B 114 (40 * t3 + o) ≤ 30) (hcb : ∀ k, k < m * r → 0 ≤ B 114 (40 * t5 + k) ∧ B 114 (40 * t5 + k) ≤ 100) (hs : sm (fun o => B 114 (40 * t3 + o)) r ≤ sm (fun b => B 114 (40 * t1 + b)) m) :
    ∀ (j fuel i : Nat) (M : Mem), i + j = m → j < fuel → Fr [182, 183, 184, 185] [] B M → (∀ b, b < i → M 182 b = B 114 (40 * t1 + b)) →
    Ok (fix (fun _ _ _ _ _ _ _ _ => none) k_Mo_send_35 fuel (t1 : Int) (m : Int) (t3 : Int) (r : Int) (t5 : Int) 0 (i : Int) M) (fun v M' => SnA m r (fun b => B 114 (40 * t1 + b)) (fun o => B 114 (40 * t3 + o)) (fun k => B 114 (40 * t5 + k)) v ∧ M' 0 0 = B 0 0 ∧ M' 111 0 = B 111 0) := by
  intro j; induction j with
  | zero =>
    intro fuel i M e hf hF h1
    have : i = m := by omega
    subst this
    obtain ⟨f, rfl⟩ : ∃ f, fuel = f + 1 := ⟨fuel - 1, by omega⟩; rw [fix_s]; unfold k_Mo_send_35
    repeat (first | with_reducible refine ok_let ?_ | with_reducible refine ok_cs ?_ | with_reducible refine ok_clet ?_ | with_reducible refine ok_cc ?_ | (with_reducible refine ok_chk ?_ ?_; · (first | omega | ((try simp (disch := omega) only [w32_eq, w64_eq, ix_n, ix_e, sto_n, sto_e, sto_r, zf_r, Int.toNat_natCast, true_or, or_true, eq_self]) <;> (first | omega | decide)))) | (with_reducible refine ok_cchk ?_ ?_; · (first | omega | ((try simp (disch := omega) only [w32_eq, w64_eq, ix_n, ix_e, sto_n, sto_e, sto_r, zf_r, Int.toNat_natCast, true_or, or_true, eq_self]) <;> (first | omega | decide)))) | (with_reducible refine ok_t ?_ ?_; · (first | omega | ((try simp (disch := omega) only [w32_eq, w64_eq, ix_n, ix_e, sto_n, sto_e, sto_r, zf_r, Int.toNat_natCast, true_or, or_true, eq_self]) <;> (first | omega | decide)))) | (with_reducible refine ok_f ?_ ?_; · (first | omega | ((try simp (disch := omega) only [w32_eq, w64_eq, ix_n, ix_e, sto_n, sto_e, sto_r, zf_r, Int.toNat_natCast, true_or, or_true, eq_self]) <;> (first | omega | decide)))) | (with_reducible refine ok_ct ?_ ?_; · (first | omega | ((try simp (disch := omega) only [w32_eq, w64_eq, ix_n, ix_e, sto_n, sto_e, sto_r, zf_r, Int.toNat_natCast, true_or, or_true, eq_self]) <;> (first | omega | decide)))) | (with_reducible refine ok_cf ?_ ?_; · (first | omega | ((try simp (disch := omega) only [w32_eq, w64_eq, ix_n, ix_e, sto_n, sto_e, sto_r, zf_r, Int.toNat_natCast, true_or, or_true, eq_self]) <;> (first | omega | decide)))))
    exact l_sr65 hmr hr0 ht3 ht hvb hwb hcb hs r FU 0 M (by omega) (by unfold FU; omega) hF h1 (fun k hk => by omega)
  | succ j ih =>
    intro fuel i M e hf hF h1
    have hj : (i : Int) + 1 = ((i + 1 : Nat) : Int) := by omega
    have u4 := hF.c 114 (by decide) (by decide)
    obtain ⟨f, rfl⟩ : ∃ f, fuel = f + 1 := ⟨fuel - 1, by omega⟩; rw [fix_s]; unfold k_Mo_send_35
    repeat (first | with_reducible refine ok_let ?_ | with_reducible refine ok_cs ?_ | with_reducible refine ok_clet ?_ | with_reducible refine ok_cc ?_ | (with_reducible refine ok_chk ?_ ?_; · (first | omega | ((try simp (disch := omega) only [w32_eq, w64_eq, ix_n, ix_e, sto_n, sto_e, sto_r, zf_r, Int.toNat_natCast, true_or, or_true, eq_self]) <;> (first | omega | decide)))) | (with_reducible refine ok_cchk ?_ ?_; · (first | omega | ((try simp (disch := omega) only [w32_eq, w64_eq, ix_n, ix_e, sto_n, sto_e, sto_r, zf_r, Int.toNat_natCast, true_or, or_true, eq_self]) <;> (first | omega | decide)))) | (with_reducible refine ok_t ?_ ?_; · (first | omega | ((try simp (disch := omega) only [w32_eq, w64_eq, ix_n, ix_e, sto_n, sto_e, sto_r, zf_r, Int.toNat_natCast, true_or, or_true, eq_self]) <;> (first | omega | decide)))) | (with_reducible refine ok_f ?_ ?_; · (first | omega | ((try simp (disch := omega) only [w32_eq, w64_eq, ix_n, ix_e, sto_n, sto_e, sto_r, zf_r, Int.toNat_natCast, true_or, or_true, eq_self]) <;> (first | omega | decide)))) | (with_reducible refine ok_ct ?_ ?_; · (first | omega | ((try simp (disch := omega) only [w32_eq, w64_eq, ix_n, ix_e, sto_n, sto_e, sto_r, zf_r, Int.toNat_natCast, true_or, or_true, eq_self]) <;> (first | omega | decide)))) | (with_reducible refine ok_cf ?_ ?_; · (first | omega | ((try simp (disch := omega) only [w32_eq, w64_eq, ix_n, ix_e, sto_n, sto_e, sto_r, zf_r, Int.toNat_natCast, true_or, or_true, eq_self]) <;> (first | omega | decide)))))
    refine ok_call_eq (s_number ht1 (by omega)) ?_
    repeat (first | with_reducible refine ok_let ?_ | with_reducible refine ok_cs ?_ | with_reducible refine ok_clet ?_ | with_reducible refine ok_cc ?_ | (with_reducible refine ok_chk ?_ ?_; · (first | omega | ((try simp (disch := omega) only [w32_eq, w64_eq, ix_n, ix_e, sto_n, sto_e, sto_r, zf_r, Int.toNat_natCast, true_or, or_true, eq_self]) <;> (first | omega | decide)))) | (with_reducible refine ok_cchk ?_ ?_; · (first | omega | ((try simp (disch := omega) only [w32_eq, w64_eq, ix_n, ix_e, sto_n, sto_e, sto_r, zf_r, Int.toNat_natCast, true_or, or_true, eq_self]) <;> (first | omega | decide)))) | (with_reducible refine ok_t ?_ ?_; · (first | omega | ((try simp (disch := omega) only [w32_eq, w64_eq, ix_n, ix_e, sto_n, sto_e, sto_r, zf_r, Int.toNat_natCast, true_or, or_true, eq_self]) <;> (first | omega | decide)))) | (with_reducible refine ok_f ?_ ?_; · (first | omega | ((try simp (disch := omega) only [w32_eq, w64_eq, ix_n, ix_e, sto_n, sto_e, sto_r, zf_r, Int.toNat_natCast, true_or, or_true, eq_self]) <;> (first | omega | decide)))) | (with_reducible refine ok_ct ?_ ?_; · (first | omega | ((try simp (disch := omega) only [w32_eq, w64_eq, ix_n, ix_e, sto_n, sto_e, sto_r, zf_r, Int.toNat_natCast, true_or, or_true, eq_self]) <;> (first | omega | decide)))) | (with_reducible refine ok_cf ?_ ?_; · (first | omega | ((try simp (disch := omega) only [w32_eq, w64_eq, ix_n, ix_e, sto_n, sto_e, sto_r, zf_r, Int.toNat_natCast, true_or, or_true, eq_self]) <;> (first | omega | decide)))))
    rw [hj, ix_n (by omega), u4]
    refine ih f (i + 1) _ (by omega) (by omega) (hF.trans (fr_stoA (by decide))) (fun k hk => ?_)
    rw [sto_up]
    unfold up
    by_cases c : k = i
    · rw [if_pos c, c]
    · rw [if_neg c]; exact h1 k (by omega)
/-- a tray's numbers are added -/
theorem s_totalOf {a n : Nat} {M : Mem} (ha : a < 4) (hn : n ≤ 40) : d_Tr_totalOf (a : Int) (n : Int) M = some (sm (fun k => M 4 (40 * a + k)) n, M) := by
  have l : ∀ j fuel i : Nat, i + j = n → j < fuel → fix (fun _ _ _ _ _ => none) k_Tr_totalOf_5 fuel (a : Int) (n : Int) (sm (fun k => M 4 (40 * a + k)) i) (i : Int) M = some (sm (fun k => M 4 (40 * a + k)) n, M) := by
    intro j; induction j with
    | zero =>
      intro fuel i e hf
      obtain ⟨f, rfl⟩ : ∃ f, fuel = f + 1 := ⟨fuel - 1, by omega⟩; rw [fix_s]; unfold k_Tr_totalOf_5
      refine e_f (by first | omega | ((try simp (disch := omega) only [w32_eq, w64_eq, ix_n, ix_e, sto_n, sto_e, sto_r, zf_r, Int.toNat_natCast, true_or, or_true, eq_self]) <;> (first | omega | decide))) ?_
      rw [show i = n by omega]
    | succ j ih =>
      intro fuel i e hf
      have hj : (i : Int) + 1 = ((i + 1 : Nat) : Int) := by omega
      obtain ⟨f, rfl⟩ : ∃ f, fuel = f + 1 := ⟨fuel - 1, by omega⟩; rw [fix_s]
      have := ih f (i + 1) (by omega) (by omega)
      unfold k_Tr_totalOf_5
      refine e_t (by first | omega | ((try simp (disch := omega) only [w32_eq, w64_eq, ix_n, ix_e, sto_n, sto_e, sto_r, zf_r, Int.toNat_natCast, true_or, or_true, eq_self]) <;> (first | omega | decide))) (e_call (s_get ha (by omega)) (e_let (e_let ?_)))
      rw [hj]; exact this
  unfold d_Tr_totalOf
  exact l n FU 0 (by omega) (by unfold FU; omega)
theorem ai_y {v : Nat → Int} {lo hi : Int} {n : Nat} (h : ∀ k, k < n → lo ≤ v k ∧ v k ≤ hi) : ¬ aiB v lo hi n < n := fun c => by
  obtain ⟨-, k2, -⟩ := fs1_p (q := fun k => decide (¬ (lo ≤ v k ∧ v k ≤ hi))) n
  exact (of_decide_eq_true (k2 c)) (h _ c)
theorem ai_n {v : Nat → Int} {lo hi : Int} {n : Nat} (h : ¬ ∀ k, k < n → lo ≤ v k ∧ v k ≤ hi) : aiB v lo hi n < n := by
  obtain ⟨k1, -, k3⟩ := fs1_p (q := fun k => decide (¬ (lo ≤ v k ∧ v k ≤ hi))) n
  refine Classical.byContradiction fun c => h (fun k hk => ?_)
  unfold aiB at c
  exact Decidable.not_not.mp (of_decide_eq_false (k3 k (by omega)))
theorem s_is64 {x lo hi : Int} {M : Mem} (hx : -9223372036854775808 ≤ x ∧ x < 9223372036854775808) (hl : 0 ≤ lo ∧ lo ≤ 1000) (hh : 0 ≤ hi ∧ hi ≤ 1000) : d_Mo_isIn x lo hi M = some (if lo ≤ x ∧ x ≤ hi then 1 else 0, M) := by
  unfold d_Mo_isIn
  rw [w64_eq (x := x) hx.1 hx.2, w64_eq (x := lo) (by omega) (by omega), w64_eq (x := hi) (by omega) (by omega)]
  by_cases c1 : x < lo
  · rw [if_pos c1, if_neg (show ¬ (lo ≤ x ∧ x ≤ hi) by omega)]
  · rw [if_neg c1]
    by_cases c2 : hi < x
    · rw [if_pos c2, if_neg (show ¬ (lo ≤ x ∧ x ≤ hi) by omega)]
    · rw [if_neg c2, if_pos (show lo ≤ x ∧ x ≤ hi by omega)]
/-- what the model asks, from the numbers on -/
theorem l_as273 {m r t3 : Nat} {M : Mem} (hr : r ≤ 4) (ht : t3 < 4) (hg : ∀ k, k < r → 0 ≤ M 114 (40 * t3 + k) ∧ M 114 (40 * t3 + k) ≤ 30) {s : Int} (hs : 0 ≤ s ∧ s ≤ 1000) : ∀ j fuel i : Nat, i + j = r → j < fuel → fix (fun _ _ _ _ _ => none) k_Mo_asksSend_273 fuel (t3 : Int) (r : Int) (s - sm (fun k => M 114 (40 * t3 + k)) i) (i : Int) M = some (if s < sm (fun k => M 114 (40 * t3 + k)) r then 9 else 0, M) := by
  intro j; induction j with
  | zero =>
    intro fuel i e hf
    have : i = r := by omega
    subst this
    have b0 := sm_nn (w := fun k => M 114 (40 * t3 + k)) i (fun k hk => (hg k hk).1)
    have b1 := sm_b (w := fun k => M 114 (40 * t3 + k)) (c := 30) i (fun k hk => (hg k hk).2)
    obtain ⟨f, rfl⟩ : ∃ f, fuel = f + 1 := ⟨fuel - 1, by omega⟩; rw [fix_s]; unfold k_Mo_asksSend_273
    refine e_f (by first | omega | ((try simp (disch := omega) only [w32_eq, w64_eq, ix_n, ix_e, sto_n, sto_e, sto_r, zf_r, Int.toNat_natCast, true_or, or_true, eq_self]) <;> (first | omega | decide))) ?_
    by_cases c : s < sm (fun k => M 114 (40 * t3 + k)) i
    · rw [if_pos c]
      refine e_t (by rw [w64_eq (by omega) (by omega)]; omega) rfl
    · rw [if_neg c]
      refine e_f (by rw [w64_eq (by omega) (by omega)]; omega) rfl
  | succ j ih =>
    intro fuel i e hf
    have hj : (i : Int) + 1 = ((i + 1 : Nat) : Int) := by omega
    obtain ⟨f, rfl⟩ : ∃ f, fuel = f + 1 := ⟨fuel - 1, by omega⟩; rw [fix_s]
    have := ih f (i + 1) (by omega) (by omega)
    unfold k_Mo_asksSend_273
    refine e_t (by first | omega | ((try simp (disch := omega) only [w32_eq, w64_eq, ix_n, ix_e, sto_n, sto_e, sto_r, zf_r, Int.toNat_natCast, true_or, or_true, eq_self]) <;> (first | omega | decide))) (e_call (s_number ht (by omega)) (e_let (e_let ?_)))
    rw [hj, ← this]
    have : sm (fun k => M 114 (40 * t3 + k)) (i + 1) = sm (fun k => M 114 (40 * t3 + k)) i + M 114 (40 * t3 + i) := rfl
    rw [this, Int.sub_sub]
    rfl
theorem l_as246 {m r t1 t3 : Nat} {M : Mem} (hmr : m ≤ 5 ∧ r ≤ 4) (ht1 : t1 < 4) (ht : t3 < 4) (hg1 : ∀ k, k < m → 0 ≤ M 114 (40 * t1 + k) ∧ M 114 (40 * t1 + k) ≤ 30) (hg : ∀ k, k < r → 0 ≤ M 114 (40 * t3 + k) ∧ M 114 (40 * t3 + k) ≤ 30) : ∀ j fuel i : Nat, i + j = m → j < fuel → fix (fun _ _ _ _ _ _ _ => none) k_Mo_asksSend_246 fuel (t1 : Int) (m : Int) (t3 : Int) (r : Int) (sm (fun k => M 114 (40 * t1 + k)) i) (i : Int) M = some (if sm (fun k => M 114 (40 * t1 + k)) m < sm (fun k => M 114 (40 * t3 + k)) r then 9 else 0, M) := by
  intro j; induction j with
  | zero =>
    intro fuel i e hf
    have : i = m := by omega
    subst this
    have b0 := sm_nn (w := fun k => M 114 (40 * t1 + k)) i (fun k hk => (hg1 k hk).1)
    have b1 := sm_b (w := fun k => M 114 (40 * t1 + k)) (c := 30) i (fun k hk => (hg1 k hk).2)
    obtain ⟨f, rfl⟩ : ∃ f, fuel = f + 1 := ⟨fuel - 1, by omega⟩; rw [fix_s]; unfold k_Mo_asksSend_246
    refine e_f (by first | omega | ((try simp (disch := omega) only [w32_eq, w64_eq, ix_n, ix_e, sto_n, sto_e, sto_r, zf_r, Int.toNat_natCast, true_or, or_true, eq_self]) <;> (first | omega | decide))) ?_
    have q := l_as273 (m := i) hmr.2 ht hg (s := sm (fun k => M 114 (40 * t1 + k)) i) (by omega) r FU 0 (by omega) (by unfold FU; omega)
    rw [show sm (fun k => M 114 (40 * t3 + k)) 0 = 0 from rfl, Int.sub_zero] at q
    exact q
  | succ j ih =>
    intro fuel i e hf
    have hj : (i : Int) + 1 = ((i + 1 : Nat) : Int) := by omega
    obtain ⟨f, rfl⟩ : ∃ f, fuel = f + 1 := ⟨fuel - 1, by omega⟩; rw [fix_s]
    have := ih f (i + 1) (by omega) (by omega)
    unfold k_Mo_asksSend_246
    refine e_t (by first | omega | ((try simp (disch := omega) only [w32_eq, w64_eq, ix_n, ix_e, sto_n, sto_e, sto_r, zf_r, Int.toNat_natCast, true_or, or_true, eq_self]) <;> (first | omega | decide))) (e_call (s_number ht1 (by omega)) (e_let (e_let ?_)))
    rw [hj]; exact this
theorem l_as205 {m r t1 t3 t5 : Nat} {M : Mem} {R : Res} (hN : IvN M) (hmr : m ≤ 5 ∧ r ≤ 4) (ht : t5 < 4) (hA : (∀ k, k < m * r → 0 ≤ M 114 (40 * t5 + k) ∧ M 114 (40 * t5 + k) ≤ 100) → fix (fun _ _ _ _ _ _ _ => none) k_Mo_asksSend_246 FU (t1 : Int) (m : Int) (t3 : Int) (r : Int) 0 0 M = R) (hB : (¬ ∀ k, k < m * r → 0 ≤ M 114 (40 * t5 + k) ∧ M 114 (40 * t5 + k) ≤ 100) → some (5, M) = R) : ∀ j fuel i : Nat, i + j = m * r → j < fuel → (∀ k, k < i → 0 ≤ M 114 (40 * t5 + k) ∧ M 114 (40 * t5 + k) ≤ 100) → fix (fun _ _ _ _ _ _ _ => none) k_Mo_asksSend_205 fuel (t1 : Int) (m : Int) (t3 : Int) (r : Int) (t5 : Int) (i : Int) M = R := by
  have b1 : m * r ≤ 5 * 4 := Nat.mul_le_mul hmr.1 hmr.2
  have em : (m : Int) * (r : Int) = ((m * r : Nat) : Int) := by push_cast; rfl
  intro j; induction j with
  | zero =>
    intro fuel i e hf hg
    obtain ⟨f, rfl⟩ : ∃ f, fuel = f + 1 := ⟨fuel - 1, by omega⟩; rw [fix_s]; unfold k_Mo_asksSend_205
    rw [em]
    refine e_f (by first | omega | ((try simp (disch := omega) only [w32_eq, w64_eq, ix_n, ix_e, sto_n, sto_e, sto_r, zf_r, Int.toNat_natCast, true_or, or_true, eq_self]) <;> (first | omega | decide))) (hA (fun k hk => hg k (by omega)))
  | succ j ih =>
    intro fuel i e hf hg
    have hj : (i : Int) + 1 = ((i + 1 : Nat) : Int) := by omega
    obtain ⟨f, rfl⟩ : ∃ f, fuel = f + 1 := ⟨fuel - 1, by omega⟩; rw [fix_s]; unfold k_Mo_asksSend_205
    rw [em]
    refine e_t (by first | omega | ((try simp (disch := omega) only [w32_eq, w64_eq, ix_n, ix_e, sto_n, sto_e, sto_r, zf_r, Int.toNat_natCast, true_or, or_true, eq_self]) <;> (first | omega | decide))) (e_call (s_number ht (by omega)) (e_call (s_is64 (hN _ (by omega)) (by decide) (by decide)) ?_))
    by_cases c : 0 ≤ M 114 (40 * t5 + i) ∧ M 114 (40 * t5 + i) ≤ 100
    · rw [if_pos c]
      refine e_f (by decide) (e_let ?_)
      rw [hj]
      refine ih f (i + 1) (by omega) (by omega) (fun k hk => ?_)
      by_cases d : k = i
      · rw [d]; exact c
      · exact hg k (by omega)
    · rw [if_neg c]
      exact e_t (by decide) (hB (fun q => c (q i (by omega))))
theorem l_as170 {m r t1 t3 t5 : Nat} {M : Mem} {R : Res} (hN : IvN M) (hmr : m ≤ 5 ∧ r ≤ 4) (ht : t3 < 4) (hA : (∀ k, k < r → 0 ≤ M 114 (40 * t3 + k) ∧ M 114 (40 * t3 + k) ≤ 30) → fix (fun _ _ _ _ _ _ _ => none) k_Mo_asksSend_205 FU (t1 : Int) (m : Int) (t3 : Int) (r : Int) (t5 : Int) 0 M = R) (hB : (¬ ∀ k, k < r → 0 ≤ M 114 (40 * t3 + k) ∧ M 114 (40 * t3 + k) ≤ 30) → some (5, M) = R) : ∀ j fuel i : Nat, i + j = r → j < fuel → (∀ k, k < i → 0 ≤ M 114 (40 * t3 + k) ∧ M 114 (40 * t3 + k) ≤ 30) → fix (fun _ _ _ _ _ _ _ => none) k_Mo_asksSend_170 fuel (t1 : Int) (m : Int) (t3 : Int) (r : Int) (t5 : Int) (i : Int) M = R := by
  intro j; induction j with
  | zero =>
    intro fuel i e hf hg
    obtain ⟨f, rfl⟩ : ∃ f, fuel = f + 1 := ⟨fuel - 1, by omega⟩; rw [fix_s]; unfold k_Mo_asksSend_170
    refine e_f (by first | omega | ((try simp (disch := omega) only [w32_eq, w64_eq, ix_n, ix_e, sto_n, sto_e, sto_r, zf_r, Int.toNat_natCast, true_or, or_true, eq_self]) <;> (first | omega | decide))) (hA (fun k hk => hg k (by omega)))
  | succ j ih =>
    intro fuel i e hf hg
    have hj : (i : Int) + 1 = ((i + 1 : Nat) : Int) := by omega
    obtain ⟨f, rfl⟩ : ∃ f, fuel = f + 1 := ⟨fuel - 1, by omega⟩; rw [fix_s]; unfold k_Mo_asksSend_170
    refine e_t (by first | omega | ((try simp (disch := omega) only [w32_eq, w64_eq, ix_n, ix_e, sto_n, sto_e, sto_r, zf_r, Int.toNat_natCast, true_or, or_true, eq_self]) <;> (first | omega | decide))) (e_call (s_number ht (by omega)) (e_call (s_is64 (hN _ (by omega)) (by decide) (by decide)) ?_))
    by_cases c : 0 ≤ M 114 (40 * t3 + i) ∧ M 114 (40 * t3 + i) ≤ 30
    · rw [if_pos c]
      refine e_f (by decide) (e_let ?_)
      rw [hj]
      refine ih f (i + 1) (by omega) (by omega) (fun k hk => ?_)
      by_cases d : k = i
      · rw [d]; exact c
      · exact hg k (by omega)
    · rw [if_neg c]
      exact e_t (by decide) (hB (fun q => c (q i (by omega))))
theorem l_as136 {m r t1 t3 t5 : Nat} {M : Mem} {R : Res} (hN : IvN M) (hmr : m ≤ 5 ∧ r ≤ 4) (ht : t1 < 4) (hA : (∀ k, k < m → 0 ≤ M 114 (40 * t1 + k) ∧ M 114 (40 * t1 + k) ≤ 30) → fix (fun _ _ _ _ _ _ _ => none) k_Mo_asksSend_170 FU (t1 : Int) (m : Int) (t3 : Int) (r : Int) (t5 : Int) 0 M = R) (hB : (¬ ∀ k, k < m → 0 ≤ M 114 (40 * t1 + k) ∧ M 114 (40 * t1 + k) ≤ 30) → some (5, M) = R) : ∀ j fuel i : Nat, i + j = m → j < fuel → (∀ k, k < i → 0 ≤ M 114 (40 * t1 + k) ∧ M 114 (40 * t1 + k) ≤ 30) → fix (fun _ _ _ _ _ _ _ => none) k_Mo_asksSend_136 fuel (t1 : Int) (m : Int) (t3 : Int) (r : Int) (t5 : Int) (i : Int) M = R := by
  intro j; induction j with
  | zero =>
    intro fuel i e hf hg
    obtain ⟨f, rfl⟩ : ∃ f, fuel = f + 1 := ⟨fuel - 1, by omega⟩; rw [fix_s]; unfold k_Mo_asksSend_136
    refine e_f (by first | omega | ((try simp (disch := omega) only [w32_eq, w64_eq, ix_n, ix_e, sto_n, sto_e, sto_r, zf_r, Int.toNat_natCast, true_or, or_true, eq_self]) <;> (first | omega | decide))) (hA (fun k hk => hg k (by omega)))
  | succ j ih =>
    intro fuel i e hf hg
    have hj : (i : Int) + 1 = ((i + 1 : Nat) : Int) := by omega
    obtain ⟨f, rfl⟩ : ∃ f, fuel = f + 1 := ⟨fuel - 1, by omega⟩; rw [fix_s]; unfold k_Mo_asksSend_136
    refine e_t (by first | omega | ((try simp (disch := omega) only [w32_eq, w64_eq, ix_n, ix_e, sto_n, sto_e, sto_r, zf_r, Int.toNat_natCast, true_or, or_true, eq_self]) <;> (first | omega | decide))) (e_call (s_number ht (by omega)) (e_call (s_is64 (hN _ (by omega)) (by decide) (by decide)) ?_))
    by_cases c : 0 ≤ M 114 (40 * t1 + i) ∧ M 114 (40 * t1 + i) ≤ 30
    · rw [if_pos c]
      refine e_f (by decide) (e_let ?_)
      rw [hj]
      refine ih f (i + 1) (by omega) (by omega) (fun k hk => ?_)
      by_cases d : k = i
      · rw [d]; exact c
      · exact hg k (by omega)
    · rw [if_neg c]
      exact e_t (by decide) (hB (fun q => c (q i (by omega))))
theorem c_send_no {a1 a2 a3 a4 a5 code : Int} {M : Mem} (h : d_PP_statusOfSend a1 a2 a3 a4 a5 M = some (code, M)) (hc : 1 ≤ code ∧ code ≤ 12) : d_PP_send a1 a2 a3 a4 a5 M = some (-1, sto M 0 0 code) := by
  unfold d_PP_send
  refine e_call h ?_
  repeat (first | with_reducible refine e_let ?_ | with_reducible refine e_cs ?_ | with_reducible refine e_clet ?_ | with_reducible refine e_cc ?_ | (with_reducible refine e_chk ?_ ?_; · (first | omega | ((try simp (disch := omega) only [w32_eq, w64_eq, ix_n, ix_e, sto_n, sto_e, sto_r, zf_r, Int.toNat_natCast, true_or, or_true, eq_self]) <;> (first | omega | decide)))) | (with_reducible refine e_cchk ?_ ?_; · (first | omega | ((try simp (disch := omega) only [w32_eq, w64_eq, ix_n, ix_e, sto_n, sto_e, sto_r, zf_r, Int.toNat_natCast, true_or, or_true, eq_self]) <;> (first | omega | decide)))) | (with_reducible refine e_t ?_ ?_; · (first | omega | ((try simp (disch := omega) only [w32_eq, w64_eq, ix_n, ix_e, sto_n, sto_e, sto_r, zf_r, Int.toNat_natCast, true_or, or_true, eq_self]) <;> (first | omega | decide)))) | (with_reducible refine e_f ?_ ?_; · (first | omega | ((try simp (disch := omega) only [w32_eq, w64_eq, ix_n, ix_e, sto_n, sto_e, sto_r, zf_r, Int.toNat_natCast, true_or, or_true, eq_self]) <;> (first | omega | decide)))) | (with_reducible refine e_ct ?_ ?_; · (first | omega | ((try simp (disch := omega) only [w32_eq, w64_eq, ix_n, ix_e, sto_n, sto_e, sto_r, zf_r, Int.toNat_natCast, true_or, or_true, eq_self]) <;> (first | omega | decide)))) | (with_reducible refine e_cf ?_ ?_; · (first | omega | ((try simp (disch := omega) only [w32_eq, w64_eq, ix_n, ix_e, sto_n, sto_e, sto_r, zf_r, Int.toNat_natCast, true_or, or_true, eq_self]) <;> (first | omega | decide)))))
  rfl
theorem r_send_no {a1 a2 a3 a4 a5 code : Int} {M : Mem} (h : d_Mo_asksSend a1 a2 a3 a4 a5 (sto M 111 1 0) = some (code, sto M 111 1 0)) (hc : 1 ≤ code ∧ code ≤ 12) : d_Mo_send a1 a2 a3 a4 a5 M = some (-1, sto (sto M 111 1 0) 111 0 code) := by
  unfold d_Mo_send
  refine e_let (e_call h ?_)
  repeat (first | with_reducible refine e_let ?_ | with_reducible refine e_cs ?_ | with_reducible refine e_clet ?_ | with_reducible refine e_cc ?_ | (with_reducible refine e_chk ?_ ?_; · (first | omega | ((try simp (disch := omega) only [w32_eq, w64_eq, ix_n, ix_e, sto_n, sto_e, sto_r, zf_r, Int.toNat_natCast, true_or, or_true, eq_self]) <;> (first | omega | decide)))) | (with_reducible refine e_cchk ?_ ?_; · (first | omega | ((try simp (disch := omega) only [w32_eq, w64_eq, ix_n, ix_e, sto_n, sto_e, sto_r, zf_r, Int.toNat_natCast, true_or, or_true, eq_self]) <;> (first | omega | decide)))) | (with_reducible refine e_t ?_ ?_; · (first | omega | ((try simp (disch := omega) only [w32_eq, w64_eq, ix_n, ix_e, sto_n, sto_e, sto_r, zf_r, Int.toNat_natCast, true_or, or_true, eq_self]) <;> (first | omega | decide)))) | (with_reducible refine e_f ?_ ?_; · (first | omega | ((try simp (disch := omega) only [w32_eq, w64_eq, ix_n, ix_e, sto_n, sto_e, sto_r, zf_r, Int.toNat_natCast, true_or, or_true, eq_self]) <;> (first | omega | decide)))) | (with_reducible refine e_ct ?_ ?_; · (first | omega | ((try simp (disch := omega) only [w32_eq, w64_eq, ix_n, ix_e, sto_n, sto_e, sto_r, zf_r, Int.toNat_natCast, true_or, or_true, eq_self]) <;> (first | omega | decide)))) | (with_reducible refine e_cf ?_ ?_; · (first | omega | ((try simp (disch := omega) only [w32_eq, w64_eq, ix_n, ix_e, sto_n, sto_e, sto_r, zf_r, Int.toNat_natCast, true_or, or_true, eq_self]) <;> (first | omega | decide)))))
  rfl
theorem sim_send {M : Mem} {a1 a2 a3 a4 a5 : Int} (i1 : I32 a1) (i2 : I32 a2) (i3 : I32 a3) (i4 : I32 a4) (i5 : I32 a5) (hT : IvT M) (hN : IvN M) : Simi (d_PP_send a1 a2 a3 a4 a5) (d_Mo_send a1 a2 a3 a4 a5) M (fun _ => True) := by
  have I1 := i1; have I3 := i3; have I5 := i5
  obtain ⟨g1, g1'⟩ := i1; obtain ⟨g2, g2'⟩ := i2; obtain ⟨g3, g3'⟩ := i3; obtain ⟨g4, g4'⟩ := i4; obtain ⟨g5, g5'⟩ := i5
  have hst := s_Tr_statusOfThree I1 I3 I5 hT.c
  by_cases c1 : (0 ≤ a1 ∧ a1 ≤ 3) ∧ (0 ≤ a3 ∧ a3 ≤ 3) ∧ (0 ≤ a5 ∧ a5 ≤ 3)
  rotate_left
  · rw [if_pos c1] at hst
    refine sim_no (code := 1) (r := -1) (c_send_no ?_ (by decide)) (r_send_no ?_ (by decide)) trivial
    · unfold d_PP_statusOfSend
      refine e_call hst ?_
      repeat (first | with_reducible refine e_let ?_ | with_reducible refine e_cs ?_ | with_reducible refine e_clet ?_ | with_reducible refine e_cc ?_ | (with_reducible refine e_chk ?_ ?_; · (first | omega | ((try simp (disch := omega) only [w32_eq, w64_eq, ix_n, ix_e, sto_n, sto_e, sto_r, zf_r, Int.toNat_natCast, true_or, or_true, eq_self]) <;> (first | omega | decide)))) | (with_reducible refine e_cchk ?_ ?_; · (first | omega | ((try simp (disch := omega) only [w32_eq, w64_eq, ix_n, ix_e, sto_n, sto_e, sto_r, zf_r, Int.toNat_natCast, true_or, or_true, eq_self]) <;> (first | omega | decide)))) | (with_reducible refine e_t ?_ ?_; · (first | omega | ((try simp (disch := omega) only [w32_eq, w64_eq, ix_n, ix_e, sto_n, sto_e, sto_r, zf_r, Int.toNat_natCast, true_or, or_true, eq_self]) <;> (first | omega | decide)))) | (with_reducible refine e_f ?_ ?_; · (first | omega | ((try simp (disch := omega) only [w32_eq, w64_eq, ix_n, ix_e, sto_n, sto_e, sto_r, zf_r, Int.toNat_natCast, true_or, or_true, eq_self]) <;> (first | omega | decide)))) | (with_reducible refine e_ct ?_ ?_; · (first | omega | ((try simp (disch := omega) only [w32_eq, w64_eq, ix_n, ix_e, sto_n, sto_e, sto_r, zf_r, Int.toNat_natCast, true_or, or_true, eq_self]) <;> (first | omega | decide)))) | (with_reducible refine e_cf ?_ ?_; · (first | omega | ((try simp (disch := omega) only [w32_eq, w64_eq, ix_n, ix_e, sto_n, sto_e, sto_r, zf_r, Int.toNat_natCast, true_or, or_true, eq_self]) <;> (first | omega | decide)))))
      rfl
    · unfold d_Mo_asksSend d_Mo_isIn
      repeat' (first | with_reducible refine e_let ?_ | with_reducible refine e_cs ?_ | with_reducible refine e_clet ?_ | with_reducible refine e_cc ?_ | (with_reducible refine e_chk ?_ ?_; · (first | omega | ((try simp (disch := omega) only [w32_eq, w64_eq, ix_n, ix_e, sto_n, sto_e, sto_r, zf_r, Int.toNat_natCast, true_or, or_true, eq_self]) <;> (first | omega | decide)))) | (with_reducible refine e_cchk ?_ ?_; · (first | omega | ((try simp (disch := omega) only [w32_eq, w64_eq, ix_n, ix_e, sto_n, sto_e, sto_r, zf_r, Int.toNat_natCast, true_or, or_true, eq_self]) <;> (first | omega | decide)))) | (with_reducible refine e_t ?_ ?_; · (first | omega | ((try simp (disch := omega) only [w32_eq, w64_eq, ix_n, ix_e, sto_n, sto_e, sto_r, zf_r, Int.toNat_natCast, true_or, or_true, eq_self]) <;> (first | omega | decide)))) | (with_reducible refine e_f ?_ ?_; · (first | omega | ((try simp (disch := omega) only [w32_eq, w64_eq, ix_n, ix_e, sto_n, sto_e, sto_r, zf_r, Int.toNat_natCast, true_or, or_true, eq_self]) <;> (first | omega | decide)))) | (with_reducible refine e_ct ?_ ?_; · (first | omega | ((try simp (disch := omega) only [w32_eq, w64_eq, ix_n, ix_e, sto_n, sto_e, sto_r, zf_r, Int.toNat_natCast, true_or, or_true, eq_self]) <;> (first | omega | decide)))) | (with_reducible refine e_cf ?_ ?_; · (first | omega | ((try simp (disch := omega) only [w32_eq, w64_eq, ix_n, ix_e, sto_n, sto_e, sto_r, zf_r, Int.toNat_natCast, true_or, or_true, eq_self]) <;> (first | omega | decide)))) | ((with_reducible refine e_sp (fun h => ?_) (fun h => ?_)) <;> (try simp (disch := omega) only [w32_eq, w64_eq, ix_n, ix_e, sto_n, sto_e, sto_r, zf_r, Int.toNat_natCast] at h)) | ((with_reducible refine e_csp (fun h => ?_) (fun h => ?_)) <;> (try simp (disch := omega) only [w32_eq, w64_eq, ix_n, ix_e, sto_n, sto_e, sto_r, zf_r, Int.toNat_natCast] at h)))
      all_goals first | with_reducible rfl | (exfalso; omega) | skip
  obtain ⟨t1, rfl⟩ : ∃ t : Nat, a1 = (t : Int) := ⟨a1.toNat, by omega⟩
  obtain ⟨t3, rfl⟩ : ∃ t : Nat, a3 = (t : Int) := ⟨a3.toNat, by omega⟩
  obtain ⟨t5, rfl⟩ : ∃ t : Nat, a5 = (t : Int) := ⟨a5.toNat, by omega⟩
  rw [if_neg (fun q => q c1), Int.toNat_natCast, Int.toNat_natCast, Int.toNat_natCast] at hst
  obtain ⟨hT0, hT1, hT2⟩ := hT
  have q1 := hT0 t1 (by omega)
  have q3 := hT0 t3 (by omega)
  have q5 := hT0 t5 (by omega)
  have m1 := hT1 t1 (by omega)
  have m3 := hT1 t3 (by omega)
  have m5 := hT1 t5 (by omega)
  have e1 : ix (t1 : Int) = t1 := ix_n (by omega)
  have e3 : ix (t3 : Int) = t3 := ix_n (by omega)
  have e5 : ix (t5 : Int) = t5 := ix_n (by omega)
  have u113 : ∀ X : Mem, sto X 111 1 0 113 = X 113 := fun X => sto_r (by decide)
  have u113' : ∀ code : Int, sto M 0 0 code 113 = M 113 := fun code => sto_r (by decide)
  rw [m1.1, m3.1, m5.1] at hst
  by_cases c2 : 0 ≤ M 113 t1 ∧ 0 ≤ M 113 t3 ∧ 0 ≤ M 113 t5
  rotate_left
  · rw [if_pos (by omega)] at hst
    refine sim_no (code := 3) (r := -1) (c_send_no ?_ (by decide)) (r_send_no ?_ (by decide)) trivial
    · unfold d_PP_statusOfSend
      refine e_call hst ?_
      repeat (first | with_reducible refine e_let ?_ | with_reducible refine e_cs ?_ | with_reducible refine e_clet ?_ | with_reducible refine e_cc ?_ | (with_reducible refine e_chk ?_ ?_; · (first | omega | ((try simp (disch := omega) only [w32_eq, w64_eq, ix_n, ix_e, sto_n, sto_e, sto_r, zf_r, Int.toNat_natCast, true_or, or_true, eq_self]) <;> (first | omega | decide)))) | (with_reducible refine e_cchk ?_ ?_; · (first | omega | ((try simp (disch := omega) only [w32_eq, w64_eq, ix_n, ix_e, sto_n, sto_e, sto_r, zf_r, Int.toNat_natCast, true_or, or_true, eq_self]) <;> (first | omega | decide)))) | (with_reducible refine e_t ?_ ?_; · (first | omega | ((try simp (disch := omega) only [w32_eq, w64_eq, ix_n, ix_e, sto_n, sto_e, sto_r, zf_r, Int.toNat_natCast, true_or, or_true, eq_self]) <;> (first | omega | decide)))) | (with_reducible refine e_f ?_ ?_; · (first | omega | ((try simp (disch := omega) only [w32_eq, w64_eq, ix_n, ix_e, sto_n, sto_e, sto_r, zf_r, Int.toNat_natCast, true_or, or_true, eq_self]) <;> (first | omega | decide)))) | (with_reducible refine e_ct ?_ ?_; · (first | omega | ((try simp (disch := omega) only [w32_eq, w64_eq, ix_n, ix_e, sto_n, sto_e, sto_r, zf_r, Int.toNat_natCast, true_or, or_true, eq_self]) <;> (first | omega | decide)))) | (with_reducible refine e_cf ?_ ?_; · (first | omega | ((try simp (disch := omega) only [w32_eq, w64_eq, ix_n, ix_e, sto_n, sto_e, sto_r, zf_r, Int.toNat_natCast, true_or, or_true, eq_self]) <;> (first | omega | decide)))))
      rfl
    · unfold d_Mo_asksSend d_Mo_isIn
      repeat' (first | with_reducible refine e_let ?_ | with_reducible refine e_cs ?_ | with_reducible refine e_clet ?_ | with_reducible refine e_cc ?_ | (with_reducible refine e_chk ?_ ?_; · (first | omega | ((try simp (disch := omega) only [w32_eq, w64_eq, ix_n, ix_e, sto_n, sto_e, sto_r, zf_r, Int.toNat_natCast, true_or, or_true, eq_self]) <;> (first | omega | decide)))) | (with_reducible refine e_cchk ?_ ?_; · (first | omega | ((try simp (disch := omega) only [w32_eq, w64_eq, ix_n, ix_e, sto_n, sto_e, sto_r, zf_r, Int.toNat_natCast, true_or, or_true, eq_self]) <;> (first | omega | decide)))) | (with_reducible refine e_t ?_ ?_; · (first | omega | ((try simp (disch := omega) only [w32_eq, w64_eq, ix_n, ix_e, sto_n, sto_e, sto_r, zf_r, Int.toNat_natCast, true_or, or_true, eq_self]) <;> (first | omega | decide)))) | (with_reducible refine e_f ?_ ?_; · (first | omega | ((try simp (disch := omega) only [w32_eq, w64_eq, ix_n, ix_e, sto_n, sto_e, sto_r, zf_r, Int.toNat_natCast, true_or, or_true, eq_self]) <;> (first | omega | decide)))) | (with_reducible refine e_ct ?_ ?_; · (first | omega | ((try simp (disch := omega) only [w32_eq, w64_eq, ix_n, ix_e, sto_n, sto_e, sto_r, zf_r, Int.toNat_natCast, true_or, or_true, eq_self]) <;> (first | omega | decide)))) | (with_reducible refine e_cf ?_ ?_; · (first | omega | ((try simp (disch := omega) only [w32_eq, w64_eq, ix_n, ix_e, sto_n, sto_e, sto_r, zf_r, Int.toNat_natCast, true_or, or_true, eq_self]) <;> (first | omega | decide)))) | ((with_reducible refine e_sp (fun h => ?_) (fun h => ?_)) <;> (try simp (disch := omega) only [w32_eq, w64_eq, ix_n, ix_e, sto_n, sto_e, sto_r, zf_r, Int.toNat_natCast] at h)) | ((with_reducible refine e_csp (fun h => ?_) (fun h => ?_)) <;> (try simp (disch := omega) only [w32_eq, w64_eq, ix_n, ix_e, sto_n, sto_e, sto_r, zf_r, Int.toNat_natCast] at h)))
      all_goals first | with_reducible rfl | (exfalso; omega) | skip
  rw [if_neg (by omega)] at hst
  by_cases c3 : (1 ≤ a2 ∧ a2 ≤ 5) ∧ (1 ≤ a4 ∧ a4 ≤ 4)
  rotate_left
  · refine sim_no (code := 5) (r := -1) (c_send_no ?_ (by decide)) (r_send_no ?_ (by decide)) trivial
    · unfold d_PP_statusOfSend d_PP_isIn
      refine e_call hst ?_
      repeat' (first | with_reducible refine e_let ?_ | with_reducible refine e_cs ?_ | with_reducible refine e_clet ?_ | with_reducible refine e_cc ?_ | (with_reducible refine e_chk ?_ ?_; · (first | omega | ((try simp (disch := omega) only [w32_eq, w64_eq, ix_n, ix_e, sto_n, sto_e, sto_r, zf_r, Int.toNat_natCast, true_or, or_true, eq_self]) <;> (first | omega | decide)))) | (with_reducible refine e_cchk ?_ ?_; · (first | omega | ((try simp (disch := omega) only [w32_eq, w64_eq, ix_n, ix_e, sto_n, sto_e, sto_r, zf_r, Int.toNat_natCast, true_or, or_true, eq_self]) <;> (first | omega | decide)))) | (with_reducible refine e_t ?_ ?_; · (first | omega | ((try simp (disch := omega) only [w32_eq, w64_eq, ix_n, ix_e, sto_n, sto_e, sto_r, zf_r, Int.toNat_natCast, true_or, or_true, eq_self]) <;> (first | omega | decide)))) | (with_reducible refine e_f ?_ ?_; · (first | omega | ((try simp (disch := omega) only [w32_eq, w64_eq, ix_n, ix_e, sto_n, sto_e, sto_r, zf_r, Int.toNat_natCast, true_or, or_true, eq_self]) <;> (first | omega | decide)))) | (with_reducible refine e_ct ?_ ?_; · (first | omega | ((try simp (disch := omega) only [w32_eq, w64_eq, ix_n, ix_e, sto_n, sto_e, sto_r, zf_r, Int.toNat_natCast, true_or, or_true, eq_self]) <;> (first | omega | decide)))) | (with_reducible refine e_cf ?_ ?_; · (first | omega | ((try simp (disch := omega) only [w32_eq, w64_eq, ix_n, ix_e, sto_n, sto_e, sto_r, zf_r, Int.toNat_natCast, true_or, or_true, eq_self]) <;> (first | omega | decide)))) | ((with_reducible refine e_sp (fun h => ?_) (fun h => ?_)) <;> (try simp (disch := omega) only [w32_eq, w64_eq, ix_n, ix_e, sto_n, sto_e, sto_r, zf_r, Int.toNat_natCast] at h)) | ((with_reducible refine e_csp (fun h => ?_) (fun h => ?_)) <;> (try simp (disch := omega) only [w32_eq, w64_eq, ix_n, ix_e, sto_n, sto_e, sto_r, zf_r, Int.toNat_natCast] at h)))
      all_goals first | with_reducible rfl | (exfalso; omega) | skip
    · unfold d_Mo_asksSend d_Mo_isIn
      repeat' (first | with_reducible refine e_let ?_ | with_reducible refine e_cs ?_ | with_reducible refine e_clet ?_ | with_reducible refine e_cc ?_ | (with_reducible refine e_chk ?_ ?_; · (first | omega | ((try simp (disch := omega) only [w32_eq, w64_eq, ix_n, ix_e, sto_n, sto_e, sto_r, zf_r, Int.toNat_natCast, true_or, or_true, eq_self]) <;> (first | omega | decide)))) | (with_reducible refine e_cchk ?_ ?_; · (first | omega | ((try simp (disch := omega) only [w32_eq, w64_eq, ix_n, ix_e, sto_n, sto_e, sto_r, zf_r, Int.toNat_natCast, true_or, or_true, eq_self]) <;> (first | omega | decide)))) | (with_reducible refine e_t ?_ ?_; · (first | omega | ((try simp (disch := omega) only [w32_eq, w64_eq, ix_n, ix_e, sto_n, sto_e, sto_r, zf_r, Int.toNat_natCast, true_or, or_true, eq_self]) <;> (first | omega | decide)))) | (with_reducible refine e_f ?_ ?_; · (first | omega | ((try simp (disch := omega) only [w32_eq, w64_eq, ix_n, ix_e, sto_n, sto_e, sto_r, zf_r, Int.toNat_natCast, true_or, or_true, eq_self]) <;> (first | omega | decide)))) | (with_reducible refine e_ct ?_ ?_; · (first | omega | ((try simp (disch := omega) only [w32_eq, w64_eq, ix_n, ix_e, sto_n, sto_e, sto_r, zf_r, Int.toNat_natCast, true_or, or_true, eq_self]) <;> (first | omega | decide)))) | (with_reducible refine e_cf ?_ ?_; · (first | omega | ((try simp (disch := omega) only [w32_eq, w64_eq, ix_n, ix_e, sto_n, sto_e, sto_r, zf_r, Int.toNat_natCast, true_or, or_true, eq_self]) <;> (first | omega | decide)))) | ((with_reducible refine e_sp (fun h => ?_) (fun h => ?_)) <;> (try simp (disch := omega) only [w32_eq, w64_eq, ix_n, ix_e, sto_n, sto_e, sto_r, zf_r, Int.toNat_natCast] at h)) | ((with_reducible refine e_csp (fun h => ?_) (fun h => ?_)) <;> (try simp (disch := omega) only [w32_eq, w64_eq, ix_n, ix_e, sto_n, sto_e, sto_r, zf_r, Int.toNat_natCast] at h)))
      all_goals first | with_reducible rfl | (exfalso; omega) | skip
  obtain ⟨m, rfl⟩ : ∃ n : Nat, a2 = (n : Int) := ⟨a2.toNat, by omega⟩
  obtain ⟨r, rfl⟩ : ∃ n : Nat, a4 = (n : Int) := ⟨a4.toNat, by omega⟩
  have hmr : m ≤ 5 ∧ r ≤ 4 := by omega
  have b1 : m * r ≤ 5 * 4 := Nat.mul_le_mul hmr.1 hmr.2
  have em : (m : Int) * (r : Int) = ((m * r : Nat) : Int) := by push_cast; rfl
  generalize hmm : m * r = mr at *
  by_cases c4 : (m : Int) ≤ M 113 t1 ∧ (r : Int) ≤ M 113 t3 ∧ (mr : Int) ≤ M 113 t5
  rotate_left
  · refine sim_no (code := 4) (r := -1) (c_send_no ?_ (by decide)) (r_send_no ?_ (by decide)) trivial
    · unfold d_PP_statusOfSend d_PP_isIn
      rw [em]
      refine e_call hst ?_
      repeat' (first | with_reducible refine e_let ?_ | with_reducible refine e_cs ?_ | with_reducible refine e_clet ?_ | with_reducible refine e_cc ?_ | (with_reducible refine e_chk ?_ ?_; · (first | omega | ((try simp (disch := omega) only [w32_eq, w64_eq, ix_n, ix_e, sto_n, sto_e, sto_r, zf_r, Int.toNat_natCast, true_or, or_true, eq_self, m1.1, m3.1, m5.1]) <;> (first | omega | decide)))) | (with_reducible refine e_cchk ?_ ?_; · (first | omega | ((try simp (disch := omega) only [w32_eq, w64_eq, ix_n, ix_e, sto_n, sto_e, sto_r, zf_r, Int.toNat_natCast, true_or, or_true, eq_self, m1.1, m3.1, m5.1]) <;> (first | omega | decide)))) | (with_reducible refine e_t ?_ ?_; · (first | omega | ((try simp (disch := omega) only [w32_eq, w64_eq, ix_n, ix_e, sto_n, sto_e, sto_r, zf_r, Int.toNat_natCast, true_or, or_true, eq_self, m1.1, m3.1, m5.1]) <;> (first | omega | decide)))) | (with_reducible refine e_f ?_ ?_; · (first | omega | ((try simp (disch := omega) only [w32_eq, w64_eq, ix_n, ix_e, sto_n, sto_e, sto_r, zf_r, Int.toNat_natCast, true_or, or_true, eq_self, m1.1, m3.1, m5.1]) <;> (first | omega | decide)))) | (with_reducible refine e_ct ?_ ?_; · (first | omega | ((try simp (disch := omega) only [w32_eq, w64_eq, ix_n, ix_e, sto_n, sto_e, sto_r, zf_r, Int.toNat_natCast, true_or, or_true, eq_self, m1.1, m3.1, m5.1]) <;> (first | omega | decide)))) | (with_reducible refine e_cf ?_ ?_; · (first | omega | ((try simp (disch := omega) only [w32_eq, w64_eq, ix_n, ix_e, sto_n, sto_e, sto_r, zf_r, Int.toNat_natCast, true_or, or_true, eq_self, m1.1, m3.1, m5.1]) <;> (first | omega | decide)))) | ((with_reducible refine e_sp (fun h => ?_) (fun h => ?_)) <;> (try simp (disch := omega) only [w32_eq, w64_eq, ix_n, ix_e, sto_n, sto_e, sto_r, zf_r, Int.toNat_natCast, m1.1, m3.1, m5.1] at h)) | ((with_reducible refine e_csp (fun h => ?_) (fun h => ?_)) <;> (try simp (disch := omega) only [w32_eq, w64_eq, ix_n, ix_e, sto_n, sto_e, sto_r, zf_r, Int.toNat_natCast, m1.1, m3.1, m5.1] at h)))
      all_goals first | with_reducible rfl | (exfalso; omega) | skip
    · unfold d_Mo_asksSend d_Mo_isIn
      rw [em]
      repeat' (first | with_reducible refine e_let ?_ | with_reducible refine e_cs ?_ | with_reducible refine e_clet ?_ | with_reducible refine e_cc ?_ | (with_reducible refine e_chk ?_ ?_; · (first | omega | ((try simp (disch := omega) only [w32_eq, w64_eq, ix_n, ix_e, sto_n, sto_e, sto_r, zf_r, Int.toNat_natCast, true_or, or_true, eq_self]) <;> (first | omega | decide)))) | (with_reducible refine e_cchk ?_ ?_; · (first | omega | ((try simp (disch := omega) only [w32_eq, w64_eq, ix_n, ix_e, sto_n, sto_e, sto_r, zf_r, Int.toNat_natCast, true_or, or_true, eq_self]) <;> (first | omega | decide)))) | (with_reducible refine e_t ?_ ?_; · (first | omega | ((try simp (disch := omega) only [w32_eq, w64_eq, ix_n, ix_e, sto_n, sto_e, sto_r, zf_r, Int.toNat_natCast, true_or, or_true, eq_self]) <;> (first | omega | decide)))) | (with_reducible refine e_f ?_ ?_; · (first | omega | ((try simp (disch := omega) only [w32_eq, w64_eq, ix_n, ix_e, sto_n, sto_e, sto_r, zf_r, Int.toNat_natCast, true_or, or_true, eq_self]) <;> (first | omega | decide)))) | (with_reducible refine e_ct ?_ ?_; · (first | omega | ((try simp (disch := omega) only [w32_eq, w64_eq, ix_n, ix_e, sto_n, sto_e, sto_r, zf_r, Int.toNat_natCast, true_or, or_true, eq_self]) <;> (first | omega | decide)))) | (with_reducible refine e_cf ?_ ?_; · (first | omega | ((try simp (disch := omega) only [w32_eq, w64_eq, ix_n, ix_e, sto_n, sto_e, sto_r, zf_r, Int.toNat_natCast, true_or, or_true, eq_self]) <;> (first | omega | decide)))) | ((with_reducible refine e_sp (fun h => ?_) (fun h => ?_)) <;> (try simp (disch := omega) only [w32_eq, w64_eq, ix_n, ix_e, sto_n, sto_e, sto_r, zf_r, Int.toNat_natCast] at h)) | ((with_reducible refine e_csp (fun h => ?_) (fun h => ?_)) <;> (try simp (disch := omega) only [w32_eq, w64_eq, ix_n, ix_e, sto_n, sto_e, sto_r, zf_r, Int.toNat_natCast] at h)))
      all_goals first | with_reducible rfl | (exfalso; omega) | skip
  have hv4 : ∀ t k : Nat, t < 4 → k < 40 → M 4 (40 * t + k) = M 114 (40 * t + k) := fun t k ht hk => hT2 _ (by omega)
  have ar := fun (t n : Nat) (hi : Int) (ht : t < 4) (hn : n ≤ 40) (hh : 0 ≤ hi ∧ hi ≤ 1000) => s_areIn (a := t) (n := n) (lo := 0) (hi := hi) (M := M) ht hn (by omega) (by omega) (fun k hk => by rw [hv4 t k ht (by omega)]; exact hN _ (by omega))
  have A1 := ar t1 m 30 (by omega) (by omega) (by omega)
  have A3 := ar t3 r 30 (by omega) (by omega) (by omega)
  have A5 := ar t5 mr 100 (by omega) (by omega) (by omega)
  have cg : ∀ (t n : Nat) (hi : Int), t < 4 → n ≤ 40 → ((∀ k, k < n → 0 ≤ M 4 (40 * t + k) ∧ M 4 (40 * t + k) ≤ hi) ↔ ∀ k, k < n → 0 ≤ M 114 (40 * t + k) ∧ M 114 (40 * t + k) ≤ hi) := fun t n hi ht hn => ⟨fun h k hk => by rw [← hv4 t k ht (by omega)]; exact h k hk, fun h k hk => by rw [hv4 t k ht (by omega)]; exact h k hk⟩
  have T1 := s_totalOf (a := t1) (n := m) (M := M) (by omega) (by omega)
  have T3 := s_totalOf (a := t3) (n := r) (M := M) (by omega) (by omega)
  have es1 : sm (fun k => M 4 (40 * t1 + k)) m = sm (fun k => M 114 (40 * t1 + k)) m := sm_ext m (fun k hk => hv4 t1 k (by omega) (by omega))
  have es3 : sm (fun k => M 4 (40 * t3 + k)) r = sm (fun k => M 114 (40 * t3 + k)) r := sm_ext r (fun k hk => hv4 t3 k (by omega) (by omega))
  -- what the model asks ends as the component's
  have ask : ∀ (X : Mem) (R : Res), X 113 = M 113 → fix (fun _ _ _ _ _ _ _ => none) k_Mo_asksSend_136 FU (t1 : Int) (m : Int) (t3 : Int) (r : Int) (t5 : Int) 0 X = R → d_Mo_asksSend (t1 : Int) (m : Int) (t3 : Int) (r : Int) (t5 : Int) X = R := fun X R hX h => by
    unfold d_Mo_asksSend d_Mo_isIn
    rw [em]
    repeat (first | with_reducible refine e_let ?_ | with_reducible refine e_cs ?_ | with_reducible refine e_clet ?_ | with_reducible refine e_cc ?_ | (with_reducible refine e_chk ?_ ?_; · (first | omega | ((try simp (disch := omega) only [w32_eq, w64_eq, ix_n, ix_e, sto_n, sto_e, sto_r, zf_r, Int.toNat_natCast, true_or, or_true, eq_self, hX]) <;> (first | omega | decide)))) | (with_reducible refine e_cchk ?_ ?_; · (first | omega | ((try simp (disch := omega) only [w32_eq, w64_eq, ix_n, ix_e, sto_n, sto_e, sto_r, zf_r, Int.toNat_natCast, true_or, or_true, eq_self, hX]) <;> (first | omega | decide)))) | (with_reducible refine e_t ?_ ?_; · (first | omega | ((try simp (disch := omega) only [w32_eq, w64_eq, ix_n, ix_e, sto_n, sto_e, sto_r, zf_r, Int.toNat_natCast, true_or, or_true, eq_self, hX]) <;> (first | omega | decide)))) | (with_reducible refine e_f ?_ ?_; · (first | omega | ((try simp (disch := omega) only [w32_eq, w64_eq, ix_n, ix_e, sto_n, sto_e, sto_r, zf_r, Int.toNat_natCast, true_or, or_true, eq_self, hX]) <;> (first | omega | decide)))) | (with_reducible refine e_ct ?_ ?_; · (first | omega | ((try simp (disch := omega) only [w32_eq, w64_eq, ix_n, ix_e, sto_n, sto_e, sto_r, zf_r, Int.toNat_natCast, true_or, or_true, eq_self, hX]) <;> (first | omega | decide)))) | (with_reducible refine e_cf ?_ ?_; · (first | omega | ((try simp (disch := omega) only [w32_eq, w64_eq, ix_n, ix_e, sto_n, sto_e, sto_r, zf_r, Int.toNat_natCast, true_or, or_true, eq_self, hX]) <;> (first | omega | decide)))))
    exact h
  by_cases b5 : (∀ k, k < m → 0 ≤ M 114 (40 * t1 + k) ∧ M 114 (40 * t1 + k) ≤ 30) ∧ (∀ k, k < r → 0 ≤ M 114 (40 * t3 + k) ∧ M 114 (40 * t3 + k) ≤ 30) ∧ ∀ k, k < mr → 0 ≤ M 114 (40 * t5 + k) ∧ M 114 (40 * t5 + k) ≤ 100
  rotate_left
  · refine sim_no (code := 5) (r := -1) (c_send_no ?_ (by decide)) (r_send_no ?_ (by decide)) trivial
    · unfold d_PP_statusOfSend d_PP_isIn k_PP_statusOfSend_145 k_PP_statusOfSend_146
      rw [em]
      refine e_call hst ?_
      repeat (first | with_reducible refine e_let ?_ | with_reducible refine e_cs ?_ | with_reducible refine e_clet ?_ | with_reducible refine e_cc ?_ | (with_reducible refine e_chk ?_ ?_; · (first | omega | ((try simp (disch := omega) only [w32_eq, w64_eq, ix_n, ix_e, sto_n, sto_e, sto_r, zf_r, Int.toNat_natCast, true_or, or_true, eq_self, m1.1, m3.1, m5.1]) <;> (first | omega | decide)))) | (with_reducible refine e_cchk ?_ ?_; · (first | omega | ((try simp (disch := omega) only [w32_eq, w64_eq, ix_n, ix_e, sto_n, sto_e, sto_r, zf_r, Int.toNat_natCast, true_or, or_true, eq_self, m1.1, m3.1, m5.1]) <;> (first | omega | decide)))) | (with_reducible refine e_t ?_ ?_; · (first | omega | ((try simp (disch := omega) only [w32_eq, w64_eq, ix_n, ix_e, sto_n, sto_e, sto_r, zf_r, Int.toNat_natCast, true_or, or_true, eq_self, m1.1, m3.1, m5.1]) <;> (first | omega | decide)))) | (with_reducible refine e_f ?_ ?_; · (first | omega | ((try simp (disch := omega) only [w32_eq, w64_eq, ix_n, ix_e, sto_n, sto_e, sto_r, zf_r, Int.toNat_natCast, true_or, or_true, eq_self, m1.1, m3.1, m5.1]) <;> (first | omega | decide)))) | (with_reducible refine e_ct ?_ ?_; · (first | omega | ((try simp (disch := omega) only [w32_eq, w64_eq, ix_n, ix_e, sto_n, sto_e, sto_r, zf_r, Int.toNat_natCast, true_or, or_true, eq_self, m1.1, m3.1, m5.1]) <;> (first | omega | decide)))) | (with_reducible refine e_cf ?_ ?_; · (first | omega | ((try simp (disch := omega) only [w32_eq, w64_eq, ix_n, ix_e, sto_n, sto_e, sto_r, zf_r, Int.toNat_natCast, true_or, or_true, eq_self, m1.1, m3.1, m5.1]) <;> (first | omega | decide)))))
      refine e_call A1 ?_
      by_cases d1 : ∀ k, k < m → 0 ≤ M 114 (40 * t1 + k) ∧ M 114 (40 * t1 + k) ≤ 30
      · rw [if_neg (ai_y ((cg t1 m 30 (by omega) (by omega)).2 d1))]
        repeat (first | with_reducible refine e_let ?_ | with_reducible refine e_cs ?_ | with_reducible refine e_clet ?_ | with_reducible refine e_cc ?_ | (with_reducible refine e_chk ?_ ?_; · (first | omega | ((try simp (disch := omega) only [w32_eq, w64_eq, ix_n, ix_e, sto_n, sto_e, sto_r, zf_r, Int.toNat_natCast, true_or, or_true, eq_self]) <;> (first | omega | decide)))) | (with_reducible refine e_cchk ?_ ?_; · (first | omega | ((try simp (disch := omega) only [w32_eq, w64_eq, ix_n, ix_e, sto_n, sto_e, sto_r, zf_r, Int.toNat_natCast, true_or, or_true, eq_self]) <;> (first | omega | decide)))) | (with_reducible refine e_t ?_ ?_; · (first | omega | ((try simp (disch := omega) only [w32_eq, w64_eq, ix_n, ix_e, sto_n, sto_e, sto_r, zf_r, Int.toNat_natCast, true_or, or_true, eq_self]) <;> (first | omega | decide)))) | (with_reducible refine e_f ?_ ?_; · (first | omega | ((try simp (disch := omega) only [w32_eq, w64_eq, ix_n, ix_e, sto_n, sto_e, sto_r, zf_r, Int.toNat_natCast, true_or, or_true, eq_self]) <;> (first | omega | decide)))) | (with_reducible refine e_ct ?_ ?_; · (first | omega | ((try simp (disch := omega) only [w32_eq, w64_eq, ix_n, ix_e, sto_n, sto_e, sto_r, zf_r, Int.toNat_natCast, true_or, or_true, eq_self]) <;> (first | omega | decide)))) | (with_reducible refine e_cf ?_ ?_; · (first | omega | ((try simp (disch := omega) only [w32_eq, w64_eq, ix_n, ix_e, sto_n, sto_e, sto_r, zf_r, Int.toNat_natCast, true_or, or_true, eq_self]) <;> (first | omega | decide)))))
        refine e_call A3 ?_
        by_cases d3 : ∀ k, k < r → 0 ≤ M 114 (40 * t3 + k) ∧ M 114 (40 * t3 + k) ≤ 30
        · rw [if_neg (ai_y ((cg t3 r 30 (by omega) (by omega)).2 d3))]
          repeat (first | with_reducible refine e_let ?_ | with_reducible refine e_cs ?_ | with_reducible refine e_clet ?_ | with_reducible refine e_cc ?_ | (with_reducible refine e_chk ?_ ?_; · (first | omega | ((try simp (disch := omega) only [w32_eq, w64_eq, ix_n, ix_e, sto_n, sto_e, sto_r, zf_r, Int.toNat_natCast, true_or, or_true, eq_self]) <;> (first | omega | decide)))) | (with_reducible refine e_cchk ?_ ?_; · (first | omega | ((try simp (disch := omega) only [w32_eq, w64_eq, ix_n, ix_e, sto_n, sto_e, sto_r, zf_r, Int.toNat_natCast, true_or, or_true, eq_self]) <;> (first | omega | decide)))) | (with_reducible refine e_t ?_ ?_; · (first | omega | ((try simp (disch := omega) only [w32_eq, w64_eq, ix_n, ix_e, sto_n, sto_e, sto_r, zf_r, Int.toNat_natCast, true_or, or_true, eq_self]) <;> (first | omega | decide)))) | (with_reducible refine e_f ?_ ?_; · (first | omega | ((try simp (disch := omega) only [w32_eq, w64_eq, ix_n, ix_e, sto_n, sto_e, sto_r, zf_r, Int.toNat_natCast, true_or, or_true, eq_self]) <;> (first | omega | decide)))) | (with_reducible refine e_ct ?_ ?_; · (first | omega | ((try simp (disch := omega) only [w32_eq, w64_eq, ix_n, ix_e, sto_n, sto_e, sto_r, zf_r, Int.toNat_natCast, true_or, or_true, eq_self]) <;> (first | omega | decide)))) | (with_reducible refine e_cf ?_ ?_; · (first | omega | ((try simp (disch := omega) only [w32_eq, w64_eq, ix_n, ix_e, sto_n, sto_e, sto_r, zf_r, Int.toNat_natCast, true_or, or_true, eq_self]) <;> (first | omega | decide)))))
          refine e_call A5 ?_
          rw [if_pos (ai_n (fun h => b5 ⟨d1, d3, (cg t5 mr 100 (by omega) (by omega)).1 h⟩))]
          repeat (first | with_reducible refine e_let ?_ | with_reducible refine e_cs ?_ | with_reducible refine e_clet ?_ | with_reducible refine e_cc ?_ | (with_reducible refine e_chk ?_ ?_; · (first | omega | ((try simp (disch := omega) only [w32_eq, w64_eq, ix_n, ix_e, sto_n, sto_e, sto_r, zf_r, Int.toNat_natCast, true_or, or_true, eq_self]) <;> (first | omega | decide)))) | (with_reducible refine e_cchk ?_ ?_; · (first | omega | ((try simp (disch := omega) only [w32_eq, w64_eq, ix_n, ix_e, sto_n, sto_e, sto_r, zf_r, Int.toNat_natCast, true_or, or_true, eq_self]) <;> (first | omega | decide)))) | (with_reducible refine e_t ?_ ?_; · (first | omega | ((try simp (disch := omega) only [w32_eq, w64_eq, ix_n, ix_e, sto_n, sto_e, sto_r, zf_r, Int.toNat_natCast, true_or, or_true, eq_self]) <;> (first | omega | decide)))) | (with_reducible refine e_f ?_ ?_; · (first | omega | ((try simp (disch := omega) only [w32_eq, w64_eq, ix_n, ix_e, sto_n, sto_e, sto_r, zf_r, Int.toNat_natCast, true_or, or_true, eq_self]) <;> (first | omega | decide)))) | (with_reducible refine e_ct ?_ ?_; · (first | omega | ((try simp (disch := omega) only [w32_eq, w64_eq, ix_n, ix_e, sto_n, sto_e, sto_r, zf_r, Int.toNat_natCast, true_or, or_true, eq_self]) <;> (first | omega | decide)))) | (with_reducible refine e_cf ?_ ?_; · (first | omega | ((try simp (disch := omega) only [w32_eq, w64_eq, ix_n, ix_e, sto_n, sto_e, sto_r, zf_r, Int.toNat_natCast, true_or, or_true, eq_self]) <;> (first | omega | decide)))))
          rfl
        · rw [if_pos (ai_n (fun h => d3 ((cg t3 r 30 (by omega) (by omega)).1 h)))]
          repeat (first | with_reducible refine e_let ?_ | with_reducible refine e_cs ?_ | with_reducible refine e_clet ?_ | with_reducible refine e_cc ?_ | (with_reducible refine e_chk ?_ ?_; · (first | omega | ((try simp (disch := omega) only [w32_eq, w64_eq, ix_n, ix_e, sto_n, sto_e, sto_r, zf_r, Int.toNat_natCast, true_or, or_true, eq_self]) <;> (first | omega | decide)))) | (with_reducible refine e_cchk ?_ ?_; · (first | omega | ((try simp (disch := omega) only [w32_eq, w64_eq, ix_n, ix_e, sto_n, sto_e, sto_r, zf_r, Int.toNat_natCast, true_or, or_true, eq_self]) <;> (first | omega | decide)))) | (with_reducible refine e_t ?_ ?_; · (first | omega | ((try simp (disch := omega) only [w32_eq, w64_eq, ix_n, ix_e, sto_n, sto_e, sto_r, zf_r, Int.toNat_natCast, true_or, or_true, eq_self]) <;> (first | omega | decide)))) | (with_reducible refine e_f ?_ ?_; · (first | omega | ((try simp (disch := omega) only [w32_eq, w64_eq, ix_n, ix_e, sto_n, sto_e, sto_r, zf_r, Int.toNat_natCast, true_or, or_true, eq_self]) <;> (first | omega | decide)))) | (with_reducible refine e_ct ?_ ?_; · (first | omega | ((try simp (disch := omega) only [w32_eq, w64_eq, ix_n, ix_e, sto_n, sto_e, sto_r, zf_r, Int.toNat_natCast, true_or, or_true, eq_self]) <;> (first | omega | decide)))) | (with_reducible refine e_cf ?_ ?_; · (first | omega | ((try simp (disch := omega) only [w32_eq, w64_eq, ix_n, ix_e, sto_n, sto_e, sto_r, zf_r, Int.toNat_natCast, true_or, or_true, eq_self]) <;> (first | omega | decide)))))
          rfl
      · rw [if_pos (ai_n (fun h => d1 ((cg t1 m 30 (by omega) (by omega)).1 h)))]
        repeat (first | with_reducible refine e_let ?_ | with_reducible refine e_cs ?_ | with_reducible refine e_clet ?_ | with_reducible refine e_cc ?_ | (with_reducible refine e_chk ?_ ?_; · (first | omega | ((try simp (disch := omega) only [w32_eq, w64_eq, ix_n, ix_e, sto_n, sto_e, sto_r, zf_r, Int.toNat_natCast, true_or, or_true, eq_self]) <;> (first | omega | decide)))) | (with_reducible refine e_cchk ?_ ?_; · (first | omega | ((try simp (disch := omega) only [w32_eq, w64_eq, ix_n, ix_e, sto_n, sto_e, sto_r, zf_r, Int.toNat_natCast, true_or, or_true, eq_self]) <;> (first | omega | decide)))) | (with_reducible refine e_t ?_ ?_; · (first | omega | ((try simp (disch := omega) only [w32_eq, w64_eq, ix_n, ix_e, sto_n, sto_e, sto_r, zf_r, Int.toNat_natCast, true_or, or_true, eq_self]) <;> (first | omega | decide)))) | (with_reducible refine e_f ?_ ?_; · (first | omega | ((try simp (disch := omega) only [w32_eq, w64_eq, ix_n, ix_e, sto_n, sto_e, sto_r, zf_r, Int.toNat_natCast, true_or, or_true, eq_self]) <;> (first | omega | decide)))) | (with_reducible refine e_ct ?_ ?_; · (first | omega | ((try simp (disch := omega) only [w32_eq, w64_eq, ix_n, ix_e, sto_n, sto_e, sto_r, zf_r, Int.toNat_natCast, true_or, or_true, eq_self]) <;> (first | omega | decide)))) | (with_reducible refine e_cf ?_ ?_; · (first | omega | ((try simp (disch := omega) only [w32_eq, w64_eq, ix_n, ix_e, sto_n, sto_e, sto_r, zf_r, Int.toNat_natCast, true_or, or_true, eq_self]) <;> (first | omega | decide)))))
        rfl
    · have x114 : sto (sto M 0 0 5) 111 1 0 114 = M 114 := by rw [sto_r (by decide), sto_r (by decide)]
      have xN : IvN (sto (sto M 0 0 5) 111 1 0) := by unfold IvN; rw [x114]; exact hN
      refine ask _ _ (by rw [sto_r (by decide), sto_r (by decide)]) ?_
      refine l_as136 xN hmr (by omega) (fun d1 => ?_) (fun _ => rfl) m FU 0 (by omega) (by unfold FU; omega) (fun k hk => by omega)
      refine l_as170 xN hmr (by omega) (fun d3 => ?_) (fun _ => rfl) r FU 0 (by omega) (by unfold FU; omega) (fun k hk => by omega)
      refine l_as205 xN hmr (by omega) (fun d5 => ?_) (fun _ => rfl) (m * r) FU 0 (by omega) (by unfold FU; omega) (fun k hk => by omega)
      rw [x114] at d1 d3 d5
      rw [hmm] at d5
      exact absurd ⟨d1, d3, d5⟩ b5
  obtain ⟨d1, d3, d5⟩ := b5
  rw [if_neg (ai_y ((cg t1 m 30 (by omega) (by omega)).2 d1))] at A1
  rw [if_neg (ai_y ((cg t3 r 30 (by omega) (by omega)).2 d3))] at A3
  rw [if_neg (ai_y ((cg t5 mr 100 (by omega) (by omega)).2 d5))] at A5
  rw [es1] at T1
  rw [es3] at T3
  have z1 := sm_nn (w := fun k => M 114 (40 * t1 + k)) m (fun k hk => (d1 k hk).1)
  have z1' := sm_b (w := fun k => M 114 (40 * t1 + k)) (c := 30) m (fun k hk => (d1 k hk).2)
  have z3 := sm_nn (w := fun k => M 114 (40 * t3 + k)) r (fun k hk => (d3 k hk).1)
  have z3' := sm_b (w := fun k => M 114 (40 * t3 + k)) (c := 30) r (fun k hk => (d3 k hk).2)
  have hcs : d_PP_statusOfSend (t1 : Int) (m : Int) (t3 : Int) (r : Int) (t5 : Int) M = some (if sm (fun k => M 114 (40 * t1 + k)) m < sm (fun k => M 114 (40 * t3 + k)) r then 9 else 0, M) := by
    unfold d_PP_statusOfSend d_PP_isIn k_PP_statusOfSend_146
    rw [em]
    refine e_call hst ?_
    repeat (first | with_reducible refine e_let ?_ | with_reducible refine e_cs ?_ | with_reducible refine e_clet ?_ | with_reducible refine e_cc ?_ | (with_reducible refine e_chk ?_ ?_; · (first | omega | ((try simp (disch := omega) only [w32_eq, w64_eq, ix_n, ix_e, sto_n, sto_e, sto_r, zf_r, Int.toNat_natCast, true_or, or_true, eq_self, m1.1, m3.1, m5.1]) <;> (first | omega | decide)))) | (with_reducible refine e_cchk ?_ ?_; · (first | omega | ((try simp (disch := omega) only [w32_eq, w64_eq, ix_n, ix_e, sto_n, sto_e, sto_r, zf_r, Int.toNat_natCast, true_or, or_true, eq_self, m1.1, m3.1, m5.1]) <;> (first | omega | decide)))) | (with_reducible refine e_t ?_ ?_; · (first | omega | ((try simp (disch := omega) only [w32_eq, w64_eq, ix_n, ix_e, sto_n, sto_e, sto_r, zf_r, Int.toNat_natCast, true_or, or_true, eq_self, m1.1, m3.1, m5.1]) <;> (first | omega | decide)))) | (with_reducible refine e_f ?_ ?_; · (first | omega | ((try simp (disch := omega) only [w32_eq, w64_eq, ix_n, ix_e, sto_n, sto_e, sto_r, zf_r, Int.toNat_natCast, true_or, or_true, eq_self, m1.1, m3.1, m5.1]) <;> (first | omega | decide)))) | (with_reducible refine e_ct ?_ ?_; · (first | omega | ((try simp (disch := omega) only [w32_eq, w64_eq, ix_n, ix_e, sto_n, sto_e, sto_r, zf_r, Int.toNat_natCast, true_or, or_true, eq_self, m1.1, m3.1, m5.1]) <;> (first | omega | decide)))) | (with_reducible refine e_cf ?_ ?_; · (first | omega | ((try simp (disch := omega) only [w32_eq, w64_eq, ix_n, ix_e, sto_n, sto_e, sto_r, zf_r, Int.toNat_natCast, true_or, or_true, eq_self, m1.1, m3.1, m5.1]) <;> (first | omega | decide)))))
    refine e_call A1 ?_
    repeat (first | with_reducible refine e_let ?_ | with_reducible refine e_cs ?_ | with_reducible refine e_clet ?_ | with_reducible refine e_cc ?_ | (with_reducible refine e_chk ?_ ?_; · (first | omega | ((try simp (disch := omega) only [w32_eq, w64_eq, ix_n, ix_e, sto_n, sto_e, sto_r, zf_r, Int.toNat_natCast, true_or, or_true, eq_self]) <;> (first | omega | decide)))) | (with_reducible refine e_cchk ?_ ?_; · (first | omega | ((try simp (disch := omega) only [w32_eq, w64_eq, ix_n, ix_e, sto_n, sto_e, sto_r, zf_r, Int.toNat_natCast, true_or, or_true, eq_self]) <;> (first | omega | decide)))) | (with_reducible refine e_t ?_ ?_; · (first | omega | ((try simp (disch := omega) only [w32_eq, w64_eq, ix_n, ix_e, sto_n, sto_e, sto_r, zf_r, Int.toNat_natCast, true_or, or_true, eq_self]) <;> (first | omega | decide)))) | (with_reducible refine e_f ?_ ?_; · (first | omega | ((try simp (disch := omega) only [w32_eq, w64_eq, ix_n, ix_e, sto_n, sto_e, sto_r, zf_r, Int.toNat_natCast, true_or, or_true, eq_self]) <;> (first | omega | decide)))) | (with_reducible refine e_ct ?_ ?_; · (first | omega | ((try simp (disch := omega) only [w32_eq, w64_eq, ix_n, ix_e, sto_n, sto_e, sto_r, zf_r, Int.toNat_natCast, true_or, or_true, eq_self]) <;> (first | omega | decide)))) | (with_reducible refine e_cf ?_ ?_; · (first | omega | ((try simp (disch := omega) only [w32_eq, w64_eq, ix_n, ix_e, sto_n, sto_e, sto_r, zf_r, Int.toNat_natCast, true_or, or_true, eq_self]) <;> (first | omega | decide)))))
    refine e_call A3 ?_
    repeat (first | with_reducible refine e_let ?_ | with_reducible refine e_cs ?_ | with_reducible refine e_clet ?_ | with_reducible refine e_cc ?_ | (with_reducible refine e_chk ?_ ?_; · (first | omega | ((try simp (disch := omega) only [w32_eq, w64_eq, ix_n, ix_e, sto_n, sto_e, sto_r, zf_r, Int.toNat_natCast, true_or, or_true, eq_self]) <;> (first | omega | decide)))) | (with_reducible refine e_cchk ?_ ?_; · (first | omega | ((try simp (disch := omega) only [w32_eq, w64_eq, ix_n, ix_e, sto_n, sto_e, sto_r, zf_r, Int.toNat_natCast, true_or, or_true, eq_self]) <;> (first | omega | decide)))) | (with_reducible refine e_t ?_ ?_; · (first | omega | ((try simp (disch := omega) only [w32_eq, w64_eq, ix_n, ix_e, sto_n, sto_e, sto_r, zf_r, Int.toNat_natCast, true_or, or_true, eq_self]) <;> (first | omega | decide)))) | (with_reducible refine e_f ?_ ?_; · (first | omega | ((try simp (disch := omega) only [w32_eq, w64_eq, ix_n, ix_e, sto_n, sto_e, sto_r, zf_r, Int.toNat_natCast, true_or, or_true, eq_self]) <;> (first | omega | decide)))) | (with_reducible refine e_ct ?_ ?_; · (first | omega | ((try simp (disch := omega) only [w32_eq, w64_eq, ix_n, ix_e, sto_n, sto_e, sto_r, zf_r, Int.toNat_natCast, true_or, or_true, eq_self]) <;> (first | omega | decide)))) | (with_reducible refine e_cf ?_ ?_; · (first | omega | ((try simp (disch := omega) only [w32_eq, w64_eq, ix_n, ix_e, sto_n, sto_e, sto_r, zf_r, Int.toNat_natCast, true_or, or_true, eq_self]) <;> (first | omega | decide)))))
    refine e_call A5 ?_
    repeat (first | with_reducible refine e_let ?_ | with_reducible refine e_cs ?_ | with_reducible refine e_clet ?_ | with_reducible refine e_cc ?_ | (with_reducible refine e_chk ?_ ?_; · (first | omega | ((try simp (disch := omega) only [w32_eq, w64_eq, ix_n, ix_e, sto_n, sto_e, sto_r, zf_r, Int.toNat_natCast, true_or, or_true, eq_self]) <;> (first | omega | decide)))) | (with_reducible refine e_cchk ?_ ?_; · (first | omega | ((try simp (disch := omega) only [w32_eq, w64_eq, ix_n, ix_e, sto_n, sto_e, sto_r, zf_r, Int.toNat_natCast, true_or, or_true, eq_self]) <;> (first | omega | decide)))) | (with_reducible refine e_t ?_ ?_; · (first | omega | ((try simp (disch := omega) only [w32_eq, w64_eq, ix_n, ix_e, sto_n, sto_e, sto_r, zf_r, Int.toNat_natCast, true_or, or_true, eq_self]) <;> (first | omega | decide)))) | (with_reducible refine e_f ?_ ?_; · (first | omega | ((try simp (disch := omega) only [w32_eq, w64_eq, ix_n, ix_e, sto_n, sto_e, sto_r, zf_r, Int.toNat_natCast, true_or, or_true, eq_self]) <;> (first | omega | decide)))) | (with_reducible refine e_ct ?_ ?_; · (first | omega | ((try simp (disch := omega) only [w32_eq, w64_eq, ix_n, ix_e, sto_n, sto_e, sto_r, zf_r, Int.toNat_natCast, true_or, or_true, eq_self]) <;> (first | omega | decide)))) | (with_reducible refine e_cf ?_ ?_; · (first | omega | ((try simp (disch := omega) only [w32_eq, w64_eq, ix_n, ix_e, sto_n, sto_e, sto_r, zf_r, Int.toNat_natCast, true_or, or_true, eq_self]) <;> (first | omega | decide)))))
    refine e_call T1 (e_call T3 ?_)
    by_cases c : sm (fun k => M 114 (40 * t1 + k)) m < sm (fun k => M 114 (40 * t3 + k)) r
    · rw [if_pos c]
      exact e_t (by rw [w64_eq (by omega) (by omega), w64_eq (by omega) (by omega)]; exact c) rfl
    · rw [if_neg c]
      exact e_f (by rw [w64_eq (by omega) (by omega), w64_eq (by omega) (by omega)]; exact c) rfl
  have hrs : ∀ X : Mem, X 113 = M 113 → X 114 = M 114 → d_Mo_asksSend (t1 : Int) (m : Int) (t3 : Int) (r : Int) (t5 : Int) X = some (if sm (fun k => M 114 (40 * t1 + k)) m < sm (fun k => M 114 (40 * t3 + k)) r then 9 else 0, X) := by
    intro X x113 x114
    have xN : IvN X := by unfold IvN; rw [x114]; exact hN
    refine ask X _ x113 ?_
    refine l_as136 xN hmr (by omega) (fun _ => ?_) (fun q => absurd (by rw [x114]; exact d1) q) m FU 0 (by omega) (by unfold FU; omega) (fun k hk => by omega)
    refine l_as170 xN hmr (by omega) (fun _ => ?_) (fun q => absurd (by rw [x114]; exact d3) q) r FU 0 (by omega) (by unfold FU; omega) (fun k hk => by omega)
    refine l_as205 xN hmr (by omega) (fun _ => ?_) (fun q => absurd (by rw [x114, hmm]; exact d5) q) (m * r) FU 0 (by omega) (by unfold FU; omega) (fun k hk => by omega)
    have q := l_as246 (m := m) (r := r) (t1 := t1) (t3 := t3) (M := X) hmr (by omega) (by omega) (by rw [x114]; exact d1) (by rw [x114]; exact d3) m FU 0 (by omega) (by unfold FU; omega)
    rw [x114] at q
    exact q
  by_cases c6 : sm (fun k => M 114 (40 * t1 + k)) m < sm (fun k => M 114 (40 * t3 + k)) r
  · rw [if_pos c6] at hcs
    refine sim_no (code := 9) (r := -1) (c_send_no hcs (by decide)) (r_send_no ?_ (by decide)) trivial
    rw [hrs _ (by rw [sto_r (by decide), sto_r (by decide)]) (by rw [sto_r (by decide), sto_r (by decide)]), if_pos c6]
  · rw [if_neg c6] at hcs
    obtain ⟨v, M1, x1, ⟨y1, y2⟩, x3⟩ : Ok (d_PP_send (t1 : Int) (m : Int) (t3 : Int) (r : Int) (t5 : Int) M) (fun v M1 => (SnA m r (fun k => M 114 (40 * t1 + k)) (fun k => M 114 (40 * t3 + k)) (fun k => M 114 (40 * t5 + k)) v ∧ M1 0 0 = 0) ∧ Fr [67, 68, 69, 70, 71, 72, 73, 74] [(0, 0)] M M1) := by
      refine ok_fr ?_ (fun r hr => w_PP_send hr)
      unfold d_PP_send
      refine ok_call_eq hcs ?_
      repeat (first | with_reducible refine ok_let ?_ | with_reducible refine ok_cs ?_ | with_reducible refine ok_clet ?_ | with_reducible refine ok_cc ?_ | (with_reducible refine ok_chk ?_ ?_; · (first | omega | ((try simp (disch := omega) only [w32_eq, w64_eq, ix_n, ix_e, sto_n, sto_e, sto_r, zf_r, Int.toNat_natCast, true_or, or_true, eq_self]) <;> (first | omega | decide)))) | (with_reducible refine ok_cchk ?_ ?_; · (first | omega | ((try simp (disch := omega) only [w32_eq, w64_eq, ix_n, ix_e, sto_n, sto_e, sto_r, zf_r, Int.toNat_natCast, true_or, or_true, eq_self]) <;> (first | omega | decide)))) | (with_reducible refine ok_t ?_ ?_; · (first | omega | ((try simp (disch := omega) only [w32_eq, w64_eq, ix_n, ix_e, sto_n, sto_e, sto_r, zf_r, Int.toNat_natCast, true_or, or_true, eq_self]) <;> (first | omega | decide)))) | (with_reducible refine ok_f ?_ ?_; · (first | omega | ((try simp (disch := omega) only [w32_eq, w64_eq, ix_n, ix_e, sto_n, sto_e, sto_r, zf_r, Int.toNat_natCast, true_or, or_true, eq_self]) <;> (first | omega | decide)))) | (with_reducible refine ok_ct ?_ ?_; · (first | omega | ((try simp (disch := omega) only [w32_eq, w64_eq, ix_n, ix_e, sto_n, sto_e, sto_r, zf_r, Int.toNat_natCast, true_or, or_true, eq_self]) <;> (first | omega | decide)))) | (with_reducible refine ok_cf ?_ ?_; · (first | omega | ((try simp (disch := omega) only [w32_eq, w64_eq, ix_n, ix_e, sto_n, sto_e, sto_r, zf_r, Int.toNat_natCast, true_or, or_true, eq_self]) <;> (first | omega | decide)))))
      have w4 : sto M 0 0 0 4 = M 4 := sto_r (by decide)
      refine ok_mono (l_sd27 (B := sto M 0 0 0) hmr (by omega) (by omega) (by omega) (by rw [w4]; exact (cg t1 m 30 (by omega) (by omega)).2 d1) (by rw [w4]; exact (cg t3 r 30 (by omega) (by omega)).2 d3) (by rw [w4, hmm]; exact (cg t5 mr 100 (by omega) (by omega)).2 d5) (by rw [w4, es1, es3]; omega) m FU 0 _ (by omega) (by unfold FU; omega) Fr.rfl' (fun k hk => by omega)) (fun v M' h => ⟨?_, by rw [h.2, sto_e]⟩)
      rw [w4] at h
      exact SnA_c (fun b hb => hv4 t1 b (by omega) (by omega)) (fun b hb => hv4 t3 b (by omega) (by omega)) (fun b hb => hv4 t5 b (by omega) (by omega)) h.1
    have a113 := x3.c 113 (by decide) (by decide)
    have a114 := x3.c 114 (by decide) (by decide)
    obtain ⟨w, M2, x2, z1, z2⟩ : Ok (d_Mo_send (t1 : Int) (m : Int) (t3 : Int) (r : Int) (t5 : Int) M1) (fun v M2 => SnA m r (fun k => M 114 (40 * t1 + k)) (fun k => M 114 (40 * t3 + k)) (fun k => M 114 (40 * t5 + k)) v ∧ M2 0 0 = M2 111 0) := by
      unfold d_Mo_send
      have hq := hrs (sto M1 111 1 0) (by rw [sto_r (by decide)]; exact a113) (by rw [sto_r (by decide)]; exact a114)
      rw [if_neg c6] at hq
      refine ok_let (ok_call_eq hq ?_)
      repeat (first | with_reducible refine ok_let ?_ | with_reducible refine ok_cs ?_ | with_reducible refine ok_clet ?_ | with_reducible refine ok_cc ?_ | (with_reducible refine ok_chk ?_ ?_; · (first | omega | ((try simp (disch := omega) only [w32_eq, w64_eq, ix_n, ix_e, sto_n, sto_e, sto_r, zf_r, Int.toNat_natCast, true_or, or_true, eq_self]) <;> (first | omega | decide)))) | (with_reducible refine ok_cchk ?_ ?_; · (first | omega | ((try simp (disch := omega) only [w32_eq, w64_eq, ix_n, ix_e, sto_n, sto_e, sto_r, zf_r, Int.toNat_natCast, true_or, or_true, eq_self]) <;> (first | omega | decide)))) | (with_reducible refine ok_t ?_ ?_; · (first | omega | ((try simp (disch := omega) only [w32_eq, w64_eq, ix_n, ix_e, sto_n, sto_e, sto_r, zf_r, Int.toNat_natCast, true_or, or_true, eq_self]) <;> (first | omega | decide)))) | (with_reducible refine ok_f ?_ ?_; · (first | omega | ((try simp (disch := omega) only [w32_eq, w64_eq, ix_n, ix_e, sto_n, sto_e, sto_r, zf_r, Int.toNat_natCast, true_or, or_true, eq_self]) <;> (first | omega | decide)))) | (with_reducible refine ok_ct ?_ ?_; · (first | omega | ((try simp (disch := omega) only [w32_eq, w64_eq, ix_n, ix_e, sto_n, sto_e, sto_r, zf_r, Int.toNat_natCast, true_or, or_true, eq_self]) <;> (first | omega | decide)))) | (with_reducible refine ok_cf ?_ ?_; · (first | omega | ((try simp (disch := omega) only [w32_eq, w64_eq, ix_n, ix_e, sto_n, sto_e, sto_r, zf_r, Int.toNat_natCast, true_or, or_true, eq_self]) <;> (first | omega | decide)))))
      have w4 : sto (sto M1 111 1 0) 111 0 0 114 = M 114 := by rw [sto_r (by decide), sto_r (by decide)]; exact a114
      refine ok_mono (l_sr35 (B := sto (sto M1 111 1 0) 111 0 0) hmr (by omega) (by omega) (by omega) (by omega) (by rw [w4]; exact d1) (by rw [w4]; exact d3) (by rw [w4, hmm]; exact d5) (by rw [w4]; omega) m FU 0 _ (by omega) (by unfold FU; omega) Fr.rfl' (fun k hk => by omega)) (fun v M' h => ⟨?_, ?_⟩)
      · rw [w4] at h; exact h.1
      · rw [h.2.1, h.2.2, sto_e, sto_r (by decide), sto_r (by decide)]; exact y2
    exact ⟨_, _, _, _, x1, x2, by rw [SnA_u y1 z1], z2, trivial⟩
