/-! what a stretch of steps, and of marks, comes to -/
def cdC (w v : Int) : Int := or32 (sl32 w 20) v
theorem sl_20a : (List.range 16).all (fun w => decide (sl32 (w : Int) 20 = ((2 ^ 20 * w : Nat) : Int))) = true := by decide +kernel
theorem cd_at {w v : Nat} (hw : w < 16) (hv : v < 1048576) : cdC (w : Int) (v : Int) = ((1048576 * w + v : Nat) : Int) ∧ ur32 (cdC (w : Int) (v : Int)) 20 = (w : Int) ∧ an32 (cdC (w : Int) (v : Int)) 1048575 = (v : Int) := by
  have e0 := of_decide_eq_true (List.all_eq_true.mp sl_20a w (List.mem_range.mpr hw))
  have e1 : cdC (w : Int) (v : Int) = ((1048576 * w + v : Nat) : Int) := by
    unfold cdC
    rw [e0, or32_nat (by omega) (by omega), or_low (j := 20) (by omega)]
  refine ⟨e1, ?_, ?_⟩
  · rw [e1]
    have h := ur32_nat (x := 1048576 * w + v) (n := 20) (by omega) (by omega)
    rw [show (1048576 * w + v) / 2 ^ 20 = w by omega] at h
    exact h
  · rw [e1]
    have h := an32_nat (x := 1048576 * w + v) (y := 1048575) (by omega) (by omega)
    have g := Nat.and_two_pow_sub_one_eq_mod (1048576 * w + v) 20
    rw [show (2 : Nat) ^ 20 - 1 = 1048575 by decide] at g
    rw [g, show (1048576 * w + v) % 2 ^ 20 = v by omega] at h
    exact h
def DnC (N : Nat) (F : Fnn) (C : Nat → Int) (p q : Nat) : Prop := ∀ (K : Nat) (R2 : Int → Int → Mem → Res) (a2 a3 : Int) (e h fuel : Nat) (M : Mem), 39 ≤ K → K ≤ 51 → 0 ≤ a3 → a3 < 10 → q ≤ e → e ≤ 500 → M (K + 2) a3.toNat = (e : Int) → (∀ i, p ≤ i → i < q → M (K + 1) i = C i) → M 32 8 = (h : Int) → h + N ≤ 64 → q ≤ fuel + p →
  ∃ M', fix (fun _ _ _ _ => none) (k_As_reckonDefs_19 K R2) fuel a2 a3 (p : Int) M = fix (fun _ _ _ _ => none) (k_As_reckonDefs_19 K R2) (fuel + p - q) a2 a3 (q : Int) M' ∧ Fr [37, 38] [(32, 8)] M M' ∧ PoC h (vlC M F) M M'
def DnR (N : Nat) (F : Fnn) (R : Nat → Int) (p q : Nat) : Prop := ∀ (T : Nat) (R2 : Int → Int → Int → Mem → Res) (a2 a3 : Int) (e h fuel : Nat) (M : Mem), T < 4 → q ≤ e → e ≤ 1100 → (∀ i, p ≤ i → i < q → M 150 (1100 * T + i) = R i) → M 111 72 = (h : Int) → h + N ≤ 600 → q ≤ fuel + p →
  ∃ M' fuel', fuel + p ≤ fuel' + q ∧ fix (fun _ _ _ _ _ _ => none) (k_Mo_work_40 R2) fuel (T : Int) a2 a3 (p : Int) (e : Int) M = fix (fun _ _ _ _ _ _ => none) (k_Mo_work_40 R2) fuel' (T : Int) a2 a3 (q : Int) (e : Int) M' ∧ Fr [155, 158] [(111, 72)] M M' ∧ PoR h (vlR M F) M M'
/-- a function of the first d DEFS alone -/
def Lcl (d : Nat) (F : Fnn) : Prop := ∀ V D E D' E', (∀ i, i < d → D i = D' i ∧ E i = E' i) → F V D E = F V D' E'
def Den (N d : Nat) (F : Fnn) (C : Nat → Int) (p q : Nat) (R : Nat → Int) (p' q' : Nat) : Prop := Lcl d F ∧ DnC N F C p q ∧ DnR N F R p' q'
theorem DnC.c {N p q : Nat} {F : Fnn} {C C' : Nat → Int} (h : DnC N F C p q) (e : ∀ i, p ≤ i → i < q → C' i = C i) : DnC N F C' p q := fun K R2 a2 a3 e1 h1 fuel M g1 g2 g3 g4 g5 g6 g7 g8 g9 g10 g11 => h K R2 a2 a3 e1 h1 fuel M g1 g2 g3 g4 g5 g6 g7 (fun i i1 i2 => by rw [g8 i i1 i2, e i i1 i2]) g9 g10 g11
theorem DnR.c {N p q : Nat} {F : Fnn} {C C' : Nat → Int} (h : DnR N F C p q) (e : ∀ i, p ≤ i → i < q → C' i = C i) : DnR N F C' p q := fun K R2 a2 a3 e1 h1 fuel M g1 g2 g3 g4 g5 g6 g7 => h K R2 a2 a3 e1 h1 fuel M g1 g2 g3 (fun i i1 i2 => by rw [g4 i i1 i2, e i i1 i2]) g5 g6 g7
theorem DnC.m {N N' p q : Nat} {F : Fnn} {C : Nat → Int} (h : DnC N F C p q) (e : N ≤ N') : DnC N' F C p q := fun K R2 a2 a3 e1 h1 fuel M g1 g2 g3 g4 g5 g6 g7 g8 g9 g10 g11 => h K R2 a2 a3 e1 h1 fuel M g1 g2 g3 g4 g5 g6 g7 g8 g9 (by omega) g11
theorem DnR.m {N N' p q : Nat} {F : Fnn} {C : Nat → Int} (h : DnR N F C p q) (e : N ≤ N') : DnR N' F C p q := fun K R2 a2 a3 e1 h1 fuel M g1 g2 g3 g4 g5 g6 g7 => h K R2 a2 a3 e1 h1 fuel M g1 g2 g3 g4 g5 (by omega) g7
theorem frK {M M' : Mem} (h : Fr [37, 38] [(32, 8)] M M') {c : Nat} (hc : 39 ≤ c) : M' c = M c := h.c c (by simp only [List.mem_cons, List.not_mem_nil, or_false]; omega) (fun q hq => by simp only [List.mem_cons, List.not_mem_nil, or_false] at hq; subst hq; show 32 ≠ c; omega)
theorem vlC_f {M M' : Mem} {F : Fnn} (h : Fr [37, 38] [(32, 8)] M M') : vlC M' F = vlC M F := by
  unfold vlC
  rw [h.c 34 (by decide) (by decide), h.c 35 (by decide) (by decide), h.c 36 (by decide) (by decide)]
theorem vlR_f {M M' : Mem} {F : Fnn} (h : Fr [155, 158] [(111, 72)] M M') : vlR M' F = vlR M F := by
  unfold vlR
  rw [h.c 156 (by decide) (by decide), h.c 157 (by decide) (by decide), h.c 159 (by decide) (by decide)]
/-- one step, one mark -/
theorem st_C {K w v e p : Nat} {R2 : Int → Int → Mem → Res} {a2 a3 r : Int} {fuel : Nat} {M M' : Mem} (h3 : 0 ≤ a3) (h4 : a3 < 10) (hp : p < e) (he : e ≤ 500) (hE : M (K + 2) a3.toNat = (e : Int)) (hw : w < 16) (hv : v < 1048576) (hC : M (K + 1) p = cdC (w : Int) (v : Int)) (hs : d_As_playStep (w : Int) (v : Int) M = some (r, M')) :
    fix (fun _ _ _ _ => none) (k_As_reckonDefs_19 K R2) (fuel + 1) a2 a3 (p : Int) M = fix (fun _ _ _ _ => none) (k_As_reckonDefs_19 K R2) fuel a2 a3 ((p + 1 : Nat) : Int) M' := by
  obtain ⟨c1, c2, c3⟩ := cd_at hw hv
  have xp : ix (p : Int) = p := ix_n (by omega)
  have xa : ix a3 = a3.toNat := ix_e (by omega) (by omega)
  have key : ∀ R19 : Int → Int → Int → Mem → Res, k_As_reckonDefs_19 K R2 R19 a2 a3 (p : Int) M = R19 a2 a3 ((p + 1 : Nat) : Int) M' := fun R19 => by
    unfold k_As_reckonDefs_19 d_Tx_stepAt d_Tx_numberAt
    refine e_chk (by rw [w32_eq (by omega) (by omega)]; omega) ?_
    rw [xa, hE]
    refine e_let ?_
    refine e_t (by rw [w32_eq (by omega) (by omega), w32_eq (by omega) (by omega)]; omega) ?_
    refine e_cchk (by rw [w32_eq (by omega) (by omega)]; omega) ?_
    rw [xp, hC]
    refine e_clet ?_
    rw [c2]
    refine e_cs ?_
    refine e_cchk (by rw [w32_eq (by omega) (by omega)]; omega) ?_
    rw [hC]
    refine e_clet ?_
    rw [c3]
    refine e_cs ?_
    refine e_call hs ?_
    rw [blet_s, show (p : Int) + 1 = ((p + 1 : Nat) : Int) by omega]
  rw [fix_s]
  exact key _
theorem st_R {T e p : Nat} {R2 : Int → Int → Int → Mem → Res} {a2 a3 : Int} {k' m : Int} {fuel : Nat} {M M' : Mem} (hT : T < 4) (hp : p < e) (he : e ≤ 1100) (hC : M 150 (1100 * T + p) = m) (hs : d_Mo_does m (p : Int) M = some (k', M')) :
    fix (fun _ _ _ _ _ _ => none) (k_Mo_work_40 R2) (fuel + 1) (T : Int) a2 a3 (p : Int) (e : Int) M = fix (fun _ _ _ _ _ _ => none) (k_Mo_work_40 R2) fuel (T : Int) a2 a3 k' (e : Int) M' := by
  have xp : ix (1100 * (T : Int) + (p : Int)) = 1100 * T + p := by rw [ix_e (by omega) (by omega)]; omega
  have key : ∀ R40 : Int → Int → Int → Int → Int → Mem → Res, k_Mo_work_40 R2 R40 (T : Int) a2 a3 (p : Int) (e : Int) M = R40 (T : Int) a2 a3 k' (e : Int) M' := fun R40 => by
    unfold k_Mo_work_40
    refine e_t (by rw [w32_eq (by omega) (by omega), w32_eq (by omega) (by omega)]; omega) ?_
    refine e_chk (by rw [w32_eq (by omega) (by omega)]; omega) ?_
    rw [xp, hC]
    refine e_let ?_
    exact e_call hs rfl
  rw [fix_s]
  exact key _
/-- what is pushed -/
theorem s_pushC {x z : Int} {h : Nat} {M : Mem} (h1 : M 32 8 = (h : Int)) (h2 : h < 64) : d_As_push x z M = some (0, sto (sto (sto M 37 h x) 38 h z) 32 8 ((h + 1 : Nat) : Int)) := by
  have x0 : ix (h : Int) = h := ix_n (by omega)
  unfold d_As_push
  repeat (first | with_reducible refine e_let ?_ | with_reducible refine e_cs ?_ | with_reducible refine e_clet ?_ | with_reducible refine e_cc ?_ | (with_reducible refine e_chk ?_ ?_; · (first | omega | ((try simp (disch := omega) only [w32_eq, w64_eq, ix_n, ix_e, sto_n, sto_e, sto_r, zf_r, Int.toNat_natCast, true_or, or_true, eq_self, h1, x0]) <;> (first | omega | decide)))) | (with_reducible refine e_cchk ?_ ?_; · (first | omega | ((try simp (disch := omega) only [w32_eq, w64_eq, ix_n, ix_e, sto_n, sto_e, sto_r, zf_r, Int.toNat_natCast, true_or, or_true, eq_self, h1, x0]) <;> (first | omega | decide)))) | (with_reducible refine e_t ?_ ?_; · (first | omega | ((try simp (disch := omega) only [w32_eq, w64_eq, ix_n, ix_e, sto_n, sto_e, sto_r, zf_r, Int.toNat_natCast, true_or, or_true, eq_self, h1, x0]) <;> (first | omega | decide)))) | (with_reducible refine e_f ?_ ?_; · (first | omega | ((try simp (disch := omega) only [w32_eq, w64_eq, ix_n, ix_e, sto_n, sto_e, sto_r, zf_r, Int.toNat_natCast, true_or, or_true, eq_self, h1, x0]) <;> (first | omega | decide)))) | (with_reducible refine e_ct ?_ ?_; · (first | omega | ((try simp (disch := omega) only [w32_eq, w64_eq, ix_n, ix_e, sto_n, sto_e, sto_r, zf_r, Int.toNat_natCast, true_or, or_true, eq_self, h1, x0]) <;> (first | omega | decide)))) | (with_reducible refine e_cf ?_ ?_; · (first | omega | ((try simp (disch := omega) only [w32_eq, w64_eq, ix_n, ix_e, sto_n, sto_e, sto_r, zf_r, Int.toNat_natCast, true_or, or_true, eq_self, h1, x0]) <;> (first | omega | decide)))))
  rw [h1, sto_r (by decide), h1, x0, sto_r (by decide), sto_r (by decide), h1]
  rfl
theorem po_pC {x z : Int} {h : Nat} {M : Mem} {V : Int × Int} (e1 : w64 x = V.1) (e2 : z % 2 = V.2) : PoC h V M (sto (sto (sto M 37 h x) 38 h z) 32 8 ((h + 1 : Nat) : Int)) ∧ Fr [37, 38] [(32, 8)] M (sto (sto (sto M 37 h x) 38 h z) 32 8 ((h + 1 : Nat) : Int)) := by
  refine ⟨⟨sto_e, ?_, ?_, fun i hi => ⟨?_, ?_⟩⟩, ?_⟩
  · rw [sto_r (by decide), sto_r (by decide), sto_e]; exact e1
  · rw [sto_r (by decide), sto_e]; exact e2
  · simp (disch := omega) only [w32_eq, w64_eq, ix_n, ix_e, sto_n, sto_e, sto_r, zf_r, Int.toNat_natCast]
  · simp (disch := omega) only [w32_eq, w64_eq, ix_n, ix_e, sto_n, sto_e, sto_r, zf_r, Int.toNat_natCast]
  · (repeat (first | with_reducible exact Fr.rfl' | with_reducible assumption | with_reducible refine Fr.trans ?_ (fr_stoA (by decide)) | with_reducible refine Fr.trans ?_ (fr_stoF (by decide)) | with_reducible refine Fr.trans ?_ (fr_zf (by decide))))
theorem po_pR {x z : Int} {h : Nat} {M : Mem} {V : Int × Int} (e1 : w64 x = V.1) (e2 : z % 2 = V.2) : PoR h V M (sto (sto (sto M 155 h x) 158 h z) 111 72 ((h + 1 : Nat) : Int)) ∧ Fr [155, 158] [(111, 72)] M (sto (sto (sto M 155 h x) 158 h z) 111 72 ((h + 1 : Nat) : Int)) := by
  refine ⟨⟨sto_e, ?_, ?_, fun i hi => ⟨?_, ?_⟩⟩, ?_⟩
  · rw [sto_r (by decide), sto_r (by decide), sto_e]; exact e1
  · rw [sto_r (by decide), sto_e]; exact e2
  · simp (disch := omega) only [w32_eq, w64_eq, ix_n, ix_e, sto_n, sto_e, sto_r, zf_r, Int.toNat_natCast]
  · simp (disch := omega) only [w32_eq, w64_eq, ix_n, ix_e, sto_n, sto_e, sto_r, zf_r, Int.toNat_natCast]
  · (repeat (first | with_reducible exact Fr.rfl' | with_reducible assumption | with_reducible refine Fr.trans ?_ (fr_stoA (by decide)) | with_reducible refine Fr.trans ?_ (fr_stoF (by decide)) | with_reducible refine Fr.trans ?_ (fr_zf (by decide))))
