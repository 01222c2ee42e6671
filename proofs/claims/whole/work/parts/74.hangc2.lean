/-! on whom votes hang: the component reckons -/
theorem fgL_stay {B : Nat → Nat} {q v : Nat → Int} {g goal : Int} {i : Nat} (h : ¬ (fgL B q v g goal i).1 < goal) : ∀ k : Nat, fgL B q v g goal (i + k) = fgL B q v g goal i
  | 0 => rfl
  | k + 1 => by
    have e := fgL_stay h k
    show fgL B q v g goal (i + k + 1) = _
    rw [fgL, e, if_neg (fun q => h q.1)]
theorem fgL_xb {B : Nat → Nat} {q v : Nat → Int} {g goal : Int} (hv : ∀ f, 0 ≤ v f ∧ v f ≤ 1000) : ∀ i : Nat, g ≤ (fgL B q v g goal i).1 ∧ (fgL B q v g goal i).1 ≤ g + 1000 * i
  | 0 => by unfold fgL; exact ⟨Int.le_refl _, by show g ≤ g + 1000 * ((0 : Nat) : Int); omega⟩
  | i + 1 => by
    have h := fgL_xb (B := B) (q := q) (g := g) (goal := goal) hv i
    have := hv (B i)
    unfold fgL
    split
    · show g ≤ (fgL B q v g goal i).1 + v (B i) ∧ (fgL B q v g goal i).1 + v (B i) ≤ _; omega
    · omega
theorem l_gain {n d : Nat} {ds v fr g : Nat → Int} {B : Nat → Nat} {M : Mem} {goal : Int} (hn : n ≤ 20) (hR : RdC n ds v fr g B M) (hO : Ord n B v) (hv : ∀ f, 0 ≤ v f ∧ v f ≤ 1000) (hfr : ∀ f, fr f = 0 ∨ fr f = 1) (hds : ∀ f, f < n → 0 ≤ ds f ∧ ds f ≤ 5) (hg : -100000 ≤ g d ∧ g d ≤ 100000) (hgo : goal = 0 ∨ goal = 1) (hd : d < 6) :
    ∀ (j fuel i : Nat) (a3 : Int), i + j = n → j < fuel → w32 a3 = (fgL B (qdS fr ds d) v (g d) goal i).1 → fix (fun _ _ _ _ _ _ => none) k_Ba_fewestToGain_13 fuel (d : Int) goal a3 (fgL B (qdS fr ds d) v (g d) goal i).2 (i : Int) M = some (tgS n B fr ds v g goal d, M) := by
  obtain ⟨h5, h1, h2⟩ := hR
  intro j; induction j with
  | zero =>
    intro fuel i a3 e hf h3
    have : i = n := by omega
    subst this
    obtain ⟨f, rfl⟩ : ∃ f, fuel = f + 1 := ⟨fuel - 1, by omega⟩; rw [fix_s]; unfold k_Ba_fewestToGain_13
    repeat (first | with_reducible refine e_let ?_ | with_reducible refine e_cs ?_ | with_reducible refine e_clet ?_ | with_reducible refine e_cc ?_ | (with_reducible refine e_chk ?_ ?_; · (first | omega | ((try simp (disch := omega) only [w32_eq, w64_eq, ix_n, ix_e, sto_n, sto_e, sto_r, zf_r, Int.toNat_natCast, true_or, or_true, eq_self, h5]) <;> (first | omega | decide)))) | (with_reducible refine e_cchk ?_ ?_; · (first | omega | ((try simp (disch := omega) only [w32_eq, w64_eq, ix_n, ix_e, sto_n, sto_e, sto_r, zf_r, Int.toNat_natCast, true_or, or_true, eq_self, h5]) <;> (first | omega | decide)))) | (with_reducible refine e_t ?_ ?_; · (first | omega | ((try simp (disch := omega) only [w32_eq, w64_eq, ix_n, ix_e, sto_n, sto_e, sto_r, zf_r, Int.toNat_natCast, true_or, or_true, eq_self, h5]) <;> (first | omega | decide)))) | (with_reducible refine e_f ?_ ?_; · (first | omega | ((try simp (disch := omega) only [w32_eq, w64_eq, ix_n, ix_e, sto_n, sto_e, sto_r, zf_r, Int.toNat_natCast, true_or, or_true, eq_self, h5]) <;> (first | omega | decide)))) | (with_reducible refine e_ct ?_ ?_; · (first | omega | ((try simp (disch := omega) only [w32_eq, w64_eq, ix_n, ix_e, sto_n, sto_e, sto_r, zf_r, Int.toNat_natCast, true_or, or_true, eq_self, h5]) <;> (first | omega | decide)))) | (with_reducible refine e_cf ?_ ?_; · (first | omega | ((try simp (disch := omega) only [w32_eq, w64_eq, ix_n, ix_e, sto_n, sto_e, sto_r, zf_r, Int.toNat_natCast, true_or, or_true, eq_self, h5]) <;> (first | omega | decide)))))
    unfold k_Ba_fewestToGain_82 tgS fgS
    rw [h3, show w32 goal = goal by rcases hgo with c | c <;> (rw [c]; rfl)]
    split <;> rfl
  | succ j ih =>
    intro fuel i a3 e hf h3
    have hj : (i : Int) + 1 = ((i + 1 : Nat) : Int) := by omega
    have hwg : w32 goal = goal := by rcases hgo with c | c <;> (rw [c]; rfl)
    obtain ⟨v1, v2, v3, v4⟩ := h1 i (by omega)
    have hBi := hO.1 i (by omega)
    obtain ⟨b1, b2, b3, b4⟩ := h1 (B i) hBi
    have hdB := hds (B i) hBi
    have hvB := hv (B i)
    have xb := fgL_xb (B := B) (q := qdS fr ds d) (g := g d) (goal := goal) hv i
    have ei : ix (i : Int) = i := ix_n (by omega)
    have eB : ix (B i : Int) = B i := ix_n (by omega)
    have hs : fgL B (qdS fr ds d) v (g d) goal (i + 1) = if (fgL B (qdS fr ds d) v (g d) goal i).1 < goal ∧ qdS fr ds d (B i) = 1 then ((fgL B (qdS fr ds d) v (g d) goal i).1 + v (B i), (fgL B (qdS fr ds d) v (g d) goal i).2 + 1) else fgL B (qdS fr ds d) v (g d) goal i := rfl
    obtain ⟨f, rfl⟩ : ∃ f, fuel = f + 1 := ⟨fuel - 1, by omega⟩; rw [fix_s]
    unfold k_Ba_fewestToGain_13
    refine e_let (e_t (by first | omega | ((try simp (disch := omega) only [w32_eq, w64_eq, ix_n, ix_e, sto_n, sto_e, sto_r, zf_r, Int.toNat_natCast, true_or, or_true, eq_self, h5]) <;> (first | omega | decide))) ?_)
    rw [h3, hwg]
    by_cases c : (fgL B (qdS fr ds d) v (g d) goal i).1 < goal
    · rw [if_pos c]
      refine e_chk (by first | omega | ((try simp (disch := omega) only [w32_eq, w64_eq, ix_n, ix_e, sto_n, sto_e, sto_r, zf_r, Int.toNat_natCast, true_or, or_true, eq_self]) <;> (first | omega | decide))) (e_let ?_)
      rw [ei, v2]
      refine e_chk (by first | omega | ((try simp (disch := omega) only [w32_eq, w64_eq, ix_n, ix_e, sto_n, sto_e, sto_r, zf_r, Int.toNat_natCast, true_or, or_true, eq_self]) <;> (first | omega | decide))) (e_let ?_)
      rw [eB, b3]
      by_cases cf : fr (B i) = 1
      · rw [cf]
        refine e_f (by decide) (e_chk (by first | omega | ((try simp (disch := omega) only [w32_eq, w64_eq, ix_n, ix_e, sto_n, sto_e, sto_r, zf_r, Int.toNat_natCast, true_or, or_true, eq_self]) <;> (first | omega | decide))) (e_let ?_))
        rw [b4]
        by_cases cd : ds (B i) = (d : Int)
        · have hq : qdS fr ds d (B i) = 1 := by unfold qdS; rw [if_pos ⟨cf, cd⟩]
          rw [if_pos ⟨c, hq⟩] at hs
          repeat (first | with_reducible refine e_let ?_ | with_reducible refine e_cs ?_ | with_reducible refine e_clet ?_ | with_reducible refine e_cc ?_ | (with_reducible refine e_chk ?_ ?_; · (first | omega | ((try simp (disch := omega) only [w32_eq, w64_eq, ix_n, ix_e, sto_n, sto_e, sto_r, zf_r, Int.toNat_natCast, true_or, or_true, eq_self]) <;> (first | omega | decide)))) | (with_reducible refine e_cchk ?_ ?_; · (first | omega | ((try simp (disch := omega) only [w32_eq, w64_eq, ix_n, ix_e, sto_n, sto_e, sto_r, zf_r, Int.toNat_natCast, true_or, or_true, eq_self]) <;> (first | omega | decide)))) | (with_reducible refine e_t ?_ ?_; · (first | omega | ((try simp (disch := omega) only [w32_eq, w64_eq, ix_n, ix_e, sto_n, sto_e, sto_r, zf_r, Int.toNat_natCast, true_or, or_true, eq_self]) <;> (first | omega | decide)))) | (with_reducible refine e_f ?_ ?_; · (first | omega | ((try simp (disch := omega) only [w32_eq, w64_eq, ix_n, ix_e, sto_n, sto_e, sto_r, zf_r, Int.toNat_natCast, true_or, or_true, eq_self]) <;> (first | omega | decide)))) | (with_reducible refine e_ct ?_ ?_; · (first | omega | ((try simp (disch := omega) only [w32_eq, w64_eq, ix_n, ix_e, sto_n, sto_e, sto_r, zf_r, Int.toNat_natCast, true_or, or_true, eq_self]) <;> (first | omega | decide)))) | (with_reducible refine e_cf ?_ ?_; · (first | omega | ((try simp (disch := omega) only [w32_eq, w64_eq, ix_n, ix_e, sto_n, sto_e, sto_r, zf_r, Int.toNat_natCast, true_or, or_true, eq_self]) <;> (first | omega | decide)))))
          unfold k_Ba_fewestToGain_76
          repeat (first | with_reducible refine e_let ?_ | with_reducible refine e_cs ?_ | with_reducible refine e_clet ?_ | with_reducible refine e_cc ?_ | (with_reducible refine e_chk ?_ ?_; · (first | omega | ((try simp (disch := omega) only [w32_eq, w64_eq, ix_n, ix_e, sto_n, sto_e, sto_r, zf_r, Int.toNat_natCast, true_or, or_true, eq_self]) <;> (first | omega | decide)))) | (with_reducible refine e_cchk ?_ ?_; · (first | omega | ((try simp (disch := omega) only [w32_eq, w64_eq, ix_n, ix_e, sto_n, sto_e, sto_r, zf_r, Int.toNat_natCast, true_or, or_true, eq_self]) <;> (first | omega | decide)))) | (with_reducible refine e_t ?_ ?_; · (first | omega | ((try simp (disch := omega) only [w32_eq, w64_eq, ix_n, ix_e, sto_n, sto_e, sto_r, zf_r, Int.toNat_natCast, true_or, or_true, eq_self]) <;> (first | omega | decide)))) | (with_reducible refine e_f ?_ ?_; · (first | omega | ((try simp (disch := omega) only [w32_eq, w64_eq, ix_n, ix_e, sto_n, sto_e, sto_r, zf_r, Int.toNat_natCast, true_or, or_true, eq_self]) <;> (first | omega | decide)))) | (with_reducible refine e_ct ?_ ?_; · (first | omega | ((try simp (disch := omega) only [w32_eq, w64_eq, ix_n, ix_e, sto_n, sto_e, sto_r, zf_r, Int.toNat_natCast, true_or, or_true, eq_self]) <;> (first | omega | decide)))) | (with_reducible refine e_cf ?_ ?_; · (first | omega | ((try simp (disch := omega) only [w32_eq, w64_eq, ix_n, ix_e, sto_n, sto_e, sto_r, zf_r, Int.toNat_natCast, true_or, or_true, eq_self]) <;> (first | omega | decide)))))
          rw [hj]
          have q := ih f (i + 1) (a3 + M 105 (B i)) (by omega) (by omega) (by
            rw [hs, w32_add, h3, b1, w32_eq (by omega) (by omega)])
          rw [hs] at q; exact q
        · have hq : qdS fr ds d (B i) = 0 := by unfold qdS; rw [if_neg (fun q => cd q.2)]
          rw [if_neg (fun q => by rw [hq] at q; exact absurd q.2 (by decide))] at hs
          repeat (first | with_reducible refine e_let ?_ | with_reducible refine e_cs ?_ | with_reducible refine e_clet ?_ | with_reducible refine e_cc ?_ | (with_reducible refine e_chk ?_ ?_; · (first | omega | ((try simp (disch := omega) only [w32_eq, w64_eq, ix_n, ix_e, sto_n, sto_e, sto_r, zf_r, Int.toNat_natCast, true_or, or_true, eq_self]) <;> (first | omega | decide)))) | (with_reducible refine e_cchk ?_ ?_; · (first | omega | ((try simp (disch := omega) only [w32_eq, w64_eq, ix_n, ix_e, sto_n, sto_e, sto_r, zf_r, Int.toNat_natCast, true_or, or_true, eq_self]) <;> (first | omega | decide)))) | (with_reducible refine e_t ?_ ?_; · (first | omega | ((try simp (disch := omega) only [w32_eq, w64_eq, ix_n, ix_e, sto_n, sto_e, sto_r, zf_r, Int.toNat_natCast, true_or, or_true, eq_self]) <;> (first | omega | decide)))) | (with_reducible refine e_f ?_ ?_; · (first | omega | ((try simp (disch := omega) only [w32_eq, w64_eq, ix_n, ix_e, sto_n, sto_e, sto_r, zf_r, Int.toNat_natCast, true_or, or_true, eq_self]) <;> (first | omega | decide)))) | (with_reducible refine e_ct ?_ ?_; · (first | omega | ((try simp (disch := omega) only [w32_eq, w64_eq, ix_n, ix_e, sto_n, sto_e, sto_r, zf_r, Int.toNat_natCast, true_or, or_true, eq_self]) <;> (first | omega | decide)))) | (with_reducible refine e_cf ?_ ?_; · (first | omega | ((try simp (disch := omega) only [w32_eq, w64_eq, ix_n, ix_e, sto_n, sto_e, sto_r, zf_r, Int.toNat_natCast, true_or, or_true, eq_self]) <;> (first | omega | decide)))))
          unfold k_Ba_fewestToGain_76
          repeat (first | with_reducible refine e_let ?_ | with_reducible refine e_cs ?_ | with_reducible refine e_clet ?_ | with_reducible refine e_cc ?_ | (with_reducible refine e_chk ?_ ?_; · (first | omega | ((try simp (disch := omega) only [w32_eq, w64_eq, ix_n, ix_e, sto_n, sto_e, sto_r, zf_r, Int.toNat_natCast, true_or, or_true, eq_self]) <;> (first | omega | decide)))) | (with_reducible refine e_cchk ?_ ?_; · (first | omega | ((try simp (disch := omega) only [w32_eq, w64_eq, ix_n, ix_e, sto_n, sto_e, sto_r, zf_r, Int.toNat_natCast, true_or, or_true, eq_self]) <;> (first | omega | decide)))) | (with_reducible refine e_t ?_ ?_; · (first | omega | ((try simp (disch := omega) only [w32_eq, w64_eq, ix_n, ix_e, sto_n, sto_e, sto_r, zf_r, Int.toNat_natCast, true_or, or_true, eq_self]) <;> (first | omega | decide)))) | (with_reducible refine e_f ?_ ?_; · (first | omega | ((try simp (disch := omega) only [w32_eq, w64_eq, ix_n, ix_e, sto_n, sto_e, sto_r, zf_r, Int.toNat_natCast, true_or, or_true, eq_self]) <;> (first | omega | decide)))) | (with_reducible refine e_ct ?_ ?_; · (first | omega | ((try simp (disch := omega) only [w32_eq, w64_eq, ix_n, ix_e, sto_n, sto_e, sto_r, zf_r, Int.toNat_natCast, true_or, or_true, eq_self]) <;> (first | omega | decide)))) | (with_reducible refine e_cf ?_ ?_; · (first | omega | ((try simp (disch := omega) only [w32_eq, w64_eq, ix_n, ix_e, sto_n, sto_e, sto_r, zf_r, Int.toNat_natCast, true_or, or_true, eq_self]) <;> (first | omega | decide)))))
          rw [hj]
          have q := ih f (i + 1) a3 (by omega) (by omega) (by rw [hs]; exact h3)
          rw [hs] at q; exact q
      · have cf0 : fr (B i) = 0 := by
          rcases hfr (B i) with r | r
          · exact r
          · exact absurd r cf
        have hq : qdS fr ds d (B i) = 0 := by unfold qdS; rw [if_neg (fun q => cf q.1)]
        rw [if_neg (fun q => by rw [hq] at q; exact absurd q.2 (by decide))] at hs
        rw [cf0]
        refine e_t (by decide) ?_
        unfold k_Ba_fewestToGain_76
        refine e_let ?_
        rw [hj]
        have q := ih f (i + 1) a3 (by omega) (by omega) (by rw [hs]; exact h3)
        rw [hs] at q; exact q
    · rw [if_neg c]
      unfold k_Ba_fewestToGain_82 tgS fgS
      have st := fgL_stay c (n - i)
      rw [show i + (n - i) = n by omega] at st
      rw [st, h3, hwg, if_neg c, if_neg c]
theorem s_gain {n d : Nat} {ds v fr g : Nat → Int} {B : Nat → Nat} {M : Mem} {goal : Int} (hn : n ≤ 20) (hR : RdC n ds v fr g B M) (hO : Ord n B v) (hv : ∀ f, 0 ≤ v f ∧ v f ≤ 1000) (hfr : ∀ f, fr f = 0 ∨ fr f = 1) (hds : ∀ f, f < n → 0 ≤ ds f ∧ ds f ≤ 5) (hg : -100000 ≤ g d ∧ g d ≤ 100000) (hgo : goal = 0 ∨ goal = 1) (hd : d < 6) : d_Ba_fewestToGain (d : Int) goal M = some (tgS n B fr ds v g goal d, M) := by
  unfold d_Ba_fewestToGain
  repeat (first | with_reducible refine e_let ?_ | with_reducible refine e_cs ?_ | with_reducible refine e_clet ?_ | with_reducible refine e_cc ?_ | (with_reducible refine e_chk ?_ ?_; · (first | omega | ((try simp (disch := omega) only [w32_eq, w64_eq, ix_n, ix_e, sto_n, sto_e, sto_r, zf_r, Int.toNat_natCast, true_or, or_true, eq_self]) <;> (first | omega | decide)))) | (with_reducible refine e_cchk ?_ ?_; · (first | omega | ((try simp (disch := omega) only [w32_eq, w64_eq, ix_n, ix_e, sto_n, sto_e, sto_r, zf_r, Int.toNat_natCast, true_or, or_true, eq_self]) <;> (first | omega | decide)))) | (with_reducible refine e_t ?_ ?_; · (first | omega | ((try simp (disch := omega) only [w32_eq, w64_eq, ix_n, ix_e, sto_n, sto_e, sto_r, zf_r, Int.toNat_natCast, true_or, or_true, eq_self]) <;> (first | omega | decide)))) | (with_reducible refine e_f ?_ ?_; · (first | omega | ((try simp (disch := omega) only [w32_eq, w64_eq, ix_n, ix_e, sto_n, sto_e, sto_r, zf_r, Int.toNat_natCast, true_or, or_true, eq_self]) <;> (first | omega | decide)))) | (with_reducible refine e_ct ?_ ?_; · (first | omega | ((try simp (disch := omega) only [w32_eq, w64_eq, ix_n, ix_e, sto_n, sto_e, sto_r, zf_r, Int.toNat_natCast, true_or, or_true, eq_self]) <;> (first | omega | decide)))) | (with_reducible refine e_cf ?_ ?_; · (first | omega | ((try simp (disch := omega) only [w32_eq, w64_eq, ix_n, ix_e, sto_n, sto_e, sto_r, zf_r, Int.toNat_natCast, true_or, or_true, eq_self]) <;> (first | omega | decide)))))
  rw [ix_n (by omega)]
  exact l_gain hn hR hO hv hfr hds hg hgo hd n FU 0 _ (by omega) (by unfold FU; omega) (hR.2.2 d hd)
theorem tg_le {n : Nat} {B : Nat → Nat} {fr ds v g : Nat → Int} {goal : Int} (hn : n ≤ 20) (d : Nat) : tgS n B fr ds v g goal d ≤ 1000 := by
  unfold tgS fgS; split
  · decide
  · have := (fgL_b (B := B) (q := qdS fr ds d) (v := v) (g := g d) (goal := goal) n).2; omega
theorem dp_b {te tw : Nat → Int} (h : ∀ e, (0 ≤ te e ∧ te e ≤ 1000) ∧ (0 ≤ tw e ∧ tw e ≤ 1000)) : ∀ d s : Nat, 0 ≤ dpS te tw d s ∧ dpS te tw d s ≤ 1000 * (d + 1)
  | 0, s => by rw [dpS]; split <;> omega
  | d + 1, s => by
    refine ⟨dp_nn (fun e => ⟨(h e).1.1, (h e).2.1⟩) (d + 1) s, ?_⟩
    have h3 := dp_b h d s
    have h4 := h d
    rw [dpS]
    have := mn3_r (x := if s + 1 < 13 then dpS te tw d (s + 1) else 1000) (y := mn3 (if 0 < s then dpS te tw d (s - 1) + tw d else 1000) (dpS te tw d s + te d))
    have := mn3_r (x := if 0 < s then dpS te tw d (s - 1) + tw d else 1000) (y := dpS te tw d s + te d)
    omega
theorem mn32_3 {x y : Int} (h1 : I32 x) (h2 : I32 y) : mn32 x y = mn3 x y := by
  unfold mn32 mn3; rw [h1.w, h2.w]
theorem l_reach59 {te tw : Nat → Int} {d : Nat} (hd : d < 6) (h : ∀ e, (0 ≤ te e ∧ te e ≤ 1000) ∧ (0 ≤ tw e ∧ tw e ≤ 1000)) {G : Int} {B : Mem} (hB : ∀ s, s < 13 → B 110 s = dpS te tw d s) {R20 : Int → Int → Mem → Res} {P : Int → Mem → Prop} (hP : ∀ M : Mem, Fr [109] [] B M → (∀ s, s < 13 → M 109 s = dpS te tw (d + 1) s) → Ok (R20 G ((d : Int) + 1) M) P) :
    ∀ (j fuel s : Nat) (M : Mem), s + j = 13 → j < fuel → Fr [109] [] B M → (∀ u, u < s → M 109 u = dpS te tw (d + 1) u) → Ok (fix (fun _ _ _ _ _ _ => none) (k_Ba_fewestToReach_59 R20) fuel G (d : Int) (te d) (tw d) (s : Int) M) P := by
  intro j; induction j with
  | zero =>
    intro fuel s M e hf hF hh
    have : s = 13 := by omega
    subst this
    obtain ⟨f, rfl⟩ : ∃ f, fuel = f + 1 := ⟨fuel - 1, by omega⟩; rw [fix_s]; unfold k_Ba_fewestToReach_59
    repeat (first | with_reducible refine ok_let ?_ | with_reducible refine ok_cs ?_ | with_reducible refine ok_clet ?_ | with_reducible refine ok_cc ?_ | (with_reducible refine ok_chk ?_ ?_; · (first | omega | ((try simp (disch := omega) only [w32_eq, w64_eq, ix_n, ix_e, sto_n, sto_e, sto_r, zf_r, Int.toNat_natCast, true_or, or_true, eq_self]) <;> (first | omega | decide)))) | (with_reducible refine ok_cchk ?_ ?_; · (first | omega | ((try simp (disch := omega) only [w32_eq, w64_eq, ix_n, ix_e, sto_n, sto_e, sto_r, zf_r, Int.toNat_natCast, true_or, or_true, eq_self]) <;> (first | omega | decide)))) | (with_reducible refine ok_t ?_ ?_; · (first | omega | ((try simp (disch := omega) only [w32_eq, w64_eq, ix_n, ix_e, sto_n, sto_e, sto_r, zf_r, Int.toNat_natCast, true_or, or_true, eq_self]) <;> (first | omega | decide)))) | (with_reducible refine ok_f ?_ ?_; · (first | omega | ((try simp (disch := omega) only [w32_eq, w64_eq, ix_n, ix_e, sto_n, sto_e, sto_r, zf_r, Int.toNat_natCast, true_or, or_true, eq_self]) <;> (first | omega | decide)))) | (with_reducible refine ok_ct ?_ ?_; · (first | omega | ((try simp (disch := omega) only [w32_eq, w64_eq, ix_n, ix_e, sto_n, sto_e, sto_r, zf_r, Int.toNat_natCast, true_or, or_true, eq_self]) <;> (first | omega | decide)))) | (with_reducible refine ok_cf ?_ ?_; · (first | omega | ((try simp (disch := omega) only [w32_eq, w64_eq, ix_n, ix_e, sto_n, sto_e, sto_r, zf_r, Int.toNat_natCast, true_or, or_true, eq_self]) <;> (first | omega | decide)))))
    exact hP M hF hh
  | succ j ih =>
    intro fuel s M e hf hF hh
    have hj : (s : Int) + 1 = ((s + 1 : Nat) : Int) := by omega
    have es : ix (s : Int) = s := ix_n (by omega)
    have u110 := hF.c 110 (by decide) (by decide)
    have b1 := dp_b h d (s + 1)
    have b2 := dp_b h d (s - 1)
    have b3 := dp_b h d s
    have hd' := h d
    obtain ⟨f, rfl⟩ : ∃ f, fuel = f + 1 := ⟨fuel - 1, by omega⟩; rw [fix_s]
    have last : ∀ x y : Int, x = (if s + 1 < 13 then dpS te tw d (s + 1) else 1000) → y = (if 0 < s then dpS te tw d (s - 1) + tw d else 1000) → Ok (k_Ba_fewestToReach_115 R20 (fix (fun _ _ _ _ _ _ => none) (k_Ba_fewestToReach_59 R20) f) G (d : Int) (te d) (tw d) (s : Int) x y M) P := by
      intro x y hx hy
      have xb : 0 ≤ x ∧ x ≤ 8000 := by rw [hx]; split <;> omega
      have yb : 0 ≤ y ∧ y ≤ 9000 := by rw [hy]; split <;> omega
      unfold k_Ba_fewestToReach_115
      repeat (first | with_reducible refine ok_let ?_ | with_reducible refine ok_cs ?_ | with_reducible refine ok_clet ?_ | with_reducible refine ok_cc ?_ | (with_reducible refine ok_chk ?_ ?_; · (first | omega | ((try simp (disch := omega) only [w32_eq, w64_eq, ix_n, ix_e, sto_n, sto_e, sto_r, zf_r, Int.toNat_natCast, true_or, or_true, eq_self]) <;> (first | omega | decide)))) | (with_reducible refine ok_cchk ?_ ?_; · (first | omega | ((try simp (disch := omega) only [w32_eq, w64_eq, ix_n, ix_e, sto_n, sto_e, sto_r, zf_r, Int.toNat_natCast, true_or, or_true, eq_self]) <;> (first | omega | decide)))) | (with_reducible refine ok_t ?_ ?_; · (first | omega | ((try simp (disch := omega) only [w32_eq, w64_eq, ix_n, ix_e, sto_n, sto_e, sto_r, zf_r, Int.toNat_natCast, true_or, or_true, eq_self]) <;> (first | omega | decide)))) | (with_reducible refine ok_f ?_ ?_; · (first | omega | ((try simp (disch := omega) only [w32_eq, w64_eq, ix_n, ix_e, sto_n, sto_e, sto_r, zf_r, Int.toNat_natCast, true_or, or_true, eq_self]) <;> (first | omega | decide)))) | (with_reducible refine ok_ct ?_ ?_; · (first | omega | ((try simp (disch := omega) only [w32_eq, w64_eq, ix_n, ix_e, sto_n, sto_e, sto_r, zf_r, Int.toNat_natCast, true_or, or_true, eq_self]) <;> (first | omega | decide)))) | (with_reducible refine ok_cf ?_ ?_; · (first | omega | ((try simp (disch := omega) only [w32_eq, w64_eq, ix_n, ix_e, sto_n, sto_e, sto_r, zf_r, Int.toNat_natCast, true_or, or_true, eq_self]) <;> (first | omega | decide)))))
      rw [hj, es, u110, hB s (by omega)]
      have m1 : mn32 y (dpS te tw d s + te d) = mn3 y (dpS te tw d s + te d) := mn32_3 ⟨by omega, by omega⟩ ⟨by omega, by omega⟩
      have mb : 0 ≤ mn3 y (dpS te tw d s + te d) ∧ mn3 y (dpS te tw d s + te d) ≤ 9000 := by unfold mn3; split <;> omega
      rw [m1, mn32_3 ⟨by omega, by omega⟩ ⟨by omega, by omega⟩]
      refine ih f (s + 1) _ (by omega) (by omega) (hF.trans (fr_stoA (by decide))) (fun u hu => ?_)
      rw [sto_up]; unfold up; split
      · rename_i c; rw [c, hx, hy]; rfl
      · exact hh u (by omega)
    have mid : ∀ x : Int, x = (if s + 1 < 13 then dpS te tw d (s + 1) else 1000) → Ok (k_Ba_fewestToReach_90 R20 (fix (fun _ _ _ _ _ _ => none) (k_Ba_fewestToReach_59 R20) f) G (d : Int) (te d) (tw d) (s : Int) x M) P := by
      intro x hx
      unfold k_Ba_fewestToReach_90
      by_cases c : 0 < s
      · repeat (first | with_reducible refine ok_let ?_ | with_reducible refine ok_cs ?_ | with_reducible refine ok_clet ?_ | with_reducible refine ok_cc ?_ | (with_reducible refine ok_chk ?_ ?_; · (first | omega | ((try simp (disch := omega) only [w32_eq, w64_eq, ix_n, ix_e, sto_n, sto_e, sto_r, zf_r, Int.toNat_natCast, true_or, or_true, eq_self]) <;> (first | omega | decide)))) | (with_reducible refine ok_cchk ?_ ?_; · (first | omega | ((try simp (disch := omega) only [w32_eq, w64_eq, ix_n, ix_e, sto_n, sto_e, sto_r, zf_r, Int.toNat_natCast, true_or, or_true, eq_self]) <;> (first | omega | decide)))) | (with_reducible refine ok_t ?_ ?_; · (first | omega | ((try simp (disch := omega) only [w32_eq, w64_eq, ix_n, ix_e, sto_n, sto_e, sto_r, zf_r, Int.toNat_natCast, true_or, or_true, eq_self]) <;> (first | omega | decide)))) | (with_reducible refine ok_f ?_ ?_; · (first | omega | ((try simp (disch := omega) only [w32_eq, w64_eq, ix_n, ix_e, sto_n, sto_e, sto_r, zf_r, Int.toNat_natCast, true_or, or_true, eq_self]) <;> (first | omega | decide)))) | (with_reducible refine ok_ct ?_ ?_; · (first | omega | ((try simp (disch := omega) only [w32_eq, w64_eq, ix_n, ix_e, sto_n, sto_e, sto_r, zf_r, Int.toNat_natCast, true_or, or_true, eq_self]) <;> (first | omega | decide)))) | (with_reducible refine ok_cf ?_ ?_; · (first | omega | ((try simp (disch := omega) only [w32_eq, w64_eq, ix_n, ix_e, sto_n, sto_e, sto_r, zf_r, Int.toNat_natCast, true_or, or_true, eq_self]) <;> (first | omega | decide)))))
        refine last x _ hx ?_
        rw [if_pos c, show (s : Int) - 1 = ((s - 1 : Nat) : Int) by omega, ix_n (by omega), u110, hB (s - 1) (by omega)]
      · repeat (first | with_reducible refine ok_let ?_ | with_reducible refine ok_cs ?_ | with_reducible refine ok_clet ?_ | with_reducible refine ok_cc ?_ | (with_reducible refine ok_chk ?_ ?_; · (first | omega | ((try simp (disch := omega) only [w32_eq, w64_eq, ix_n, ix_e, sto_n, sto_e, sto_r, zf_r, Int.toNat_natCast, true_or, or_true, eq_self]) <;> (first | omega | decide)))) | (with_reducible refine ok_cchk ?_ ?_; · (first | omega | ((try simp (disch := omega) only [w32_eq, w64_eq, ix_n, ix_e, sto_n, sto_e, sto_r, zf_r, Int.toNat_natCast, true_or, or_true, eq_self]) <;> (first | omega | decide)))) | (with_reducible refine ok_t ?_ ?_; · (first | omega | ((try simp (disch := omega) only [w32_eq, w64_eq, ix_n, ix_e, sto_n, sto_e, sto_r, zf_r, Int.toNat_natCast, true_or, or_true, eq_self]) <;> (first | omega | decide)))) | (with_reducible refine ok_f ?_ ?_; · (first | omega | ((try simp (disch := omega) only [w32_eq, w64_eq, ix_n, ix_e, sto_n, sto_e, sto_r, zf_r, Int.toNat_natCast, true_or, or_true, eq_self]) <;> (first | omega | decide)))) | (with_reducible refine ok_ct ?_ ?_; · (first | omega | ((try simp (disch := omega) only [w32_eq, w64_eq, ix_n, ix_e, sto_n, sto_e, sto_r, zf_r, Int.toNat_natCast, true_or, or_true, eq_self]) <;> (first | omega | decide)))) | (with_reducible refine ok_cf ?_ ?_; · (first | omega | ((try simp (disch := omega) only [w32_eq, w64_eq, ix_n, ix_e, sto_n, sto_e, sto_r, zf_r, Int.toNat_natCast, true_or, or_true, eq_self]) <;> (first | omega | decide)))))
        exact last x 1000 hx (by rw [if_neg c])
    unfold k_Ba_fewestToReach_59
    by_cases c : s + 1 < 13
    · repeat (first | with_reducible refine ok_let ?_ | with_reducible refine ok_cs ?_ | with_reducible refine ok_clet ?_ | with_reducible refine ok_cc ?_ | (with_reducible refine ok_chk ?_ ?_; · (first | omega | ((try simp (disch := omega) only [w32_eq, w64_eq, ix_n, ix_e, sto_n, sto_e, sto_r, zf_r, Int.toNat_natCast, true_or, or_true, eq_self]) <;> (first | omega | decide)))) | (with_reducible refine ok_cchk ?_ ?_; · (first | omega | ((try simp (disch := omega) only [w32_eq, w64_eq, ix_n, ix_e, sto_n, sto_e, sto_r, zf_r, Int.toNat_natCast, true_or, or_true, eq_self]) <;> (first | omega | decide)))) | (with_reducible refine ok_t ?_ ?_; · (first | omega | ((try simp (disch := omega) only [w32_eq, w64_eq, ix_n, ix_e, sto_n, sto_e, sto_r, zf_r, Int.toNat_natCast, true_or, or_true, eq_self]) <;> (first | omega | decide)))) | (with_reducible refine ok_f ?_ ?_; · (first | omega | ((try simp (disch := omega) only [w32_eq, w64_eq, ix_n, ix_e, sto_n, sto_e, sto_r, zf_r, Int.toNat_natCast, true_or, or_true, eq_self]) <;> (first | omega | decide)))) | (with_reducible refine ok_ct ?_ ?_; · (first | omega | ((try simp (disch := omega) only [w32_eq, w64_eq, ix_n, ix_e, sto_n, sto_e, sto_r, zf_r, Int.toNat_natCast, true_or, or_true, eq_self]) <;> (first | omega | decide)))) | (with_reducible refine ok_cf ?_ ?_; · (first | omega | ((try simp (disch := omega) only [w32_eq, w64_eq, ix_n, ix_e, sto_n, sto_e, sto_r, zf_r, Int.toNat_natCast, true_or, or_true, eq_self]) <;> (first | omega | decide)))))
      refine mid _ ?_
      rw [if_pos c, hj, ix_n (by omega), u110, hB (s + 1) (by omega)]
    · repeat (first | with_reducible refine ok_let ?_ | with_reducible refine ok_cs ?_ | with_reducible refine ok_clet ?_ | with_reducible refine ok_cc ?_ | (with_reducible refine ok_chk ?_ ?_; · (first | omega | ((try simp (disch := omega) only [w32_eq, w64_eq, ix_n, ix_e, sto_n, sto_e, sto_r, zf_r, Int.toNat_natCast, true_or, or_true, eq_self]) <;> (first | omega | decide)))) | (with_reducible refine ok_cchk ?_ ?_; · (first | omega | ((try simp (disch := omega) only [w32_eq, w64_eq, ix_n, ix_e, sto_n, sto_e, sto_r, zf_r, Int.toNat_natCast, true_or, or_true, eq_self]) <;> (first | omega | decide)))) | (with_reducible refine ok_t ?_ ?_; · (first | omega | ((try simp (disch := omega) only [w32_eq, w64_eq, ix_n, ix_e, sto_n, sto_e, sto_r, zf_r, Int.toNat_natCast, true_or, or_true, eq_self]) <;> (first | omega | decide)))) | (with_reducible refine ok_f ?_ ?_; · (first | omega | ((try simp (disch := omega) only [w32_eq, w64_eq, ix_n, ix_e, sto_n, sto_e, sto_r, zf_r, Int.toNat_natCast, true_or, or_true, eq_self]) <;> (first | omega | decide)))) | (with_reducible refine ok_ct ?_ ?_; · (first | omega | ((try simp (disch := omega) only [w32_eq, w64_eq, ix_n, ix_e, sto_n, sto_e, sto_r, zf_r, Int.toNat_natCast, true_or, or_true, eq_self]) <;> (first | omega | decide)))) | (with_reducible refine ok_cf ?_ ?_; · (first | omega | ((try simp (disch := omega) only [w32_eq, w64_eq, ix_n, ix_e, sto_n, sto_e, sto_r, zf_r, Int.toNat_natCast, true_or, or_true, eq_self]) <;> (first | omega | decide)))))
      exact mid 1000 (by rw [if_neg c])
theorem l_reach164 {D : Nat → Int} {p : Nat} {M : Mem} (hp : p ≤ 13) (hD : ∀ s, s < 13 → M 109 s = D s ∧ (0 ≤ D s ∧ D s ≤ 10000)) : ∀ j fuel i : Nat, p + i + j = 13 → j < fuel → fix (fun _ _ _ => none) k_Ba_fewestToReach_164 fuel (fdS D p i) ((p + i : Nat) : Int) M = some (fdS D p (13 - p), M) := by
  have fb : ∀ i, p + i ≤ 13 → 0 ≤ fdS D p i ∧ fdS D p i ≤ 1000 := by
    intro i; induction i with
    | zero => intro _; rw [fdS]; decide
    | succ i ih =>
      intro hi
      have := ih (by omega)
      have := (hD (p + i) (by omega)).2
      rw [fdS]; unfold mn3; split <;> omega
  intro j; induction j with
  | zero =>
    intro fuel i e hf
    obtain ⟨f, rfl⟩ : ∃ f, fuel = f + 1 := ⟨fuel - 1, by omega⟩; rw [fix_s]; unfold k_Ba_fewestToReach_164
    repeat (first | with_reducible refine e_let ?_ | with_reducible refine e_cs ?_ | with_reducible refine e_clet ?_ | with_reducible refine e_cc ?_ | (with_reducible refine e_chk ?_ ?_; · (first | omega | ((try simp (disch := omega) only [w32_eq, w64_eq, ix_n, ix_e, sto_n, sto_e, sto_r, zf_r, Int.toNat_natCast, true_or, or_true, eq_self]) <;> (first | omega | decide)))) | (with_reducible refine e_cchk ?_ ?_; · (first | omega | ((try simp (disch := omega) only [w32_eq, w64_eq, ix_n, ix_e, sto_n, sto_e, sto_r, zf_r, Int.toNat_natCast, true_or, or_true, eq_self]) <;> (first | omega | decide)))) | (with_reducible refine e_t ?_ ?_; · (first | omega | ((try simp (disch := omega) only [w32_eq, w64_eq, ix_n, ix_e, sto_n, sto_e, sto_r, zf_r, Int.toNat_natCast, true_or, or_true, eq_self]) <;> (first | omega | decide)))) | (with_reducible refine e_f ?_ ?_; · (first | omega | ((try simp (disch := omega) only [w32_eq, w64_eq, ix_n, ix_e, sto_n, sto_e, sto_r, zf_r, Int.toNat_natCast, true_or, or_true, eq_self]) <;> (first | omega | decide)))) | (with_reducible refine e_ct ?_ ?_; · (first | omega | ((try simp (disch := omega) only [w32_eq, w64_eq, ix_n, ix_e, sto_n, sto_e, sto_r, zf_r, Int.toNat_natCast, true_or, or_true, eq_self]) <;> (first | omega | decide)))) | (with_reducible refine e_cf ?_ ?_; · (first | omega | ((try simp (disch := omega) only [w32_eq, w64_eq, ix_n, ix_e, sto_n, sto_e, sto_r, zf_r, Int.toNat_natCast, true_or, or_true, eq_self]) <;> (first | omega | decide)))))
    rw [show i = 13 - p by omega]
  | succ j ih =>
    intro fuel i e hf
    have b1 := fb i (by omega)
    obtain ⟨d1, d2⟩ := hD (p + i) (by omega)
    obtain ⟨f, rfl⟩ : ∃ f, fuel = f + 1 := ⟨fuel - 1, by omega⟩; rw [fix_s]
    have := ih f (i + 1) (by omega) (by omega)
    unfold k_Ba_fewestToReach_164
    repeat (first | with_reducible refine e_let ?_ | with_reducible refine e_cs ?_ | with_reducible refine e_clet ?_ | with_reducible refine e_cc ?_ | (with_reducible refine e_chk ?_ ?_; · (first | omega | ((try simp (disch := omega) only [w32_eq, w64_eq, ix_n, ix_e, sto_n, sto_e, sto_r, zf_r, Int.toNat_natCast, true_or, or_true, eq_self]) <;> (first | omega | decide)))) | (with_reducible refine e_cchk ?_ ?_; · (first | omega | ((try simp (disch := omega) only [w32_eq, w64_eq, ix_n, ix_e, sto_n, sto_e, sto_r, zf_r, Int.toNat_natCast, true_or, or_true, eq_self]) <;> (first | omega | decide)))) | (with_reducible refine e_t ?_ ?_; · (first | omega | ((try simp (disch := omega) only [w32_eq, w64_eq, ix_n, ix_e, sto_n, sto_e, sto_r, zf_r, Int.toNat_natCast, true_or, or_true, eq_self]) <;> (first | omega | decide)))) | (with_reducible refine e_f ?_ ?_; · (first | omega | ((try simp (disch := omega) only [w32_eq, w64_eq, ix_n, ix_e, sto_n, sto_e, sto_r, zf_r, Int.toNat_natCast, true_or, or_true, eq_self]) <;> (first | omega | decide)))) | (with_reducible refine e_ct ?_ ?_; · (first | omega | ((try simp (disch := omega) only [w32_eq, w64_eq, ix_n, ix_e, sto_n, sto_e, sto_r, zf_r, Int.toNat_natCast, true_or, or_true, eq_self]) <;> (first | omega | decide)))) | (with_reducible refine e_cf ?_ ?_; · (first | omega | ((try simp (disch := omega) only [w32_eq, w64_eq, ix_n, ix_e, sto_n, sto_e, sto_r, zf_r, Int.toNat_natCast, true_or, or_true, eq_self]) <;> (first | omega | decide)))))
    rw [ix_n (by omega), d1, mn32_3 ⟨by omega, by omega⟩ ⟨by omega, by omega⟩]
    exact this
theorem RdC.on {n : Nat} {ds v fr g : Nat → Int} {B : Nat → Nat} {M M' : Mem} (h : RdC n ds v fr g B M) (hF : Fr [109, 110] [] M M') : RdC n ds v fr g B M' := by
  unfold RdC at h ⊢
  rw [hF.f 5 0 (by decide) (by decide), hF.c 105 (by decide) (by decide), hF.c 106 (by decide) (by decide), hF.c 107 (by decide) (by decide), hF.c 6 (by decide) (by decide), hF.c 108 (by decide) (by decide)]
  exact h
theorem l_reach20 {n G : Nat} {ds v fr g : Nat → Int} {B : Nat → Nat} {M0 : Mem} (hG : G ≤ 1) (hn : n ≤ 20) (hR : RdC n ds v fr g B M0) (hO : Ord n B v) (hv : ∀ f, 0 ≤ v f ∧ v f ≤ 1000) (hfr : ∀ f, fr f = 0 ∨ fr f = 1) (hds : ∀ f, f < n → 0 ≤ ds f ∧ ds f ≤ 5) (hg : ∀ d, d < 6 → -100000 ≤ g d ∧ g d ≤ 100000) :
    ∀ (j fuel d : Nat) (M : Mem), d + j = 6 → j < fuel → Fr [109, 110] [] M0 M → (∀ s, s < 13 → M 109 s = dpS (tgS n B fr ds v g 0) (tgS n B fr ds v g 1) d s) →
    Ok (fix (fun _ _ _ => none) k_Ba_fewestToReach_20 fuel (G : Int) (d : Int) M) (fun x M' => x = fwS n B ds v fr g G ∧ Fr [109, 110] [] M0 M') := by
  have hb : ∀ e, (0 ≤ tgS n B fr ds v g 0 e ∧ tgS n B fr ds v g 0 e ≤ 1000) ∧ (0 ≤ tgS n B fr ds v g 1 e ∧ tgS n B fr ds v g 1 e ≤ 1000) := fun e => ⟨⟨tg_b e, tg_le hn e⟩, tg_b e, tg_le hn e⟩
  intro j; induction j with
  | zero =>
    intro fuel d M e hf hF h
    have : d = 6 := by omega
    subst this
    obtain ⟨f, rfl⟩ : ∃ f, fuel = f + 1 := ⟨fuel - 1, by omega⟩; rw [fix_s]; unfold k_Ba_fewestToReach_20
    repeat (first | with_reducible refine ok_let ?_ | with_reducible refine ok_cs ?_ | with_reducible refine ok_clet ?_ | with_reducible refine ok_cc ?_ | (with_reducible refine ok_chk ?_ ?_; · (first | omega | ((try simp (disch := omega) only [w32_eq, w64_eq, ix_n, ix_e, sto_n, sto_e, sto_r, zf_r, Int.toNat_natCast, true_or, or_true, eq_self]) <;> (first | omega | decide)))) | (with_reducible refine ok_cchk ?_ ?_; · (first | omega | ((try simp (disch := omega) only [w32_eq, w64_eq, ix_n, ix_e, sto_n, sto_e, sto_r, zf_r, Int.toNat_natCast, true_or, or_true, eq_self]) <;> (first | omega | decide)))) | (with_reducible refine ok_t ?_ ?_; · (first | omega | ((try simp (disch := omega) only [w32_eq, w64_eq, ix_n, ix_e, sto_n, sto_e, sto_r, zf_r, Int.toNat_natCast, true_or, or_true, eq_self]) <;> (first | omega | decide)))) | (with_reducible refine ok_f ?_ ?_; · (first | omega | ((try simp (disch := omega) only [w32_eq, w64_eq, ix_n, ix_e, sto_n, sto_e, sto_r, zf_r, Int.toNat_natCast, true_or, or_true, eq_self]) <;> (first | omega | decide)))) | (with_reducible refine ok_ct ?_ ?_; · (first | omega | ((try simp (disch := omega) only [w32_eq, w64_eq, ix_n, ix_e, sto_n, sto_e, sto_r, zf_r, Int.toNat_natCast, true_or, or_true, eq_self]) <;> (first | omega | decide)))) | (with_reducible refine ok_cf ?_ ?_; · (first | omega | ((try simp (disch := omega) only [w32_eq, w64_eq, ix_n, ix_e, sto_n, sto_e, sto_r, zf_r, Int.toNat_natCast, true_or, or_true, eq_self]) <;> (first | omega | decide)))))
    rw [show (6 : Int) + (G : Int) = ((6 + G + 0 : Nat) : Int) by omega]
    refine ok_eq (l_reach164 (D := dpS (tgS n B fr ds v g 0) (tgS n B fr ds v g 1) 6) (p := 6 + G) (by omega) (fun s hs => ⟨h s hs, ?_⟩) (7 - G) FU 0 (by omega) (by unfold FU; omega)) ⟨?_, hF⟩
    · have := dp_b hb 6 s; omega
    · unfold fwS; rw [show 13 - (6 + G) = 7 - G by omega]
  | succ j ih =>
    intro fuel d M e hf hF h
    have hj : (d : Int) + 1 = ((d + 1 : Nat) : Int) := by omega
    obtain ⟨f, rfl⟩ : ∃ f, fuel = f + 1 := ⟨fuel - 1, by omega⟩; rw [fix_s]; unfold k_Ba_fewestToReach_20
    repeat (first | with_reducible refine ok_let ?_ | with_reducible refine ok_cs ?_ | with_reducible refine ok_clet ?_ | with_reducible refine ok_cc ?_ | (with_reducible refine ok_chk ?_ ?_; · (first | omega | ((try simp (disch := omega) only [w32_eq, w64_eq, ix_n, ix_e, sto_n, sto_e, sto_r, zf_r, Int.toNat_natCast, true_or, or_true, eq_self]) <;> (first | omega | decide)))) | (with_reducible refine ok_cchk ?_ ?_; · (first | omega | ((try simp (disch := omega) only [w32_eq, w64_eq, ix_n, ix_e, sto_n, sto_e, sto_r, zf_r, Int.toNat_natCast, true_or, or_true, eq_self]) <;> (first | omega | decide)))) | (with_reducible refine ok_t ?_ ?_; · (first | omega | ((try simp (disch := omega) only [w32_eq, w64_eq, ix_n, ix_e, sto_n, sto_e, sto_r, zf_r, Int.toNat_natCast, true_or, or_true, eq_self]) <;> (first | omega | decide)))) | (with_reducible refine ok_f ?_ ?_; · (first | omega | ((try simp (disch := omega) only [w32_eq, w64_eq, ix_n, ix_e, sto_n, sto_e, sto_r, zf_r, Int.toNat_natCast, true_or, or_true, eq_self]) <;> (first | omega | decide)))) | (with_reducible refine ok_ct ?_ ?_; · (first | omega | ((try simp (disch := omega) only [w32_eq, w64_eq, ix_n, ix_e, sto_n, sto_e, sto_r, zf_r, Int.toNat_natCast, true_or, or_true, eq_self]) <;> (first | omega | decide)))) | (with_reducible refine ok_cf ?_ ?_; · (first | omega | ((try simp (disch := omega) only [w32_eq, w64_eq, ix_n, ix_e, sto_n, sto_e, sto_r, zf_r, Int.toNat_natCast, true_or, or_true, eq_self]) <;> (first | omega | decide)))))
    have F1 : Fr [109, 110] [] M0 (cpy M 109 0 110 0 13) := Fr.trans hF (fun c hc k _ => by rw [cpy_r (by intro q; subst q; exact hc (by decide))])
    have c110 : ∀ s, s < 13 → cpy M 109 0 110 0 13 110 s = dpS (tgS n B fr ds v g 0) (tgS n B fr ds v g 1) d s := fun s hs => by
      rw [cpy_c, if_pos (by omega), show 0 + (s - 0) = s by omega]; exact h s hs
    refine ok_call_eq (s_gain hn (hR.on F1) hO hv hfr hds (hg d (by omega)) (Or.inl rfl) (by omega)) ?_
    refine ok_call_eq (s_gain hn (hR.on F1) hO hv hfr hds (hg d (by omega)) (Or.inr rfl) (by omega)) ?_
    refine l_reach59 (te := tgS n B fr ds v g 0) (tw := tgS n B fr ds v g 1) (d := d) (by omega) hb (B := cpy M 109 0 110 0 13) c110 (fun M1 hF1 h1 => ?_) 13 FU 0 _ (by omega) (by unfold FU; omega) Fr.rfl' (fun u hu => by omega)
    rw [hj]
    exact ih f (d + 1) M1 (by omega) (by omega) (F1.trans (hF1.mono (by decide) (by decide))) h1
theorem s_reach {n G : Nat} {ds v fr g : Nat → Int} {B : Nat → Nat} {M : Mem} (hG : G ≤ 1) (hn : n ≤ 20) (hR : RdC n ds v fr g B M) (hO : Ord n B v) (hv : ∀ f, 0 ≤ v f ∧ v f ≤ 1000) (hfr : ∀ f, fr f = 0 ∨ fr f = 1) (hds : ∀ f, f < n → 0 ≤ ds f ∧ ds f ≤ 5) (hg : ∀ d, d < 6 → -100000 ≤ g d ∧ g d ≤ 100000) : Ok (d_Ba_fewestToReach (G : Int) M) (fun x M' => x = fwS n B ds v fr g G ∧ Fr [109, 110] [] M M') := by
  unfold d_Ba_fewestToReach
  refine ok_call_eq (s_fill1 (by decide)) ?_
  repeat (first | with_reducible refine ok_let ?_ | with_reducible refine ok_cs ?_ | with_reducible refine ok_clet ?_ | with_reducible refine ok_cc ?_ | (with_reducible refine ok_chk ?_ ?_; · (first | omega | ((try simp (disch := omega) only [w32_eq, w64_eq, ix_n, ix_e, sto_n, sto_e, sto_r, zf_r, Int.toNat_natCast, true_or, or_true, eq_self]) <;> (first | omega | decide)))) | (with_reducible refine ok_cchk ?_ ?_; · (first | omega | ((try simp (disch := omega) only [w32_eq, w64_eq, ix_n, ix_e, sto_n, sto_e, sto_r, zf_r, Int.toNat_natCast, true_or, or_true, eq_self]) <;> (first | omega | decide)))) | (with_reducible refine ok_t ?_ ?_; · (first | omega | ((try simp (disch := omega) only [w32_eq, w64_eq, ix_n, ix_e, sto_n, sto_e, sto_r, zf_r, Int.toNat_natCast, true_or, or_true, eq_self]) <;> (first | omega | decide)))) | (with_reducible refine ok_f ?_ ?_; · (first | omega | ((try simp (disch := omega) only [w32_eq, w64_eq, ix_n, ix_e, sto_n, sto_e, sto_r, zf_r, Int.toNat_natCast, true_or, or_true, eq_self]) <;> (first | omega | decide)))) | (with_reducible refine ok_ct ?_ ?_; · (first | omega | ((try simp (disch := omega) only [w32_eq, w64_eq, ix_n, ix_e, sto_n, sto_e, sto_r, zf_r, Int.toNat_natCast, true_or, or_true, eq_self]) <;> (first | omega | decide)))) | (with_reducible refine ok_cf ?_ ?_; · (first | omega | ((try simp (disch := omega) only [w32_eq, w64_eq, ix_n, ix_e, sto_n, sto_e, sto_r, zf_r, Int.toNat_natCast, true_or, or_true, eq_self]) <;> (first | omega | decide)))))
  refine l_reach20 hG hn hR hO hv hfr hds hg 6 FU 0 _ (by omega) (by unfold FU; omega) (Fr.trans (fr_zf (by decide)) (fr_stoA (by decide))) (fun s hs => ?_)
  rw [sto_up, dpS]
  unfold up
  by_cases c : s = 6
  · rw [if_pos c, if_pos c]
  · rw [if_neg c, if_neg c, zf_c, if_pos (by omega)]
