/-! the component plays an event; all events -/
theorem c_event {F : Nat → Int → (Nat → Int) → Int} {M0 M S : Mem} {n : Nat} {kw : Int} (hA : AskI F M0) (hG : IvG F M0) (hE : IvE M0) (hP : IvP M0) (hM : ∀ c ∈ caL, M c = M0 c) (h77 : ∀ k : Nat, k < 120 → M 77 k = gS M0 k kw) (hn : (n : Int) < M0 111 7) (hW : PW M0 n S) (hR : RC n M S) :
    Ok (d_Pl_playEvent (n : Int) M) (fun _ M' => RC (n + 1) M' (stp M0 kw n S)) := by
  have hE1 := hE.1
  have hP1 := hP.1
  have hP2 := hP.2.1
  have n120 : n < 120 := by omega
  have q16 := hM 16 (by decide)
  have q18 := hM 18 (by decide)
  have q19 := hM 19 (by decide)
  have q20 := hM 20 (by decide)
  have q21 := hM 21 (by decide)
  have q22 := hM 22 (by decide)
  have ex : ix (n : Int) = n := ix_n (by omega)
  unfold d_Pl_playEvent
  by_cases h0 : M0 120 n = 0
  · obtain ⟨l1, l2, l3, l4, l5, l6, l7, l8, l9, l10, l11, l12, l13, l14⟩ := (hE.2.2.2.2.2.2.2.1 n hn).load h0
    repeat (first | with_reducible refine ok_let ?_ | with_reducible refine ok_cs ?_ | with_reducible refine ok_clet ?_ | with_reducible refine ok_cc ?_ | (with_reducible refine ok_chk ?_ ?_; · (first | omega | ((try simp (disch := omega) only [w32_eq, w64_eq, ix_n, ix_e, sto_n, sto_e, sto_r, zf_r, Int.toNat_natCast, true_or, or_true, eq_self, q16, l1]) <;> (first | omega | decide)))) | (with_reducible refine ok_cchk ?_ ?_; · (first | omega | ((try simp (disch := omega) only [w32_eq, w64_eq, ix_n, ix_e, sto_n, sto_e, sto_r, zf_r, Int.toNat_natCast, true_or, or_true, eq_self, q16, l1]) <;> (first | omega | decide)))) | (with_reducible refine ok_t ?_ ?_; · (first | omega | ((try simp (disch := omega) only [w32_eq, w64_eq, ix_n, ix_e, sto_n, sto_e, sto_r, zf_r, Int.toNat_natCast, true_or, or_true, eq_self, q16, l1]) <;> (first | omega | decide)))) | (with_reducible refine ok_f ?_ ?_; · (first | omega | ((try simp (disch := omega) only [w32_eq, w64_eq, ix_n, ix_e, sto_n, sto_e, sto_r, zf_r, Int.toNat_natCast, true_or, or_true, eq_self, q16, l1]) <;> (first | omega | decide)))) | (with_reducible refine ok_ct ?_ ?_; · (first | omega | ((try simp (disch := omega) only [w32_eq, w64_eq, ix_n, ix_e, sto_n, sto_e, sto_r, zf_r, Int.toNat_natCast, true_or, or_true, eq_self, q16, l1]) <;> (first | omega | decide)))) | (with_reducible refine ok_cf ?_ ?_; · (first | omega | ((try simp (disch := omega) only [w32_eq, w64_eq, ix_n, ix_e, sto_n, sto_e, sto_r, zf_r, Int.toNat_natCast, true_or, or_true, eq_self, q16, l1]) <;> (first | omega | decide)))))
    rw [ex, q18, l3]
    refine ok_call (c_bring hA hG hE hP hM h77 hn h0 hW hR) (fun v M' h => ok_ret ?_)
    unfold stp; rw [if_pos h0]; exact h
  · obtain ⟨t0, t1, t2, t3, t4, t5, t6, t7, t8, t9, t10⟩ := (hE.2.2.2.2.2.2.2.1 n hn).other h0
    obtain ⟨-, htk, hsl, hpr, hsum⟩ := hW.other hE hP hn h0
    obtain ⟨p1, p2, p3, p4, p5, p6, p7⟩ := hW
    obtain ⟨r1, r2, r3, r4, r5⟩ := hR
    have take := s_takeParts r1 n120 n120 hsl (fun f hf => by have := p1 (20 * slO M0 n + f) (by omega); omega) (show M 22 n = M0 126 n by rw [q22, t4]) t7 (w := wO S (slO M0 n)) rfl (tk := tkO M0 n S) rfl
    have k01 : ∀ M' : Mem, M' 76 = up (M 76) n (tkO M0 n S) → ∀ k, k < n + 1 → M' 76 k = stp M0 kw n S 4 k := by
      intro M' h k hk
      unfold stp; rw [if_neg h0, h]
      show _ = up (S 4) n _ k
      unfold up; split
      · rfl
      · exact r5 k (by omega)
    have k02 : ∀ M' : Mem, M' 75 14 = M 75 14 + (M0 126 n - tkO M0 n S) → M' 75 14 = stp M0 kw n S 3 0 := by
      intro M' h
      unfold stp; rw [if_neg h0, h, r4]
      show _ = up (S 3) 0 _ 0
      rw [up_e]
    have hstp : stp M0 kw n S = stO M0 n S := by unfold stp; rw [if_neg h0]
    rcases t0 with h1 | h1 | h1
    · -- a car
      have t9' := t9 (by omega)
      have t10' := t10 h1
      obtain ⟨e, hee⟩ : ∃ e : Nat, M0 122 n = (e : Int) := ⟨(M0 122 n).toNat, by omega⟩
      have es : (e : Int) * 60 + M0 124 n * 10 + M0 125 n = ((slO M0 n : Nat) : Int) := by unfold slO; rw [if_neg (by omega), hee]; omega
      have ep : (8 + M0 123 n) * 60 + M0 124 n * 10 + M0 125 n = ((slP M0 n : Nat) : Int) := by unfold slP; omega
      have hslP : slP M0 n < 600 := by unfold slP; omega
      repeat (first | with_reducible refine ok_let ?_ | with_reducible refine ok_cs ?_ | with_reducible refine ok_clet ?_ | with_reducible refine ok_cc ?_ | (with_reducible refine ok_chk ?_ ?_; · (first | omega | ((try simp (disch := omega) only [w32_eq, w64_eq, ix_n, ix_e, sto_n, sto_e, sto_r, zf_r, Int.toNat_natCast, true_or, or_true, eq_self, q16, t1, h1]) <;> (first | omega | decide)))) | (with_reducible refine ok_cchk ?_ ?_; · (first | omega | ((try simp (disch := omega) only [w32_eq, w64_eq, ix_n, ix_e, sto_n, sto_e, sto_r, zf_r, Int.toNat_natCast, true_or, or_true, eq_self, q16, t1, h1]) <;> (first | omega | decide)))) | (with_reducible refine ok_t ?_ ?_; · (first | omega | ((try simp (disch := omega) only [w32_eq, w64_eq, ix_n, ix_e, sto_n, sto_e, sto_r, zf_r, Int.toNat_natCast, true_or, or_true, eq_self, q16, t1, h1]) <;> (first | omega | decide)))) | (with_reducible refine ok_f ?_ ?_; · (first | omega | ((try simp (disch := omega) only [w32_eq, w64_eq, ix_n, ix_e, sto_n, sto_e, sto_r, zf_r, Int.toNat_natCast, true_or, or_true, eq_self, q16, t1, h1]) <;> (first | omega | decide)))) | (with_reducible refine ok_ct ?_ ?_; · (first | omega | ((try simp (disch := omega) only [w32_eq, w64_eq, ix_n, ix_e, sto_n, sto_e, sto_r, zf_r, Int.toNat_natCast, true_or, or_true, eq_self, q16, t1, h1]) <;> (first | omega | decide)))) | (with_reducible refine ok_cf ?_ ?_; · (first | omega | ((try simp (disch := omega) only [w32_eq, w64_eq, ix_n, ix_e, sto_n, sto_e, sto_r, zf_r, Int.toNat_natCast, true_or, or_true, eq_self, q16, t1, h1]) <;> (first | omega | decide)))))
      rw [ex, q18, t9'.1, q20, t2, q21, t3, q19, t10'.1, hee]
      refine ok_call_eq s_slotB ?_
      rw [es]
      refine ok_call take (fun v M1 hv => ?_)
      obtain ⟨⟨a1, a2, a3, a4⟩, hF⟩ := hv
      repeat (first | with_reducible refine ok_let ?_ | with_reducible refine ok_cs ?_ | with_reducible refine ok_clet ?_ | with_reducible refine ok_cc ?_ | (with_reducible refine ok_chk ?_ ?_; · (first | omega | ((try simp (disch := omega) only [w32_eq, w64_eq, ix_n, ix_e, sto_n, sto_e, sto_r, zf_r, Int.toNat_natCast, true_or, or_true, eq_self]) <;> (first | omega | decide)))) | (with_reducible refine ok_cchk ?_ ?_; · (first | omega | ((try simp (disch := omega) only [w32_eq, w64_eq, ix_n, ix_e, sto_n, sto_e, sto_r, zf_r, Int.toNat_natCast, true_or, or_true, eq_self]) <;> (first | omega | decide)))) | (with_reducible refine ok_t ?_ ?_; · (first | omega | ((try simp (disch := omega) only [w32_eq, w64_eq, ix_n, ix_e, sto_n, sto_e, sto_r, zf_r, Int.toNat_natCast, true_or, or_true, eq_self]) <;> (first | omega | decide)))) | (with_reducible refine ok_f ?_ ?_; · (first | omega | ((try simp (disch := omega) only [w32_eq, w64_eq, ix_n, ix_e, sto_n, sto_e, sto_r, zf_r, Int.toNat_natCast, true_or, or_true, eq_self]) <;> (first | omega | decide)))) | (with_reducible refine ok_ct ?_ ?_; · (first | omega | ((try simp (disch := omega) only [w32_eq, w64_eq, ix_n, ix_e, sto_n, sto_e, sto_r, zf_r, Int.toNat_natCast, true_or, or_true, eq_self]) <;> (first | omega | decide)))) | (with_reducible refine ok_cf ?_ ?_; · (first | omega | ((try simp (disch := omega) only [w32_eq, w64_eq, ix_n, ix_e, sto_n, sto_e, sto_r, zf_r, Int.toNat_natCast, true_or, or_true, eq_self]) <;> (first | omega | decide)))))
      refine ok_call_eq s_slotP ?_
      rw [ep, ix_n (show e < 2147483648 by omega)]
      refine ok_call (s_openRow (a1.on (M' := sto M1 83 e (M1 83 e - M1 76 n)) (by rw [sto_r (by decide)]) (by rw [sto_r (by decide)]) (by rw [sto_r (by decide)])) hslP n120) (fun v M2 hv => ?_)
      obtain ⟨⟨o1, o2, o3⟩, hF2⟩ := hv
      obtain ⟨r, hr⟩ : ∃ r : Nat, M2 81 (slP M0 n) = (r : Int) := ⟨(M2 81 (slP M0 n)).toNat, by omega⟩
      rw [o3, hr]
      refine ok_call_eq (s_addParts (by omega)) (ok_ret ?_)
      rw [hstp]
      have h86 : M2 86 = M1 86 := by rw [hF2.c 86 (by decide) (by decide), sto_r (by decide)]
      refine ⟨?_, fun e1 he1 => ?_, fun j hj => ?_, ?_, ?_⟩
      · have q := o1.add hslP (p := M2 86) (p' := prO M0 n S) (by omega) (fun f hf => by rw [h86, a2 f hf]; rfl)
        rw [hr, Int.toNat_natCast] at q
        have e0 : stO M0 n S 0 = adS (adS (S 0) (20 * slO M0 n) (fun f => - prO M0 n S f)) (20 * slP M0 n) (prO M0 n S) := by
          show (if M0 120 n = 1 then _ else _) = _
          rw [if_pos h1]
        rw [e0]; exact q
      · rw [sc_r (by decide), hF2.c 83 (by decide) (by decide), sto_up, hF.c 83 (by decide) (by decide), a3, up_e]
        show _ = (if M0 120 n = 2 then S 1 else _ : Nat → Int) e1
        rw [if_neg (by omega), hee, Int.toNat_natCast]
        unfold up; split
        · rw [r2 e (by omega)]
        · exact r2 e1 he1
      · rw [sc_r (by decide), hF2.c 84 (by decide) (by decide), sto_r (by decide), hF.c 84 (by decide) (by decide)]
        show _ = (if M0 120 n = 2 then _ else if M0 120 n = 3 then _ else S 2 : Nat → Int) j
        rw [if_neg (by omega), if_neg (by omega)]; exact r3 j hj
      · rw [← hstp]; refine k02 _ ?_
        rw [sc_r (by decide), hF2.f 75 14 (by decide) (by decide), sto_r (by decide)]; exact a4
      · rw [← hstp]; refine k01 _ ?_
        rw [sc_r (by decide), hF2.c 76 (by decide) (by decide), sto_r (by decide)]; exact a3
    · -- a sale
      have t8' := t8 h1
      have es : (8 + M0 122 n) * 60 + M0 124 n * 10 + M0 125 n = ((slO M0 n : Nat) : Int) := by unfold slO; rw [if_pos h1]; omega
      repeat (first | with_reducible refine ok_let ?_ | with_reducible refine ok_cs ?_ | with_reducible refine ok_clet ?_ | with_reducible refine ok_cc ?_ | (with_reducible refine ok_chk ?_ ?_; · (first | omega | ((try simp (disch := omega) only [w32_eq, w64_eq, ix_n, ix_e, sto_n, sto_e, sto_r, zf_r, Int.toNat_natCast, true_or, or_true, eq_self, q16, t1, h1]) <;> (first | omega | decide)))) | (with_reducible refine ok_cchk ?_ ?_; · (first | omega | ((try simp (disch := omega) only [w32_eq, w64_eq, ix_n, ix_e, sto_n, sto_e, sto_r, zf_r, Int.toNat_natCast, true_or, or_true, eq_self, q16, t1, h1]) <;> (first | omega | decide)))) | (with_reducible refine ok_t ?_ ?_; · (first | omega | ((try simp (disch := omega) only [w32_eq, w64_eq, ix_n, ix_e, sto_n, sto_e, sto_r, zf_r, Int.toNat_natCast, true_or, or_true, eq_self, q16, t1, h1]) <;> (first | omega | decide)))) | (with_reducible refine ok_f ?_ ?_; · (first | omega | ((try simp (disch := omega) only [w32_eq, w64_eq, ix_n, ix_e, sto_n, sto_e, sto_r, zf_r, Int.toNat_natCast, true_or, or_true, eq_self, q16, t1, h1]) <;> (first | omega | decide)))) | (with_reducible refine ok_ct ?_ ?_; · (first | omega | ((try simp (disch := omega) only [w32_eq, w64_eq, ix_n, ix_e, sto_n, sto_e, sto_r, zf_r, Int.toNat_natCast, true_or, or_true, eq_self, q16, t1, h1]) <;> (first | omega | decide)))) | (with_reducible refine ok_cf ?_ ?_; · (first | omega | ((try simp (disch := omega) only [w32_eq, w64_eq, ix_n, ix_e, sto_n, sto_e, sto_r, zf_r, Int.toNat_natCast, true_or, or_true, eq_self, q16, t1, h1]) <;> (first | omega | decide)))))
      rw [ex, q20, t2, q21, t3, q19, t8'.1]
      refine ok_call_eq s_slotP ?_
      rw [es]
      refine ok_call take (fun v M1 hv => ?_)
      obtain ⟨⟨a1, a2, a3, a4⟩, hF⟩ := hv
      refine ok_call_eq (s_countParts (r := 2) (by decide)) (ok_ret ?_)
      rw [hstp]
      refine ⟨?_, fun e1 he1 => ?_, fun j hj => ?_, ?_, ?_⟩
      · have e0 : stO M0 n S 0 = adS (S 0) (20 * slO M0 n) (fun f => - prO M0 n S f) := by
          show (if M0 120 n = 1 then _ else _) = _
          rw [if_neg (by omega)]
        rw [e0]
        obtain ⟨u1, u2, u3, u4, u5⟩ := a1.on (M' := sc M1 84 (adS (M1 84) (20 * 2) (M1 86))) (by rw [sc_r (by decide)]) (by rw [sc_r (by decide)]) (by rw [sc_r (by decide)])
        exact ⟨⟨u1.1, by omega⟩, u2, u3, u4, u5⟩
      · rw [sc_r (by decide), hF.c 83 (by decide) (by decide)]
        show _ = (if M0 120 n = 2 then S 1 else _ : Nat → Int) e1
        rw [if_pos h1]; exact r2 e1 he1
      · rw [sc_e, hF.c 84 (by decide) (by decide)]
        show _ = (if M0 120 n = 2 then _ else if M0 120 n = 3 then _ else S 2 : Nat → Int) j
        rw [if_pos h1]
        show adS (M 84) 40 (M1 86) j = adS (S 2) 40 (prO M0 n S) j
        unfold adS; split
        · rename_i c; rw [r3 j hj, a2 (j - 40) (by omega)]; rfl
        · exact r3 j hj
      · rw [← hstp]; refine k02 _ ?_
        rw [sc_r (by decide)]; exact a4
      · rw [← hstp]; refine k01 _ ?_
        rw [sc_r (by decide)]; exact a3
    · -- a spoiling
      have t9' := t9 (by omega)
      obtain ⟨e, hee⟩ : ∃ e : Nat, M0 122 n = (e : Int) := ⟨(M0 122 n).toNat, by omega⟩
      have es : (e : Int) * 60 + M0 124 n * 10 + M0 125 n = ((slO M0 n : Nat) : Int) := by unfold slO; rw [if_neg (by omega), hee]; omega
      repeat (first | with_reducible refine ok_let ?_ | with_reducible refine ok_cs ?_ | with_reducible refine ok_clet ?_ | with_reducible refine ok_cc ?_ | (with_reducible refine ok_chk ?_ ?_; · (first | omega | ((try simp (disch := omega) only [w32_eq, w64_eq, ix_n, ix_e, sto_n, sto_e, sto_r, zf_r, Int.toNat_natCast, true_or, or_true, eq_self, q16, t1, h1]) <;> (first | omega | decide)))) | (with_reducible refine ok_cchk ?_ ?_; · (first | omega | ((try simp (disch := omega) only [w32_eq, w64_eq, ix_n, ix_e, sto_n, sto_e, sto_r, zf_r, Int.toNat_natCast, true_or, or_true, eq_self, q16, t1, h1]) <;> (first | omega | decide)))) | (with_reducible refine ok_t ?_ ?_; · (first | omega | ((try simp (disch := omega) only [w32_eq, w64_eq, ix_n, ix_e, sto_n, sto_e, sto_r, zf_r, Int.toNat_natCast, true_or, or_true, eq_self, q16, t1, h1]) <;> (first | omega | decide)))) | (with_reducible refine ok_f ?_ ?_; · (first | omega | ((try simp (disch := omega) only [w32_eq, w64_eq, ix_n, ix_e, sto_n, sto_e, sto_r, zf_r, Int.toNat_natCast, true_or, or_true, eq_self, q16, t1, h1]) <;> (first | omega | decide)))) | (with_reducible refine ok_ct ?_ ?_; · (first | omega | ((try simp (disch := omega) only [w32_eq, w64_eq, ix_n, ix_e, sto_n, sto_e, sto_r, zf_r, Int.toNat_natCast, true_or, or_true, eq_self, q16, t1, h1]) <;> (first | omega | decide)))) | (with_reducible refine ok_cf ?_ ?_; · (first | omega | ((try simp (disch := omega) only [w32_eq, w64_eq, ix_n, ix_e, sto_n, sto_e, sto_r, zf_r, Int.toNat_natCast, true_or, or_true, eq_self, q16, t1, h1]) <;> (first | omega | decide)))))
      rw [ex, q18, t9'.1, q20, t2, q21, t3, hee]
      refine ok_call_eq s_slotB ?_
      rw [es]
      refine ok_call take (fun v M1 hv => ?_)
      obtain ⟨⟨a1, a2, a3, a4⟩, hF⟩ := hv
      repeat (first | with_reducible refine ok_let ?_ | with_reducible refine ok_cs ?_ | with_reducible refine ok_clet ?_ | with_reducible refine ok_cc ?_ | (with_reducible refine ok_chk ?_ ?_; · (first | omega | ((try simp (disch := omega) only [w32_eq, w64_eq, ix_n, ix_e, sto_n, sto_e, sto_r, zf_r, Int.toNat_natCast, true_or, or_true, eq_self]) <;> (first | omega | decide)))) | (with_reducible refine ok_cchk ?_ ?_; · (first | omega | ((try simp (disch := omega) only [w32_eq, w64_eq, ix_n, ix_e, sto_n, sto_e, sto_r, zf_r, Int.toNat_natCast, true_or, or_true, eq_self]) <;> (first | omega | decide)))) | (with_reducible refine ok_t ?_ ?_; · (first | omega | ((try simp (disch := omega) only [w32_eq, w64_eq, ix_n, ix_e, sto_n, sto_e, sto_r, zf_r, Int.toNat_natCast, true_or, or_true, eq_self]) <;> (first | omega | decide)))) | (with_reducible refine ok_f ?_ ?_; · (first | omega | ((try simp (disch := omega) only [w32_eq, w64_eq, ix_n, ix_e, sto_n, sto_e, sto_r, zf_r, Int.toNat_natCast, true_or, or_true, eq_self]) <;> (first | omega | decide)))) | (with_reducible refine ok_ct ?_ ?_; · (first | omega | ((try simp (disch := omega) only [w32_eq, w64_eq, ix_n, ix_e, sto_n, sto_e, sto_r, zf_r, Int.toNat_natCast, true_or, or_true, eq_self]) <;> (first | omega | decide)))) | (with_reducible refine ok_cf ?_ ?_; · (first | omega | ((try simp (disch := omega) only [w32_eq, w64_eq, ix_n, ix_e, sto_n, sto_e, sto_r, zf_r, Int.toNat_natCast, true_or, or_true, eq_self]) <;> (first | omega | decide)))))
      rw [ix_n (show e < 2147483648 by omega)]
      refine ok_call_eq (s_countParts (r := 3) (by decide)) (ok_ret ?_)
      rw [hstp]
      refine ⟨?_, fun e1 he1 => ?_, fun j hj => ?_, ?_, ?_⟩
      · have e0 : stO M0 n S 0 = adS (S 0) (20 * slO M0 n) (fun f => - prO M0 n S f) := by
          show (if M0 120 n = 1 then _ else _) = _
          rw [if_neg (by omega)]
        rw [e0]
        obtain ⟨u1, u2, u3, u4, u5⟩ := a1.on (M' := sc (sto M1 83 e (M1 83 e - M1 76 n)) 84 (adS (sto M1 83 e (M1 83 e - M1 76 n) 84) (20 * 3) (sto M1 83 e (M1 83 e - M1 76 n) 86))) (by rw [sc_r (by decide), sto_r (by decide)]) (by rw [sc_r (by decide), sto_r (by decide)]) (by rw [sc_r (by decide), sto_r (by decide)])
        exact ⟨⟨u1.1, by omega⟩, u2, u3, u4, u5⟩
      · rw [sc_r (by decide), sto_up, hF.c 83 (by decide) (by decide), a3, up_e]
        show _ = (if M0 120 n = 2 then S 1 else _ : Nat → Int) e1
        rw [if_neg (by omega), hee, Int.toNat_natCast]
        unfold up; split
        · rw [r2 e (by omega)]
        · exact r2 e1 he1
      · rw [sc_e, sto_r (by decide), sto_r (by decide), hF.c 84 (by decide) (by decide)]
        show _ = (if M0 120 n = 2 then _ else if M0 120 n = 3 then _ else S 2 : Nat → Int) j
        rw [if_neg (by omega), if_pos h1]
        show adS (M 84) 60 (M1 86) j = adS (S 2) 60 (prO M0 n S) j
        unfold adS; split
        · rename_i c; rw [r3 j hj, a2 (j - 60) (by omega)]; rfl
        · exact r3 j hj
      · rw [← hstp]; refine k02 _ ?_
        rw [sc_r (by decide), sto_r (by decide)]; exact a4
      · rw [← hstp]; refine k01 _ ?_
        rw [sc_r (by decide), sto_r (by decide)]; exact a3
theorem PW_py {F : Nat → Int → (Nat → Int) → Int} {M : Mem} {kw : Int} (hA : AskI F M) (hG : IvG F M) (hE : IvE M) (hP : IvP M) : ∀ n : Nat, (n : Int) ≤ M 111 7 → PW M n (pyS M kw n)
  | 0, _ => by
    refine ⟨fun i _ => ?_, fun e _ => ?_, fun e he => ?_, fun s f _ _ _ => rfl, fun j _ => ?_, ?_, fun k hk => by omega⟩
    · show (0 : Int) ≤ 0 ∧ (0 : Int) ≤ _; omega
    · show (0 : Int) = sm (fun _ => 0) 1200; rw [sm_0 1200 (fun _ _ => rfl)]
    · show (0 : Int) ≤ _; have := (hP.2.2.2.2.2.2.1 e he).2.2.2; omega
    · show (0 : Int) ≤ 0 ∧ (0 : Int) ≤ _; omega
    · show (0 : Int) ≤ 0 ∧ (0 : Int) ≤ _; omega
  | n + 1, h => by
    have q := PW_py (kw := kw) hA hG hE hP n (by omega)
    rw [pyS]; unfold stp
    split
    · exact (q.load hA hG hE hP (by omega) (by assumption)).1
    · exact (q.other hE hP (by omega) (by assumption)).1
/-- how many events are known -/
def cnK (K : Nat → Int) (kw : Int) : Nat → Nat
  | 0 => 0
  | n + 1 => if cnK K kw n = n ∧ K n ≤ kw then n + 1 else cnK K kw n
theorem cnK_le {K : Nat → Int} {kw : Int} : ∀ n : Nat, cnK K kw n ≤ n
  | 0 => Nat.le_refl _
  | n + 1 => by have := cnK_le (K := K) (kw := kw) n; unfold cnK; split <;> omega
theorem cnK_eq {K : Nat → Int} {kw : Int} {i : Nat} : ∀ n : Nat, i ≤ n → (∀ k, k < i → K k ≤ kw) → (i = n ∨ kw < K i) → cnK K kw n = i
  | 0, h, _, _ => by unfold cnK; omega
  | n + 1, h, h1, h2 => by
    by_cases c : i = n + 1
    · have e := cnK_eq (K := K) (kw := kw) (i := n) n (Nat.le_refl _) (fun k hk => h1 k (by omega)) (Or.inl rfl)
      unfold cnK
      rw [if_pos ⟨e, h1 n (by omega)⟩, c]
    · have e := cnK_eq (K := K) (kw := kw) (i := i) n (by omega) h1 (by omega)
      unfold cnK
      rw [e, if_neg]
      intro q
      rcases h2 with h2 | h2
      · omega
      · rw [q.1] at h2; omega
theorem cnK_lt {K : Nat → Int} {kw : Int} : ∀ n k : Nat, k < cnK K kw n → K k ≤ kw
  | 0, k, h => by unfold cnK at h; omega
  | n + 1, k, h => by
    unfold cnK at h
    split at h
    · by_cases c : k = n
      · rw [c]; exact (by assumption : _ ∧ _).2
      · exact cnK_lt n k (by have := (by assumption : _ ∧ _).1; omega)
    · exact cnK_lt n k h
theorem cnK_ge {K : Nat → Int} {kw : Int} (hm : ∀ i k : Nat, i ≤ k → K i ≤ K k) : ∀ n k : Nat, cnK K kw n ≤ k → k < n → kw < K k
  | 0, k, _, h => by omega
  | n + 1, k, h1, h2 => by
    by_cases c : cnK K kw n = n ∧ K n ≤ kw
    · unfold cnK at h1; rw [if_pos c] at h1; omega
    · unfold cnK at h1; rw [if_neg c] at h1
      by_cases e : k = n
      · by_cases d : cnK K kw n = n
        · rw [e]; omega
        · have := cnK_le (K := K) (kw := kw) n
          have q := cnK_ge hm n (cnK K kw n) (Nat.le_refl _) (by omega)
          have := hm (cnK K kw n) k (by omega)
          omega
      · exact cnK_ge hm n k h1 (by omega)
theorem l_cnt {M : Mem} {kw : Int} {N : Nat} (hN : N ≤ 120) (h15 : M 15 0 = N) (hkw : 0 ≤ kw ∧ kw ≤ 519) (hb : ∀ k : Nat, k < N → 0 ≤ M 26 k ∧ M 26 k ≤ 519) : ∀ n fuel i : Nat, i + n = N → n < fuel → (∀ k, k < i → M 26 k ≤ kw) → fix (fun _ _ _ => none) k_Jo_countKnownBy_2 fuel kw (i : Int) M = some (((cnK (M 26) kw N : Nat) : Int), M) := by
  intro n; induction n with
  | zero =>
    intro fuel i e hf h1
    obtain ⟨f, rfl⟩ : ∃ f, fuel = f + 1 := ⟨fuel - 1, by omega⟩
    rw [fix_s]; unfold k_Jo_countKnownBy_2
    repeat (first | with_reducible refine e_let ?_ | with_reducible refine e_cs ?_ | with_reducible refine e_clet ?_ | with_reducible refine e_cc ?_ | (with_reducible refine e_chk ?_ ?_; · (first | omega | ((try simp (disch := omega) only [w32_eq, w64_eq, ix_n, ix_e, sto_n, sto_e, sto_r, zf_r, Int.toNat_natCast, true_or, or_true, eq_self, h15]) <;> (first | omega | decide)))) | (with_reducible refine e_cchk ?_ ?_; · (first | omega | ((try simp (disch := omega) only [w32_eq, w64_eq, ix_n, ix_e, sto_n, sto_e, sto_r, zf_r, Int.toNat_natCast, true_or, or_true, eq_self, h15]) <;> (first | omega | decide)))) | (with_reducible refine e_t ?_ ?_; · (first | omega | ((try simp (disch := omega) only [w32_eq, w64_eq, ix_n, ix_e, sto_n, sto_e, sto_r, zf_r, Int.toNat_natCast, true_or, or_true, eq_self, h15]) <;> (first | omega | decide)))) | (with_reducible refine e_f ?_ ?_; · (first | omega | ((try simp (disch := omega) only [w32_eq, w64_eq, ix_n, ix_e, sto_n, sto_e, sto_r, zf_r, Int.toNat_natCast, true_or, or_true, eq_self, h15]) <;> (first | omega | decide)))) | (with_reducible refine e_ct ?_ ?_; · (first | omega | ((try simp (disch := omega) only [w32_eq, w64_eq, ix_n, ix_e, sto_n, sto_e, sto_r, zf_r, Int.toNat_natCast, true_or, or_true, eq_self, h15]) <;> (first | omega | decide)))) | (with_reducible refine e_cf ?_ ?_; · (first | omega | ((try simp (disch := omega) only [w32_eq, w64_eq, ix_n, ix_e, sto_n, sto_e, sto_r, zf_r, Int.toNat_natCast, true_or, or_true, eq_self, h15]) <;> (first | omega | decide)))))
    rw [cnK_eq (i := i) N (by omega) h1 (by omega)]
  | succ n ih =>
    intro fuel i e hf h1
    have hbi := hb i (by omega)
    obtain ⟨f, rfl⟩ : ∃ f, fuel = f + 1 := ⟨fuel - 1, by omega⟩
    rw [fix_s]
    have hj : (i : Int) + 1 = ((i + 1 : Nat) : Int) := by omega
    unfold k_Jo_countKnownBy_2
    by_cases c : M 26 i ≤ kw
    · repeat (first | with_reducible refine e_let ?_ | with_reducible refine e_cs ?_ | with_reducible refine e_clet ?_ | with_reducible refine e_cc ?_ | (with_reducible refine e_chk ?_ ?_; · (first | omega | ((try simp (disch := omega) only [w32_eq, w64_eq, ix_n, ix_e, sto_n, sto_e, sto_r, zf_r, Int.toNat_natCast, true_or, or_true, eq_self, h15]) <;> (first | omega | decide)))) | (with_reducible refine e_cchk ?_ ?_; · (first | omega | ((try simp (disch := omega) only [w32_eq, w64_eq, ix_n, ix_e, sto_n, sto_e, sto_r, zf_r, Int.toNat_natCast, true_or, or_true, eq_self, h15]) <;> (first | omega | decide)))) | (with_reducible refine e_t ?_ ?_; · (first | omega | ((try simp (disch := omega) only [w32_eq, w64_eq, ix_n, ix_e, sto_n, sto_e, sto_r, zf_r, Int.toNat_natCast, true_or, or_true, eq_self, h15]) <;> (first | omega | decide)))) | (with_reducible refine e_f ?_ ?_; · (first | omega | ((try simp (disch := omega) only [w32_eq, w64_eq, ix_n, ix_e, sto_n, sto_e, sto_r, zf_r, Int.toNat_natCast, true_or, or_true, eq_self, h15]) <;> (first | omega | decide)))) | (with_reducible refine e_ct ?_ ?_; · (first | omega | ((try simp (disch := omega) only [w32_eq, w64_eq, ix_n, ix_e, sto_n, sto_e, sto_r, zf_r, Int.toNat_natCast, true_or, or_true, eq_self, h15]) <;> (first | omega | decide)))) | (with_reducible refine e_cf ?_ ?_; · (first | omega | ((try simp (disch := omega) only [w32_eq, w64_eq, ix_n, ix_e, sto_n, sto_e, sto_r, zf_r, Int.toNat_natCast, true_or, or_true, eq_self, h15]) <;> (first | omega | decide)))))
      rw [hj]
      exact ih f (i + 1) (by omega) (by omega) (fun k hk => by
        by_cases d : k = i
        · rw [d]; exact c
        · exact h1 k (by omega))
    · repeat (first | with_reducible refine e_let ?_ | with_reducible refine e_cs ?_ | with_reducible refine e_clet ?_ | with_reducible refine e_cc ?_ | (with_reducible refine e_chk ?_ ?_; · (first | omega | ((try simp (disch := omega) only [w32_eq, w64_eq, ix_n, ix_e, sto_n, sto_e, sto_r, zf_r, Int.toNat_natCast, true_or, or_true, eq_self, h15]) <;> (first | omega | decide)))) | (with_reducible refine e_cchk ?_ ?_; · (first | omega | ((try simp (disch := omega) only [w32_eq, w64_eq, ix_n, ix_e, sto_n, sto_e, sto_r, zf_r, Int.toNat_natCast, true_or, or_true, eq_self, h15]) <;> (first | omega | decide)))) | (with_reducible refine e_t ?_ ?_; · (first | omega | ((try simp (disch := omega) only [w32_eq, w64_eq, ix_n, ix_e, sto_n, sto_e, sto_r, zf_r, Int.toNat_natCast, true_or, or_true, eq_self, h15]) <;> (first | omega | decide)))) | (with_reducible refine e_f ?_ ?_; · (first | omega | ((try simp (disch := omega) only [w32_eq, w64_eq, ix_n, ix_e, sto_n, sto_e, sto_r, zf_r, Int.toNat_natCast, true_or, or_true, eq_self, h15]) <;> (first | omega | decide)))) | (with_reducible refine e_ct ?_ ?_; · (first | omega | ((try simp (disch := omega) only [w32_eq, w64_eq, ix_n, ix_e, sto_n, sto_e, sto_r, zf_r, Int.toNat_natCast, true_or, or_true, eq_self, h15]) <;> (first | omega | decide)))) | (with_reducible refine e_cf ?_ ?_; · (first | omega | ((try simp (disch := omega) only [w32_eq, w64_eq, ix_n, ix_e, sto_n, sto_e, sto_r, zf_r, Int.toNat_natCast, true_or, or_true, eq_self, h15]) <;> (first | omega | decide)))))
      rw [cnK_eq (i := i) N (by omega) h1 (by omega)]
theorem l_replay {F : Nat → Int → (Nat → Int) → Int} {M0 : Mem} {kw : Int} {N : Nat} (hA : AskI F M0) (hG : IvG F M0) (hE : IvE M0) (hP : IvP M0) (hN : (N : Int) ≤ M0 111 7) :
    ∀ (n fuel i : Nat) (M : Mem), i + n = N → n < fuel → (∀ c ∈ caL, M c = M0 c) → (∀ k : Nat, k < 120 → M 77 k = gS M0 k kw) → M 75 3 = (N : Int) → RC i M (pyS M0 kw i) →
    Ok (fix (fun _ _ => none) k_Pl_replay_53 fuel (i : Int) M) (fun _ M' => RC N M' (pyS M0 kw N) ∧ M' 75 3 = (N : Int) ∧ ∀ k : Nat, k < 120 → M' 77 k = gS M0 k kw) := by
  have hE1 := hE.1
  intro n; induction n with
  | zero =>
    intro fuel i M e hf hM h77 h3 hR
    obtain ⟨f, rfl⟩ : ∃ f, fuel = f + 1 := ⟨fuel - 1, by omega⟩
    rw [fix_s]; unfold k_Pl_replay_53
    repeat (first | with_reducible refine ok_let ?_ | with_reducible refine ok_cs ?_ | with_reducible refine ok_clet ?_ | with_reducible refine ok_cc ?_ | (with_reducible refine ok_chk ?_ ?_; · (first | omega | ((try simp (disch := omega) only [w32_eq, w64_eq, ix_n, ix_e, sto_n, sto_e, sto_r, zf_r, Int.toNat_natCast, true_or, or_true, eq_self, h3]) <;> (first | omega | decide)))) | (with_reducible refine ok_cchk ?_ ?_; · (first | omega | ((try simp (disch := omega) only [w32_eq, w64_eq, ix_n, ix_e, sto_n, sto_e, sto_r, zf_r, Int.toNat_natCast, true_or, or_true, eq_self, h3]) <;> (first | omega | decide)))) | (with_reducible refine ok_t ?_ ?_; · (first | omega | ((try simp (disch := omega) only [w32_eq, w64_eq, ix_n, ix_e, sto_n, sto_e, sto_r, zf_r, Int.toNat_natCast, true_or, or_true, eq_self, h3]) <;> (first | omega | decide)))) | (with_reducible refine ok_f ?_ ?_; · (first | omega | ((try simp (disch := omega) only [w32_eq, w64_eq, ix_n, ix_e, sto_n, sto_e, sto_r, zf_r, Int.toNat_natCast, true_or, or_true, eq_self, h3]) <;> (first | omega | decide)))) | (with_reducible refine ok_ct ?_ ?_; · (first | omega | ((try simp (disch := omega) only [w32_eq, w64_eq, ix_n, ix_e, sto_n, sto_e, sto_r, zf_r, Int.toNat_natCast, true_or, or_true, eq_self, h3]) <;> (first | omega | decide)))) | (with_reducible refine ok_cf ?_ ?_; · (first | omega | ((try simp (disch := omega) only [w32_eq, w64_eq, ix_n, ix_e, sto_n, sto_e, sto_r, zf_r, Int.toNat_natCast, true_or, or_true, eq_self, h3]) <;> (first | omega | decide)))))
    have : i = N := by omega
    subst this
    exact ok_ret ⟨hR, h3, h77⟩
  | succ n ih =>
    intro fuel i M e hf hM h77 h3 hR
    obtain ⟨f, rfl⟩ : ∃ f, fuel = f + 1 := ⟨fuel - 1, by omega⟩
    rw [fix_s]; unfold k_Pl_replay_53
    have hj : (i : Int) + 1 = ((i + 1 : Nat) : Int) := by omega
    repeat (first | with_reducible refine ok_let ?_ | with_reducible refine ok_cs ?_ | with_reducible refine ok_clet ?_ | with_reducible refine ok_cc ?_ | (with_reducible refine ok_chk ?_ ?_; · (first | omega | ((try simp (disch := omega) only [w32_eq, w64_eq, ix_n, ix_e, sto_n, sto_e, sto_r, zf_r, Int.toNat_natCast, true_or, or_true, eq_self, h3]) <;> (first | omega | decide)))) | (with_reducible refine ok_cchk ?_ ?_; · (first | omega | ((try simp (disch := omega) only [w32_eq, w64_eq, ix_n, ix_e, sto_n, sto_e, sto_r, zf_r, Int.toNat_natCast, true_or, or_true, eq_self, h3]) <;> (first | omega | decide)))) | (with_reducible refine ok_t ?_ ?_; · (first | omega | ((try simp (disch := omega) only [w32_eq, w64_eq, ix_n, ix_e, sto_n, sto_e, sto_r, zf_r, Int.toNat_natCast, true_or, or_true, eq_self, h3]) <;> (first | omega | decide)))) | (with_reducible refine ok_f ?_ ?_; · (first | omega | ((try simp (disch := omega) only [w32_eq, w64_eq, ix_n, ix_e, sto_n, sto_e, sto_r, zf_r, Int.toNat_natCast, true_or, or_true, eq_self, h3]) <;> (first | omega | decide)))) | (with_reducible refine ok_ct ?_ ?_; · (first | omega | ((try simp (disch := omega) only [w32_eq, w64_eq, ix_n, ix_e, sto_n, sto_e, sto_r, zf_r, Int.toNat_natCast, true_or, or_true, eq_self, h3]) <;> (first | omega | decide)))) | (with_reducible refine ok_cf ?_ ?_; · (first | omega | ((try simp (disch := omega) only [w32_eq, w64_eq, ix_n, ix_e, sto_n, sto_e, sto_r, zf_r, Int.toNat_natCast, true_or, or_true, eq_self, h3]) <;> (first | omega | decide)))))
    refine ok_call (ok_fr (c_event hA hG hE hP hM h77 (by omega) (PW_py hA hG hE hP i (by omega)) hR) (fun r hr => w_Pl_playEvent hr)) (fun v M1 hv => ?_)
    obtain ⟨hv1, hF⟩ := hv
    repeat (first | with_reducible refine ok_let ?_ | with_reducible refine ok_cs ?_ | with_reducible refine ok_clet ?_ | with_reducible refine ok_cc ?_ | (with_reducible refine ok_chk ?_ ?_; · (first | omega | ((try simp (disch := omega) only [w32_eq, w64_eq, ix_n, ix_e, sto_n, sto_e, sto_r, zf_r, Int.toNat_natCast, true_or, or_true, eq_self]) <;> (first | omega | decide)))) | (with_reducible refine ok_cchk ?_ ?_; · (first | omega | ((try simp (disch := omega) only [w32_eq, w64_eq, ix_n, ix_e, sto_n, sto_e, sto_r, zf_r, Int.toNat_natCast, true_or, or_true, eq_self]) <;> (first | omega | decide)))) | (with_reducible refine ok_t ?_ ?_; · (first | omega | ((try simp (disch := omega) only [w32_eq, w64_eq, ix_n, ix_e, sto_n, sto_e, sto_r, zf_r, Int.toNat_natCast, true_or, or_true, eq_self]) <;> (first | omega | decide)))) | (with_reducible refine ok_f ?_ ?_; · (first | omega | ((try simp (disch := omega) only [w32_eq, w64_eq, ix_n, ix_e, sto_n, sto_e, sto_r, zf_r, Int.toNat_natCast, true_or, or_true, eq_self]) <;> (first | omega | decide)))) | (with_reducible refine ok_ct ?_ ?_; · (first | omega | ((try simp (disch := omega) only [w32_eq, w64_eq, ix_n, ix_e, sto_n, sto_e, sto_r, zf_r, Int.toNat_natCast, true_or, or_true, eq_self]) <;> (first | omega | decide)))) | (with_reducible refine ok_cf ?_ ?_; · (first | omega | ((try simp (disch := omega) only [w32_eq, w64_eq, ix_n, ix_e, sto_n, sto_e, sto_r, zf_r, Int.toNat_natCast, true_or, or_true, eq_self]) <;> (first | omega | decide)))))
    rw [hj]
    refine ih f (i + 1) M1 (by omega) (by omega) (fun c hc => ?_) (fun k hk => ?_) ?_ hv1
    · rw [← hM c hc]
      refine hF.c c ?_ ?_
      · intro h; revert hc; revert c; decide
      · intro q hq h; subst h; revert hc; revert q; decide
    · rw [hF.c 77 (by decide) (by decide)]; exact h77 k hk
    · rw [hF.f 75 3 (by decide) (by decide)]; exact h3
def knN (M : Mem) (kw : Int) : Nat := cnK (M 129) kw (M 111 7).toNat
theorem cnK_c {K K' : Nat → Int} {kw : Int} : ∀ n : Nat, (∀ k, k < n → K k = K' k) → cnK K kw n = cnK K' kw n
  | 0, _ => rfl
  | n + 1, h => by unfold cnK; rw [cnK_c n (fun k hk => h k (by omega)), h n (by omega)]
theorem knN_le {M : Mem} {kw : Int} (h : 0 ≤ M 111 7) : (knN M kw : Int) ≤ M 111 7 := by
  have := cnK_le (K := M 129) (kw := kw) (M 111 7).toNat
  unfold knN; omega
theorem s_replay {F : Nat → Int → (Nat → Int) → Int} {M0 M : Mem} {kw : Int} (hA : AskI F M0) (hG : IvG F M0) (hE : IvE M0) (hP : IvP M0) (hkw : 0 ≤ kw ∧ kw ≤ 519) (hM : ∀ c ∈ [14, 15, 16, 17, 18, 19, 20, 21, 22, 23, 26, 27, 29, 30, 31], M c = M0 c) :
    Ok (d_Pl_replay kw M) (fun _ M' => (RC (knN M0 kw) M' (pyS M0 kw (knN M0 kw)) ∧ M' 75 3 = (knN M0 kw : Int) ∧ ∀ k : Nat, k < 120 → M' 77 k = gS M0 k kw) ∧ Fr [76, 77, 78, 81, 82, 83, 84, 85, 86, 87] [(75, 3), (75, 10), (75, 14)] M M') := by
  refine ok_fr ?_ (fun r hr => w_Pl_replay hr)
  have hE1 := hE.1
  unfold d_Pl_replay
  refine ok_call_eq (s_fill1 (by decide)) ?_
  repeat (first | with_reducible refine ok_let ?_ | with_reducible refine ok_cs ?_ | with_reducible refine ok_clet ?_ | with_reducible refine ok_cc ?_ | (with_reducible refine ok_chk ?_ ?_; · (first | omega | ((try simp (disch := omega) only [w32_eq, w64_eq, ix_n, ix_e, sto_n, sto_e, sto_r, zf_r, Int.toNat_natCast, true_or, or_true, eq_self]) <;> (first | omega | decide)))) | (with_reducible refine ok_cchk ?_ ?_; · (first | omega | ((try simp (disch := omega) only [w32_eq, w64_eq, ix_n, ix_e, sto_n, sto_e, sto_r, zf_r, Int.toNat_natCast, true_or, or_true, eq_self]) <;> (first | omega | decide)))) | (with_reducible refine ok_t ?_ ?_; · (first | omega | ((try simp (disch := omega) only [w32_eq, w64_eq, ix_n, ix_e, sto_n, sto_e, sto_r, zf_r, Int.toNat_natCast, true_or, or_true, eq_self]) <;> (first | omega | decide)))) | (with_reducible refine ok_f ?_ ?_; · (first | omega | ((try simp (disch := omega) only [w32_eq, w64_eq, ix_n, ix_e, sto_n, sto_e, sto_r, zf_r, Int.toNat_natCast, true_or, or_true, eq_self]) <;> (first | omega | decide)))) | (with_reducible refine ok_ct ?_ ?_; · (first | omega | ((try simp (disch := omega) only [w32_eq, w64_eq, ix_n, ix_e, sto_n, sto_e, sto_r, zf_r, Int.toNat_natCast, true_or, or_true, eq_self]) <;> (first | omega | decide)))) | (with_reducible refine ok_cf ?_ ?_; · (first | omega | ((try simp (disch := omega) only [w32_eq, w64_eq, ix_n, ix_e, sto_n, sto_e, sto_r, zf_r, Int.toNat_natCast, true_or, or_true, eq_self]) <;> (first | omega | decide)))))
  refine ok_call_eq (s_fill1 (by decide)) ?_
  refine ok_call_eq (s_fill1 (by decide)) ?_
  repeat (first | with_reducible refine ok_let ?_ | with_reducible refine ok_cs ?_ | with_reducible refine ok_clet ?_ | with_reducible refine ok_cc ?_ | (with_reducible refine ok_chk ?_ ?_; · (first | omega | ((try simp (disch := omega) only [w32_eq, w64_eq, ix_n, ix_e, sto_n, sto_e, sto_r, zf_r, Int.toNat_natCast, true_or, or_true, eq_self]) <;> (first | omega | decide)))) | (with_reducible refine ok_cchk ?_ ?_; · (first | omega | ((try simp (disch := omega) only [w32_eq, w64_eq, ix_n, ix_e, sto_n, sto_e, sto_r, zf_r, Int.toNat_natCast, true_or, or_true, eq_self]) <;> (first | omega | decide)))) | (with_reducible refine ok_t ?_ ?_; · (first | omega | ((try simp (disch := omega) only [w32_eq, w64_eq, ix_n, ix_e, sto_n, sto_e, sto_r, zf_r, Int.toNat_natCast, true_or, or_true, eq_self]) <;> (first | omega | decide)))) | (with_reducible refine ok_f ?_ ?_; · (first | omega | ((try simp (disch := omega) only [w32_eq, w64_eq, ix_n, ix_e, sto_n, sto_e, sto_r, zf_r, Int.toNat_natCast, true_or, or_true, eq_self]) <;> (first | omega | decide)))) | (with_reducible refine ok_ct ?_ ?_; · (first | omega | ((try simp (disch := omega) only [w32_eq, w64_eq, ix_n, ix_e, sto_n, sto_e, sto_r, zf_r, Int.toNat_natCast, true_or, or_true, eq_self]) <;> (first | omega | decide)))) | (with_reducible refine ok_cf ?_ ?_; · (first | omega | ((try simp (disch := omega) only [w32_eq, w64_eq, ix_n, ix_e, sto_n, sto_e, sto_r, zf_r, Int.toNat_natCast, true_or, or_true, eq_self]) <;> (first | omega | decide)))))
  have hF : Fr [81, 83, 84] [(75, 10), (75, 14)] M (sto (zf (zf (sto (zf M 81 0 600 (-1)) 75 10 0) 83 0 8 0) 84 0 80 0) 75 14 0) := by (repeat (first | with_reducible exact Fr.rfl' | with_reducible assumption | with_reducible refine Fr.trans ?_ (fr_stoA (by decide)) | with_reducible refine Fr.trans ?_ (fr_stoF (by decide)) | with_reducible refine Fr.trans ?_ (fr_zf (by decide))))
  have x81 : ∀ s, s < 600 → sto (zf (zf (sto (zf M 81 0 600 (-1)) 75 10 0) 83 0 8 0) 84 0 80 0) 75 14 0 81 s = -1 := fun s hs => by
    simp (disch := decide) only [sto_r, zf_r]; rw [zf_c, if_pos (by omega)]
  have x83 : ∀ s, s < 8 → sto (zf (zf (sto (zf M 81 0 600 (-1)) 75 10 0) 83 0 8 0) 84 0 80 0) 75 14 0 83 s = 0 := fun s hs => by
    simp (disch := decide) only [sto_r, zf_r]; rw [zf_c, if_pos (by omega)]
  have x84 : ∀ s, s < 80 → sto (zf (zf (sto (zf M 81 0 600 (-1)) 75 10 0) 83 0 8 0) 84 0 80 0) 75 14 0 84 s = 0 := fun s hs => by
    simp (disch := decide) only [sto_r, zf_r]; rw [zf_c, if_pos (by omega)]
  have x10 : sto (zf (zf (sto (zf M 81 0 600 (-1)) 75 10 0) 83 0 8 0) 84 0 80 0) 75 14 0 75 10 = 0 := by
    simp (disch := decide) only [sto_r, zf_r, sto_n, sto_e]
  have x14 : sto (zf (zf (sto (zf M 81 0 600 (-1)) 75 10 0) 83 0 8 0) 84 0 80 0) 75 14 0 75 14 = 0 := sto_e
  generalize sto (zf (zf (sto (zf M 81 0 600 (-1)) 75 10 0) 83 0 8 0) 84 0 80 0) 75 14 0 = M1 at *
  have hM1 : ∀ c ∈ [14, 15, 16, 17, 18, 19, 20, 21, 22, 23, 26, 27, 29, 30, 31], M1 c = M0 c := by
    intro c hc
    rw [← hM c hc]
    refine hF.c c ?_ ?_
    · intro h; revert hc; revert c; decide
    · intro q hq h; subst h; revert hc; revert q; decide
  refine ok_call (s_judge hA hG hE hkw (fun c hc => hM1 c ?_)) (fun v M2 hv => ?_)
  · revert hc; revert c; decide
  obtain ⟨hv1, hF2⟩ := hv
  have q := l_cnt (M := M2) (kw := kw) (N := (M0 111 7).toNat) (by omega) (by rw [hF2.c 15 (by decide) (by decide), hM1 15 (by decide), hE.2.1]; omega) hkw (fun k hk => by
    rw [hF2.c 26 (by decide) (by decide), hM1 26 (by decide)]
    have := (hE.2.2.2.2.2.2.2.1 k (by omega)).kind
    rw [this.2.2.2.1]; exact this.2.2.2.2) (M0 111 7).toNat FU 0 (by omega) (by unfold FU; omega) (fun k hk => by omega)
  have e : cnK (M2 26) kw (M0 111 7).toNat = knN M0 kw := by
    unfold knN
    refine cnK_c _ (fun k hk => ?_)
    rw [hF2.c 26 (by decide) (by decide), hM1 26 (by decide)]
    exact (hE.2.2.2.2.2.2.2.1 k (by omega)).kind.2.2.2.1
  rw [e] at q
  have q' : d_Jo_countKnownBy kw M2 = some (((knN M0 kw : Nat) : Int), M2) := by unfold d_Jo_countKnownBy; exact q
  refine ok_call_eq q' ?_
  repeat (first | with_reducible refine ok_let ?_ | with_reducible refine ok_cs ?_ | with_reducible refine ok_clet ?_ | with_reducible refine ok_cc ?_ | (with_reducible refine ok_chk ?_ ?_; · (first | omega | ((try simp (disch := omega) only [w32_eq, w64_eq, ix_n, ix_e, sto_n, sto_e, sto_r, zf_r, Int.toNat_natCast, true_or, or_true, eq_self]) <;> (first | omega | decide)))) | (with_reducible refine ok_cchk ?_ ?_; · (first | omega | ((try simp (disch := omega) only [w32_eq, w64_eq, ix_n, ix_e, sto_n, sto_e, sto_r, zf_r, Int.toNat_natCast, true_or, or_true, eq_self]) <;> (first | omega | decide)))) | (with_reducible refine ok_t ?_ ?_; · (first | omega | ((try simp (disch := omega) only [w32_eq, w64_eq, ix_n, ix_e, sto_n, sto_e, sto_r, zf_r, Int.toNat_natCast, true_or, or_true, eq_self]) <;> (first | omega | decide)))) | (with_reducible refine ok_f ?_ ?_; · (first | omega | ((try simp (disch := omega) only [w32_eq, w64_eq, ix_n, ix_e, sto_n, sto_e, sto_r, zf_r, Int.toNat_natCast, true_or, or_true, eq_self]) <;> (first | omega | decide)))) | (with_reducible refine ok_ct ?_ ?_; · (first | omega | ((try simp (disch := omega) only [w32_eq, w64_eq, ix_n, ix_e, sto_n, sto_e, sto_r, zf_r, Int.toNat_natCast, true_or, or_true, eq_self]) <;> (first | omega | decide)))) | (with_reducible refine ok_cf ?_ ?_; · (first | omega | ((try simp (disch := omega) only [w32_eq, w64_eq, ix_n, ix_e, sto_n, sto_e, sto_r, zf_r, Int.toNat_natCast, true_or, or_true, eq_self]) <;> (first | omega | decide)))))
  have hk := knN_le (M := M0) (kw := kw) hE1.1
  refine l_replay hA hG hE hP hk (knN M0 kw) FU 0 _ (by omega) (by unfold FU; omega) (fun c hc => ?_) (fun k hk => ?_) sto_e ?_
  · have h75 : c ≠ 75 := by intro h; subst h; revert hc; decide
    rw [sto_r h75]
    have h1 : c ∈ [14, 15, 16, 17, 18, 19, 20, 21, 22, 23, 26, 27, 29, 30, 31] := (by decide : ∀ c ∈ caL, c ∈ [14, 15, 16, 17, 18, 19, 20, 21, 22, 23, 26, 27, 29, 30, 31]) c hc
    rw [← hM1 c h1]
    exact hF2.c c ((by decide : ∀ c ∈ caL, c ∉ [77, 78]) c hc) (fun q hq => by cases hq)
  · rw [sto_r (by decide)]; exact hv1 k hk
  · refine ⟨⟨?_, fun s hs => ?_, fun s s' h1 h2 h3 h4 => ?_, fun s f _ _ _ => rfl, fun s f h1 h2 h3 => ?_⟩, fun e he => ?_, fun j hj => ?_, ?_, fun k hk => by omega⟩
    · rw [sto_n (by decide), hF2.c 75 (by decide) (by decide), x10]; omega
    · rw [sto_n (by decide), sto_r (by decide), hF2.c 75 (by decide) (by decide), hF2.c 81 (by decide) (by decide), x10, x81 s hs]; omega
    · rw [sto_r (by decide), hF2.c 81 (by decide) (by decide), x81 s h1] at h4; exact absurd rfl h4
    · rw [sto_r (by decide), hF2.c 81 (by decide) (by decide), x81 s h1] at h3; exact absurd rfl h3
    · rw [sto_r (by decide), hF2.c 83 (by decide) (by decide)]; exact x83 e he
    · rw [sto_r (by decide), hF2.c 84 (by decide) (by decide)]; exact x84 j hj
    · rw [sto_n (by decide), hF2.c 75 (by decide) (by decide)]; exact x14
