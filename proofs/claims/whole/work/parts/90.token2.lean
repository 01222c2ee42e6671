/-! tokens: the next one -/
def WR (x : Int) (M : Mem) : Prop := (0 ≤ x ∧ x < 282429536481 ∧ M 111 55 = cv x ∧ 1 ≤ M 111 54 ∧ M 111 54 ≤ 8) ∨ (x = -1 ∧ 8 < M 111 54 ∧ M 111 54 ≤ 500 ∧ (M 111 55 = -1 ∨ (1099511627776 ≤ M 111 55 ∧ M 111 55 < 1152921504606846976)))
def TR (t x u : Int) (M : Mem) : Prop := (t = 0 ∧ M 111 50 = 0) ∨ (t = 1 ∧ M 111 50 = 4) ∨ (t = 2 ∧ M 111 50 = 2 ∧ M 111 53 = u ∧ 0 ≤ u ∧ u ≤ 999999) ∨ (isS t ∧ M 111 50 = 3 ∧ M 111 53 = t) ∨ (t = kd x ∧ M 111 50 = 1 ∧ WR x M)
/-- both have found the token behind e -/
def TK (n e : Nat) (Mc Mr : Mem) : Prop := ∃ a : Nat, e ≤ a ∧ a ≤ n ∧ Mc 55 9 = (a : Int) ∧ Mr 111 51 = (a : Int) ∧ TR (Mc 55 8) (Mc 55 11) (Mc 55 10) Mr ∧
  ((Mc 55 8 ≠ 1 ∧ Mc 55 2 = 0 ∧ Mc 55 3 = -1 ∧ ∃ e' : Nat, e' ≤ n ∧ a ≤ e' ∧ Mc 55 7 = (e' : Int) ∧ Mr 111 52 = (e' : Int) ∧ (Mc 55 8 ≠ 0 → a < e')) ∨ (Mc 55 8 = 1 ∧ Mc 55 2 = 1 ∧ Mc 55 3 = (a : Int)))
theorem fndL_b : ∀ (L : List Int) (x n : Int), fndL L x n = -1 ∨ (n ≤ fndL L x n ∧ fndL L x n < n + (L.length : Int))
  | [], x, n => Or.inl rfl
  | c :: L, x, n => by
    unfold fndL
    rw [List.length_cons]
    split
    · right; omega
    · rcases fndL_b L x (n + 1) with h | h
      · exact Or.inl h
      · right; omega
theorem kd_b (x : Int) : 3 ≤ kd x ∧ kd x ≤ 11 := by
  have h := fndL_b KWs x 0
  rw [show KWs.length = 8 from rfl] at h
  unfold kd; split <;> omega
theorem kd_m1 : kd (-1) = 3 := by decide +kernel
theorem k60_end {n a : Nat} {b : Nat → Int} {M : Mem} (hn : n ≤ 500) (hT : TpC b n M) (h7 : M 55 7 = (a : Int)) (ha : ¬ a < n) (ha2 : a ≤ n) : k_Pa_advance_60 M = some (0, sto (sto M 55 9 (a : Int)) 55 8 0) := by
  have h6 := hT.1
  unfold k_Pa_advance_60
  repeat (first | with_reducible refine e_let ?_ | with_reducible refine e_cs ?_ | with_reducible refine e_clet ?_ | with_reducible refine e_cc ?_ | (with_reducible refine e_chk ?_ ?_; · (first | omega | ((try simp (disch := omega) only [w32_eq, w64_eq, ix_n, ix_e, sto_n, sto_e, sto_r, zf_r, Int.toNat_natCast, true_or, or_true, eq_self, h7, h6]) <;> (first | omega | decide)))) | (with_reducible refine e_cchk ?_ ?_; · (first | omega | ((try simp (disch := omega) only [w32_eq, w64_eq, ix_n, ix_e, sto_n, sto_e, sto_r, zf_r, Int.toNat_natCast, true_or, or_true, eq_self, h7, h6]) <;> (first | omega | decide)))) | (with_reducible refine e_t ?_ ?_; · (first | omega | ((try simp (disch := omega) only [w32_eq, w64_eq, ix_n, ix_e, sto_n, sto_e, sto_r, zf_r, Int.toNat_natCast, true_or, or_true, eq_self, h7, h6]) <;> (first | omega | decide)))) | (with_reducible refine e_f ?_ ?_; · (first | omega | ((try simp (disch := omega) only [w32_eq, w64_eq, ix_n, ix_e, sto_n, sto_e, sto_r, zf_r, Int.toNat_natCast, true_or, or_true, eq_self, h7, h6]) <;> (first | omega | decide)))) | (with_reducible refine e_ct ?_ ?_; · (first | omega | ((try simp (disch := omega) only [w32_eq, w64_eq, ix_n, ix_e, sto_n, sto_e, sto_r, zf_r, Int.toNat_natCast, true_or, or_true, eq_self, h7, h6]) <;> (first | omega | decide)))) | (with_reducible refine e_cf ?_ ?_; · (first | omega | ((try simp (disch := omega) only [w32_eq, w64_eq, ix_n, ix_e, sto_n, sto_e, sto_r, zf_r, Int.toNat_natCast, true_or, or_true, eq_self, h7, h6]) <;> (first | omega | decide)))))
  rw [h7]
theorem k58_end {n a : Nat} {b : Nat → Int} {M : Mem} (hn : n ≤ 500) (hT : TpR b n M) (h7 : M 111 51 = (a : Int)) (ha : ¬ a < n) (ha2 : a ≤ n) : k_Mo_next_58 M = some (0, sto (sto M 111 52 (a : Int)) 111 50 0) := by
  have h6 := hT.1
  unfold k_Mo_next_58
  repeat (first | with_reducible refine e_let ?_ | with_reducible refine e_cs ?_ | with_reducible refine e_clet ?_ | with_reducible refine e_cc ?_ | (with_reducible refine e_chk ?_ ?_; · (first | omega | ((try simp (disch := omega) only [w32_eq, w64_eq, ix_n, ix_e, sto_n, sto_e, sto_r, zf_r, Int.toNat_natCast, true_or, or_true, eq_self, h7, h6]) <;> (first | omega | decide)))) | (with_reducible refine e_cchk ?_ ?_; · (first | omega | ((try simp (disch := omega) only [w32_eq, w64_eq, ix_n, ix_e, sto_n, sto_e, sto_r, zf_r, Int.toNat_natCast, true_or, or_true, eq_self, h7, h6]) <;> (first | omega | decide)))) | (with_reducible refine e_t ?_ ?_; · (first | omega | ((try simp (disch := omega) only [w32_eq, w64_eq, ix_n, ix_e, sto_n, sto_e, sto_r, zf_r, Int.toNat_natCast, true_or, or_true, eq_self, h7, h6]) <;> (first | omega | decide)))) | (with_reducible refine e_f ?_ ?_; · (first | omega | ((try simp (disch := omega) only [w32_eq, w64_eq, ix_n, ix_e, sto_n, sto_e, sto_r, zf_r, Int.toNat_natCast, true_or, or_true, eq_self, h7, h6]) <;> (first | omega | decide)))) | (with_reducible refine e_ct ?_ ?_; · (first | omega | ((try simp (disch := omega) only [w32_eq, w64_eq, ix_n, ix_e, sto_n, sto_e, sto_r, zf_r, Int.toNat_natCast, true_or, or_true, eq_self, h7, h6]) <;> (first | omega | decide)))) | (with_reducible refine e_cf ?_ ?_; · (first | omega | ((try simp (disch := omega) only [w32_eq, w64_eq, ix_n, ix_e, sto_n, sto_e, sto_r, zf_r, Int.toNat_natCast, true_or, or_true, eq_self, h7, h6]) <;> (first | omega | decide)))))
  rw [h7]
theorem rdb {n a : Nat} {b : Nat → Int} {M : Mem} {v : Int} (hn : n ≤ 500) (hT : TpC b n M) (h7 : M 55 7 = (a : Int)) (ha : a < n) : w8 ((sto M 55 9 v) 56 (ix ((sto M 55 9 v) 55 7))) = b a := by
  rw [sto_r (by decide), sto_n (by decide), h7, ix_n (by omega)]; exact hT.2.2 a ha
theorem k60_w {n a : Nat} {b : Nat → Int} {M : Mem} (hn : n ≤ 500) (hB : BtB b) (hT : TpC b n M) (h7 : M 55 7 = (a : Int)) (ha : a < n) (hL : isL (b a)) :
    ∃ x, x = (if lnF b 97 122 (n - a) a - a ≤ 8 then pkW 27 b a (lnF b 97 122 (n - a) a - a) else -1) ∧ k_Pa_advance_60 M = some (0, sto (sto (sto (sto M 55 9 (a : Int)) 55 7 ((lnF b 97 122 (n - a) a : Nat) : Int)) 55 11 x) 55 8 (kd x)) := by
  have h6 := hT.1
  refine ⟨_, rfl, ?_⟩
  have rb := rdb (v := M 55 7) hn hT h7 ha
  have e1 : d_Pa_isLetter (w8 ((sto M 55 9 (M 55 7)) 56 (ix ((sto M 55 9 (M 55 7)) 55 7)))) (sto M 55 9 (M 55 7)) = some (1, sto M 55 9 (M 55 7)) := by rw [rb]; exact s_isL1 hL
  have hl := lnF_b (b := b) (lo := 97) (hi := 122) (n - a) a
  have g := l_wdC (i := a) hn hB (n - a) FU a (sto M 55 9 (M 55 7)) (hT.s (by decide)) (by rw [sto_n (by decide), h7]) (by omega) (by omega) (by unfold FU; omega)
  rw [Nat.sub_self] at g
  have g' : d_Pa_scanWord (sto M 55 9 (M 55 7)) = k_Pa_scanWord_63 (pkW 27 b a (lnF b 97 122 (n - a) a - a)) (sto (sto M 55 9 (M 55 7)) 55 7 ((lnF b 97 122 (n - a) a : Nat) : Int)) := g
  unfold k_Pa_advance_60
  repeat (first | with_reducible refine e_let ?_ | with_reducible refine e_cs ?_ | with_reducible refine e_clet ?_ | with_reducible refine e_cc ?_ | (with_reducible refine e_chk ?_ ?_; · (first | omega | ((try simp (disch := omega) only [w32_eq, w64_eq, ix_n, ix_e, sto_n, sto_e, sto_r, zf_r, Int.toNat_natCast, true_or, or_true, eq_self, h7, h6]) <;> (first | omega | decide)))) | (with_reducible refine e_cchk ?_ ?_; · (first | omega | ((try simp (disch := omega) only [w32_eq, w64_eq, ix_n, ix_e, sto_n, sto_e, sto_r, zf_r, Int.toNat_natCast, true_or, or_true, eq_self, h7, h6]) <;> (first | omega | decide)))) | (with_reducible refine e_t ?_ ?_; · (first | omega | ((try simp (disch := omega) only [w32_eq, w64_eq, ix_n, ix_e, sto_n, sto_e, sto_r, zf_r, Int.toNat_natCast, true_or, or_true, eq_self, h7, h6]) <;> (first | omega | decide)))) | (with_reducible refine e_f ?_ ?_; · (first | omega | ((try simp (disch := omega) only [w32_eq, w64_eq, ix_n, ix_e, sto_n, sto_e, sto_r, zf_r, Int.toNat_natCast, true_or, or_true, eq_self, h7, h6]) <;> (first | omega | decide)))) | (with_reducible refine e_ct ?_ ?_; · (first | omega | ((try simp (disch := omega) only [w32_eq, w64_eq, ix_n, ix_e, sto_n, sto_e, sto_r, zf_r, Int.toNat_natCast, true_or, or_true, eq_self, h7, h6]) <;> (first | omega | decide)))) | (with_reducible refine e_cf ?_ ?_; · (first | omega | ((try simp (disch := omega) only [w32_eq, w64_eq, ix_n, ix_e, sto_n, sto_e, sto_r, zf_r, Int.toNat_natCast, true_or, or_true, eq_self, h7, h6]) <;> (first | omega | decide)))) | with_reducible refine e_call e1 ?_)
  rw [g']
  have fin : ∀ x : Int, bcall (k_Pa_scanWord_85 x (sto (sto M 55 9 (M 55 7)) 55 7 ((lnF b 97 122 (n - a) a : Nat) : Int))) (fun _ M35 => some (0, M35)) = some (0, sto (sto (sto (sto M 55 9 (a : Int)) 55 7 ((lnF b 97 122 (n - a) a : Nat) : Int)) 55 11 x) 55 8 (kd x)) := fun x => by
    unfold k_Pa_scanWord_85 k_Pa_scanWord_111
    refine e_clet ?_
    refine e_clet ?_
    rw [sto_e, s_find0]
    refine e_cc ?_
    refine e_cs ?_
    have hb := fndL_b KWs x 0
    rw [show KWs.length = 8 from rfl] at hb
    unfold kd
    rw [h7]
    by_cases c : fndL KWs x 0 = -1
    · rw [if_pos c, if_pos (by rw [c]; decide)]; rfl
    · rw [if_neg c, if_neg (by rw [w32_eq (by omega) (by omega)]; exact c)]; rfl
  unfold k_Pa_scanWord_63
  refine e_clet ?_
  refine e_clet ?_
  by_cases c : lnF b 97 122 (n - a) a - a ≤ 8
  · rw [if_pos c]
    refine e_cf ?_ (fin _)
    rw [sto_e, sto_n (by decide), sto_e, h7, w32_eq (by omega) (by omega)]; omega
  · rw [if_neg c]
    refine e_ct ?_ (fin _)
    rw [sto_e, sto_n (by decide), sto_e, h7, w32_eq (by omega) (by omega)]; omega
theorem k58_w {n a : Nat} {b : Nat → Int} {M : Mem} (hn : n ≤ 500) (hB : BtB b) (hT : TpR b n M) (h7 : M 111 51 = (a : Int)) (ha : a < n) (hL : isL (b a)) :
    Ok (k_Mo_next_58 M) (fun _ M' => M' 111 51 = (a : Int) ∧ M' 111 50 = 1 ∧ M' 111 55 = wvF b a (lnF b 97 122 (n - a) a - a) ∧ M' 111 52 = ((lnF b 97 122 (n - a) a : Nat) : Int) ∧ M' 111 54 = ((lnF b 97 122 (n - a) a - a : Nat) : Int)) := by
  have h6 := hT.1
  have hr := hB a
  have hT2 : TpR b n (sto M 111 52 (M 111 51)) := hT.s (by decide)
  have lk : d_Mo_look ((sto M 111 52 (M 111 51)) 111 51) (sto M 111 52 (M 111 51)) = some (b a % 256, sto M 111 52 (M 111 51)) := by rw [sto_n (by decide), h7, s_look hn hB (hT.s (by decide)) (by omega), if_pos ha]
  have e1 : d_Mo_isLetter (b a % 256) (sto M 111 52 (M 111 51)) = some (1, sto M 111 52 (M 111 51)) := s_rL1 (by unfold isL at hL ⊢; omega)
  unfold k_Mo_next_58
  repeat (first | with_reducible refine ok_let ?_ | with_reducible refine ok_cs ?_ | with_reducible refine ok_clet ?_ | with_reducible refine ok_cc ?_ | (with_reducible refine ok_chk ?_ ?_; · (first | omega | ((try simp (disch := omega) only [w32_eq, w64_eq, ix_n, ix_e, sto_n, sto_e, sto_r, zf_r, Int.toNat_natCast, true_or, or_true, eq_self, h7, h6]) <;> (first | omega | decide)))) | (with_reducible refine ok_cchk ?_ ?_; · (first | omega | ((try simp (disch := omega) only [w32_eq, w64_eq, ix_n, ix_e, sto_n, sto_e, sto_r, zf_r, Int.toNat_natCast, true_or, or_true, eq_self, h7, h6]) <;> (first | omega | decide)))) | (with_reducible refine ok_t ?_ ?_; · (first | omega | ((try simp (disch := omega) only [w32_eq, w64_eq, ix_n, ix_e, sto_n, sto_e, sto_r, zf_r, Int.toNat_natCast, true_or, or_true, eq_self, h7, h6]) <;> (first | omega | decide)))) | (with_reducible refine ok_f ?_ ?_; · (first | omega | ((try simp (disch := omega) only [w32_eq, w64_eq, ix_n, ix_e, sto_n, sto_e, sto_r, zf_r, Int.toNat_natCast, true_or, or_true, eq_self, h7, h6]) <;> (first | omega | decide)))) | (with_reducible refine ok_ct ?_ ?_; · (first | omega | ((try simp (disch := omega) only [w32_eq, w64_eq, ix_n, ix_e, sto_n, sto_e, sto_r, zf_r, Int.toNat_natCast, true_or, or_true, eq_self, h7, h6]) <;> (first | omega | decide)))) | (with_reducible refine ok_cf ?_ ?_; · (first | omega | ((try simp (disch := omega) only [w32_eq, w64_eq, ix_n, ix_e, sto_n, sto_e, sto_r, zf_r, Int.toNat_natCast, true_or, or_true, eq_self, h7, h6]) <;> (first | omega | decide)))) | with_reducible refine ok_call_eq lk ?_ | with_reducible refine ok_call_eq e1 ?_)
  refine ok_mono (l_wdR (i := a) hn hB (n - a) FU a _ ((hT2.s (by decide)).s (by decide)) ?_ ?_ ?_ (by omega) (by omega) (by unfold FU; omega)) (fun _ M' q => ?_)
  · rw [sto_n (by decide), sto_n (by decide), sto_e, h7]
  · rw [sto_n (by decide), sto_n (by decide), sto_n (by decide), h7]
  · rw [sto_e, Nat.sub_self]; rfl
  · obtain ⟨⟨q1, q2, q3⟩, q4⟩ := q
    refine ⟨?_, ?_, q1, q2, q3⟩
    · rw [q4.f 111 51 (by decide) (by decide)]; simp (disch := omega) only [w32_eq, w64_eq, ix_n, ix_e, sto_n, sto_e, sto_r, zf_r, Int.toNat_natCast, h7]
    · rw [q4.f 111 50 (by decide) (by decide)]; simp (disch := omega) only [w32_eq, w64_eq, ix_n, ix_e, sto_n, sto_e, sto_r, zf_r, Int.toNat_natCast, h7]
theorem k60_d {n a : Nat} {b : Nat → Int} {M : Mem} (hn : n ≤ 500) (hB : BtB b) (hT : TpC b n M) (h7 : M 55 7 = (a : Int)) (h2 : M 55 2 = 0) (ha : a < n) (hD : isD (b a)) :
    Ok (k_Pa_advance_60 M) (fun _ M' => M' 55 9 = (a : Int) ∧ ((lnF b 48 57 (n - a) a - a ≤ 6 ∧ M' 55 2 = 0 ∧ M' 55 8 = 2 ∧ M' 55 10 = nmF b a (lnF b 48 57 (n - a) a - a) ∧ M' 55 7 = ((lnF b 48 57 (n - a) a : Nat) : Int) ∧ M' 55 3 = -1) ∨ (6 < lnF b 48 57 (n - a) a - a ∧ M' 55 2 = 1 ∧ M' 55 3 = (a : Int) ∧ M' 55 8 = 1))) := by
  have h6 := hT.1
  have rb := rdb (v := M 55 7) hn hT h7 ha
  have e1 : d_Pa_isLetter (w8 ((sto M 55 9 (M 55 7)) 56 (ix ((sto M 55 9 (M 55 7)) 55 7)))) (sto M 55 9 (M 55 7)) = some (0, sto M 55 9 (M 55 7)) := by rw [rb]; exact s_isL0 (hB a) (by unfold isL; unfold isD at hD; omega)
  have e2 : d_Pa_isDigit (w8 ((sto M 55 9 (M 55 7)) 56 (ix ((sto M 55 9 (M 55 7)) 55 7)))) (sto M 55 9 (M 55 7)) = some (1, sto M 55 9 (M 55 7)) := by rw [rb]; exact s_isD1 hD
  unfold k_Pa_advance_60
  repeat (first | with_reducible refine ok_let ?_ | with_reducible refine ok_cs ?_ | with_reducible refine ok_clet ?_ | with_reducible refine ok_cc ?_ | (with_reducible refine ok_chk ?_ ?_; · (first | omega | ((try simp (disch := omega) only [w32_eq, w64_eq, ix_n, ix_e, sto_n, sto_e, sto_r, zf_r, Int.toNat_natCast, true_or, or_true, eq_self, h7, h6]) <;> (first | omega | decide)))) | (with_reducible refine ok_cchk ?_ ?_; · (first | omega | ((try simp (disch := omega) only [w32_eq, w64_eq, ix_n, ix_e, sto_n, sto_e, sto_r, zf_r, Int.toNat_natCast, true_or, or_true, eq_self, h7, h6]) <;> (first | omega | decide)))) | (with_reducible refine ok_t ?_ ?_; · (first | omega | ((try simp (disch := omega) only [w32_eq, w64_eq, ix_n, ix_e, sto_n, sto_e, sto_r, zf_r, Int.toNat_natCast, true_or, or_true, eq_self, h7, h6]) <;> (first | omega | decide)))) | (with_reducible refine ok_f ?_ ?_; · (first | omega | ((try simp (disch := omega) only [w32_eq, w64_eq, ix_n, ix_e, sto_n, sto_e, sto_r, zf_r, Int.toNat_natCast, true_or, or_true, eq_self, h7, h6]) <;> (first | omega | decide)))) | (with_reducible refine ok_ct ?_ ?_; · (first | omega | ((try simp (disch := omega) only [w32_eq, w64_eq, ix_n, ix_e, sto_n, sto_e, sto_r, zf_r, Int.toNat_natCast, true_or, or_true, eq_self, h7, h6]) <;> (first | omega | decide)))) | (with_reducible refine ok_cf ?_ ?_; · (first | omega | ((try simp (disch := omega) only [w32_eq, w64_eq, ix_n, ix_e, sto_n, sto_e, sto_r, zf_r, Int.toNat_natCast, true_or, or_true, eq_self, h7, h6]) <;> (first | omega | decide)))) | with_reducible refine ok_call_eq e1 ?_ | with_reducible refine ok_call_eq e2 ?_)
  unfold d_Pa_scanNumber
  repeat (first | with_reducible refine ok_let ?_ | with_reducible refine ok_cs ?_ | with_reducible refine ok_clet ?_ | with_reducible refine ok_cc ?_ | (with_reducible refine ok_chk ?_ ?_; · (first | omega | ((try simp (disch := omega) only [w32_eq, w64_eq, ix_n, ix_e, sto_n, sto_e, sto_r, zf_r, Int.toNat_natCast, true_or, or_true, eq_self]) <;> (first | omega | decide)))) | (with_reducible refine ok_cchk ?_ ?_; · (first | omega | ((try simp (disch := omega) only [w32_eq, w64_eq, ix_n, ix_e, sto_n, sto_e, sto_r, zf_r, Int.toNat_natCast, true_or, or_true, eq_self]) <;> (first | omega | decide)))) | (with_reducible refine ok_t ?_ ?_; · (first | omega | ((try simp (disch := omega) only [w32_eq, w64_eq, ix_n, ix_e, sto_n, sto_e, sto_r, zf_r, Int.toNat_natCast, true_or, or_true, eq_self]) <;> (first | omega | decide)))) | (with_reducible refine ok_f ?_ ?_; · (first | omega | ((try simp (disch := omega) only [w32_eq, w64_eq, ix_n, ix_e, sto_n, sto_e, sto_r, zf_r, Int.toNat_natCast, true_or, or_true, eq_self]) <;> (first | omega | decide)))) | (with_reducible refine ok_ct ?_ ?_; · (first | omega | ((try simp (disch := omega) only [w32_eq, w64_eq, ix_n, ix_e, sto_n, sto_e, sto_r, zf_r, Int.toNat_natCast, true_or, or_true, eq_self]) <;> (first | omega | decide)))) | (with_reducible refine ok_cf ?_ ?_; · (first | omega | ((try simp (disch := omega) only [w32_eq, w64_eq, ix_n, ix_e, sto_n, sto_e, sto_r, zf_r, Int.toNat_natCast, true_or, or_true, eq_self]) <;> (first | omega | decide)))))
  refine ok_call (Q := fun _ M' => M' 55 9 = (a : Int) ∧ ((lnF b 48 57 (n - a) a - a ≤ 6 ∧ M' 55 2 = 0 ∧ M' 55 8 = 2 ∧ M' 55 10 = nmF b a (lnF b 48 57 (n - a) a - a) ∧ M' 55 7 = ((lnF b 48 57 (n - a) a : Nat) : Int) ∧ M' 55 3 = -1) ∨ (6 < lnF b 48 57 (n - a) a - a ∧ M' 55 2 = 1 ∧ M' 55 3 = (a : Int) ∧ M' 55 8 = 1))) ?_ (fun v M' q => ok_ret q)
  refine l_nmC (i := a) hn hB (n - a) FU a _ ((hT.s (by decide)).s (by decide)) ?_ ?_ ?_ ?_ (by omega) (by omega) (by unfold FU; omega)
  · simp (disch := omega) only [w32_eq, w64_eq, ix_n, ix_e, sto_n, sto_e, sto_r, zf_r, Int.toNat_natCast, h7]
  · simp (disch := omega) only [w32_eq, w64_eq, ix_n, ix_e, sto_n, sto_e, sto_r, zf_r, Int.toNat_natCast, h7]
  · simp (disch := omega) only [w32_eq, w64_eq, ix_n, ix_e, sto_n, sto_e, sto_r, zf_r, Int.toNat_natCast, h2]
  · rw [sto_e, Nat.sub_self]; rfl
theorem k58_d {n a : Nat} {b : Nat → Int} {M : Mem} (hn : n ≤ 500) (hB : BtB b) (hT : TpR b n M) (h7 : M 111 51 = (a : Int)) (ha : a < n) (hD : isD (b a)) :
    Ok (k_Mo_next_58 M) (fun _ M' => M' 111 51 = (a : Int) ∧ M' 111 53 = n6F b a (lnF b 48 57 (n - a) a - a) ∧ M' 111 52 = ((lnF b 48 57 (n - a) a : Nat) : Int) ∧ M' 111 50 = (if 6 < lnF b 48 57 (n - a) a - a then 4 else 2)) := by
  have h6 := hT.1
  have hr := hB a
  have hT2 : TpR b n (sto M 111 52 (M 111 51)) := hT.s (by decide)
  have lk : d_Mo_look ((sto M 111 52 (M 111 51)) 111 51) (sto M 111 52 (M 111 51)) = some (b a % 256, sto M 111 52 (M 111 51)) := by rw [sto_n (by decide), h7, s_look hn hB (hT.s (by decide)) (by omega), if_pos ha]
  have e1 : d_Mo_isLetter (b a % 256) (sto M 111 52 (M 111 51)) = some (0, sto M 111 52 (M 111 51)) := s_rL0 (by omega) (by unfold isL; unfold isD at hD; omega)
  have e2 : d_Mo_isDigit (b a % 256) (sto M 111 52 (M 111 51)) = some (1, sto M 111 52 (M 111 51)) := s_rD1 (by unfold isD at hD ⊢; omega)
  unfold k_Mo_next_58
  repeat (first | with_reducible refine ok_let ?_ | with_reducible refine ok_cs ?_ | with_reducible refine ok_clet ?_ | with_reducible refine ok_cc ?_ | (with_reducible refine ok_chk ?_ ?_; · (first | omega | ((try simp (disch := omega) only [w32_eq, w64_eq, ix_n, ix_e, sto_n, sto_e, sto_r, zf_r, Int.toNat_natCast, true_or, or_true, eq_self, h7, h6]) <;> (first | omega | decide)))) | (with_reducible refine ok_cchk ?_ ?_; · (first | omega | ((try simp (disch := omega) only [w32_eq, w64_eq, ix_n, ix_e, sto_n, sto_e, sto_r, zf_r, Int.toNat_natCast, true_or, or_true, eq_self, h7, h6]) <;> (first | omega | decide)))) | (with_reducible refine ok_t ?_ ?_; · (first | omega | ((try simp (disch := omega) only [w32_eq, w64_eq, ix_n, ix_e, sto_n, sto_e, sto_r, zf_r, Int.toNat_natCast, true_or, or_true, eq_self, h7, h6]) <;> (first | omega | decide)))) | (with_reducible refine ok_f ?_ ?_; · (first | omega | ((try simp (disch := omega) only [w32_eq, w64_eq, ix_n, ix_e, sto_n, sto_e, sto_r, zf_r, Int.toNat_natCast, true_or, or_true, eq_self, h7, h6]) <;> (first | omega | decide)))) | (with_reducible refine ok_ct ?_ ?_; · (first | omega | ((try simp (disch := omega) only [w32_eq, w64_eq, ix_n, ix_e, sto_n, sto_e, sto_r, zf_r, Int.toNat_natCast, true_or, or_true, eq_self, h7, h6]) <;> (first | omega | decide)))) | (with_reducible refine ok_cf ?_ ?_; · (first | omega | ((try simp (disch := omega) only [w32_eq, w64_eq, ix_n, ix_e, sto_n, sto_e, sto_r, zf_r, Int.toNat_natCast, true_or, or_true, eq_self, h7, h6]) <;> (first | omega | decide)))) | with_reducible refine ok_call_eq lk ?_ | with_reducible refine ok_call_eq e1 ?_ | with_reducible refine ok_call_eq e2 ?_)
  refine ok_mono (l_nmR (i := a) hn hB (n - a) FU a _ (hT2.s (by decide)) ?_ ?_ ?_ (by omega) (by omega) (by unfold FU; omega)) (fun _ M' q => ?_)
  · rw [sto_n (by decide), sto_e, h7]
  · rw [sto_n (by decide), sto_n (by decide), h7]
  · rw [sto_e, Nat.sub_self]; rfl
  · obtain ⟨⟨q1, q2, q3⟩, q4⟩ := q
    refine ⟨?_, q1, q2, q3⟩
    rw [q4.f 111 51 (by decide) (by decide)]; simp (disch := omega) only [w32_eq, w64_eq, ix_n, ix_e, sto_n, sto_e, sto_r, zf_r, Int.toNat_natCast, h7]
theorem k60_s {n a : Nat} {b : Nat → Int} {M : Mem} (hn : n ≤ 500) (hB : BtB b) (hT : TpC b n M) (h7 : M 55 7 = (a : Int)) (ha : a < n) (hL : ¬ isL (b a)) (hD : ¬ isD (b a)) (hS : isS (b a)) : k_Pa_advance_60 M = some (0, sto (sto (sto M 55 9 (a : Int)) 55 8 (b a)) 55 7 ((a + 1 : Nat) : Int)) := by
  have h6 := hT.1
  have rb := rdb (v := M 55 7) hn hT h7 ha
  have e1 : d_Pa_isLetter (w8 ((sto M 55 9 (M 55 7)) 56 (ix ((sto M 55 9 (M 55 7)) 55 7)))) (sto M 55 9 (M 55 7)) = some (0, sto M 55 9 (M 55 7)) := by rw [rb]; exact s_isL0 (hB a) hL
  have e2 : d_Pa_isDigit (w8 ((sto M 55 9 (M 55 7)) 56 (ix ((sto M 55 9 (M 55 7)) 55 7)))) (sto M 55 9 (M 55 7)) = some (0, sto M 55 9 (M 55 7)) := by rw [rb]; exact s_isD0 (hB a) hD
  have e3 : d_Pa_isSign (w8 ((sto M 55 9 (M 55 7)) 56 (ix ((sto M 55 9 (M 55 7)) 55 7)))) (sto M 55 9 (M 55 7)) = some (1, sto M 55 9 (M 55 7)) := by rw [rb]; exact (s_isSg (hB a)).1 hS
  unfold k_Pa_advance_60
  repeat (first | with_reducible refine e_let ?_ | with_reducible refine e_cs ?_ | with_reducible refine e_clet ?_ | with_reducible refine e_cc ?_ | (with_reducible refine e_chk ?_ ?_; · (first | omega | ((try simp (disch := omega) only [w32_eq, w64_eq, ix_n, ix_e, sto_n, sto_e, sto_r, zf_r, Int.toNat_natCast, true_or, or_true, eq_self, h7, h6]) <;> (first | omega | decide)))) | (with_reducible refine e_cchk ?_ ?_; · (first | omega | ((try simp (disch := omega) only [w32_eq, w64_eq, ix_n, ix_e, sto_n, sto_e, sto_r, zf_r, Int.toNat_natCast, true_or, or_true, eq_self, h7, h6]) <;> (first | omega | decide)))) | (with_reducible refine e_t ?_ ?_; · (first | omega | ((try simp (disch := omega) only [w32_eq, w64_eq, ix_n, ix_e, sto_n, sto_e, sto_r, zf_r, Int.toNat_natCast, true_or, or_true, eq_self, h7, h6]) <;> (first | omega | decide)))) | (with_reducible refine e_f ?_ ?_; · (first | omega | ((try simp (disch := omega) only [w32_eq, w64_eq, ix_n, ix_e, sto_n, sto_e, sto_r, zf_r, Int.toNat_natCast, true_or, or_true, eq_self, h7, h6]) <;> (first | omega | decide)))) | (with_reducible refine e_ct ?_ ?_; · (first | omega | ((try simp (disch := omega) only [w32_eq, w64_eq, ix_n, ix_e, sto_n, sto_e, sto_r, zf_r, Int.toNat_natCast, true_or, or_true, eq_self, h7, h6]) <;> (first | omega | decide)))) | (with_reducible refine e_cf ?_ ?_; · (first | omega | ((try simp (disch := omega) only [w32_eq, w64_eq, ix_n, ix_e, sto_n, sto_e, sto_r, zf_r, Int.toNat_natCast, true_or, or_true, eq_self, h7, h6]) <;> (first | omega | decide)))) | with_reducible refine e_call e1 ?_ | with_reducible refine e_call e2 ?_ | with_reducible refine e_call e3 ?_)
  rw [rb, sto_n (by decide), sto_n (by decide), h7, show (a : Int) + 1 = ((a + 1 : Nat) : Int) by omega]
theorem k60_b {n a : Nat} {b : Nat → Int} {M : Mem} (hn : n ≤ 500) (hB : BtB b) (hT : TpC b n M) (h7 : M 55 7 = (a : Int)) (h2 : M 55 2 = 0) (ha : a < n) (hL : ¬ isL (b a)) (hD : ¬ isD (b a)) (hS : ¬ isS (b a)) : k_Pa_advance_60 M = some (0, sto (sto (sto (sto M 55 9 (a : Int)) 55 2 1) 55 3 (a : Int)) 55 8 1) := by
  have h6 := hT.1
  have rb := rdb (v := M 55 7) hn hT h7 ha
  have e1 : d_Pa_isLetter (w8 ((sto M 55 9 (M 55 7)) 56 (ix ((sto M 55 9 (M 55 7)) 55 7)))) (sto M 55 9 (M 55 7)) = some (0, sto M 55 9 (M 55 7)) := by rw [rb]; exact s_isL0 (hB a) hL
  have e2 : d_Pa_isDigit (w8 ((sto M 55 9 (M 55 7)) 56 (ix ((sto M 55 9 (M 55 7)) 55 7)))) (sto M 55 9 (M 55 7)) = some (0, sto M 55 9 (M 55 7)) := by rw [rb]; exact s_isD0 (hB a) hD
  have e3 : d_Pa_isSign (w8 ((sto M 55 9 (M 55 7)) 56 (ix ((sto M 55 9 (M 55 7)) 55 7)))) (sto M 55 9 (M 55 7)) = some (0, sto M 55 9 (M 55 7)) := by rw [rb]; exact (s_isSg (hB a)).2 hS
  unfold k_Pa_advance_60
  repeat (first | with_reducible refine e_let ?_ | with_reducible refine e_cs ?_ | with_reducible refine e_clet ?_ | with_reducible refine e_cc ?_ | (with_reducible refine e_chk ?_ ?_; · (first | omega | ((try simp (disch := omega) only [w32_eq, w64_eq, ix_n, ix_e, sto_n, sto_e, sto_r, zf_r, Int.toNat_natCast, true_or, or_true, eq_self, h7, h6]) <;> (first | omega | decide)))) | (with_reducible refine e_cchk ?_ ?_; · (first | omega | ((try simp (disch := omega) only [w32_eq, w64_eq, ix_n, ix_e, sto_n, sto_e, sto_r, zf_r, Int.toNat_natCast, true_or, or_true, eq_self, h7, h6]) <;> (first | omega | decide)))) | (with_reducible refine e_t ?_ ?_; · (first | omega | ((try simp (disch := omega) only [w32_eq, w64_eq, ix_n, ix_e, sto_n, sto_e, sto_r, zf_r, Int.toNat_natCast, true_or, or_true, eq_self, h7, h6]) <;> (first | omega | decide)))) | (with_reducible refine e_f ?_ ?_; · (first | omega | ((try simp (disch := omega) only [w32_eq, w64_eq, ix_n, ix_e, sto_n, sto_e, sto_r, zf_r, Int.toNat_natCast, true_or, or_true, eq_self, h7, h6]) <;> (first | omega | decide)))) | (with_reducible refine e_ct ?_ ?_; · (first | omega | ((try simp (disch := omega) only [w32_eq, w64_eq, ix_n, ix_e, sto_n, sto_e, sto_r, zf_r, Int.toNat_natCast, true_or, or_true, eq_self, h7, h6]) <;> (first | omega | decide)))) | (with_reducible refine e_cf ?_ ?_; · (first | omega | ((try simp (disch := omega) only [w32_eq, w64_eq, ix_n, ix_e, sto_n, sto_e, sto_r, zf_r, Int.toNat_natCast, true_or, or_true, eq_self, h7, h6]) <;> (first | omega | decide)))) | with_reducible refine e_call e1 ?_ | with_reducible refine e_call e2 ?_ | with_reducible refine e_call e3 ?_)
  unfold d_Pa_fail k_Pa_fail_20
  repeat (first | with_reducible refine e_let ?_ | with_reducible refine e_cs ?_ | with_reducible refine e_clet ?_ | with_reducible refine e_cc ?_ | (with_reducible refine e_chk ?_ ?_; · (first | omega | ((try simp (disch := omega) only [w32_eq, w64_eq, ix_n, ix_e, sto_n, sto_e, sto_r, zf_r, Int.toNat_natCast, true_or, or_true, eq_self, h2]) <;> (first | omega | decide)))) | (with_reducible refine e_cchk ?_ ?_; · (first | omega | ((try simp (disch := omega) only [w32_eq, w64_eq, ix_n, ix_e, sto_n, sto_e, sto_r, zf_r, Int.toNat_natCast, true_or, or_true, eq_self, h2]) <;> (first | omega | decide)))) | (with_reducible refine e_t ?_ ?_; · (first | omega | ((try simp (disch := omega) only [w32_eq, w64_eq, ix_n, ix_e, sto_n, sto_e, sto_r, zf_r, Int.toNat_natCast, true_or, or_true, eq_self, h2]) <;> (first | omega | decide)))) | (with_reducible refine e_f ?_ ?_; · (first | omega | ((try simp (disch := omega) only [w32_eq, w64_eq, ix_n, ix_e, sto_n, sto_e, sto_r, zf_r, Int.toNat_natCast, true_or, or_true, eq_self, h2]) <;> (first | omega | decide)))) | (with_reducible refine e_ct ?_ ?_; · (first | omega | ((try simp (disch := omega) only [w32_eq, w64_eq, ix_n, ix_e, sto_n, sto_e, sto_r, zf_r, Int.toNat_natCast, true_or, or_true, eq_self, h2]) <;> (first | omega | decide)))) | (with_reducible refine e_cf ?_ ?_; · (first | omega | ((try simp (disch := omega) only [w32_eq, w64_eq, ix_n, ix_e, sto_n, sto_e, sto_r, zf_r, Int.toNat_natCast, true_or, or_true, eq_self, h2]) <;> (first | omega | decide)))))
  rw [sto_n (by decide), sto_e, h7]
theorem k58_s {n a : Nat} {b : Nat → Int} {M : Mem} (hn : n ≤ 500) (hB : BtB b) (hT : TpR b n M) (h7 : M 111 51 = (a : Int)) (ha : a < n) (hL : ¬ isL (b a)) (hD : ¬ isD (b a)) :
    Ok (k_Mo_next_58 M) (fun _ M' => M' 111 51 = (a : Int) ∧ M' 111 52 = ((a + 1 : Nat) : Int) ∧ ((isS (b a) ∧ M' 111 53 = b a ∧ M' 111 50 = 3) ∨ (¬ isS (b a) ∧ M' 111 50 = 4))) := by
  have h6 := hT.1
  have hr := hB a
  have hT2 : TpR b n (sto M 111 52 (M 111 51)) := hT.s (by decide)
  have lk : d_Mo_look ((sto M 111 52 (M 111 51)) 111 51) (sto M 111 52 (M 111 51)) = some (b a % 256, sto M 111 52 (M 111 51)) := by rw [sto_n (by decide), h7, s_look hn hB (hT.s (by decide)) (by omega), if_pos ha]
  have e1 : d_Mo_isLetter (b a % 256) (sto M 111 52 (M 111 51)) = some (0, sto M 111 52 (M 111 51)) := s_rL0 (by omega) (by unfold isL at hL ⊢; omega)
  have e2 : d_Mo_isDigit (b a % 256) (sto M 111 52 (M 111 51)) = some (0, sto M 111 52 (M 111 51)) := s_rD0 (by omega) (by unfold isD at hD ⊢; omega)
  unfold k_Mo_next_58
  repeat (first | with_reducible refine ok_let ?_ | with_reducible refine ok_cs ?_ | with_reducible refine ok_clet ?_ | with_reducible refine ok_cc ?_ | (with_reducible refine ok_chk ?_ ?_; · (first | omega | ((try simp (disch := omega) only [w32_eq, w64_eq, ix_n, ix_e, sto_n, sto_e, sto_r, zf_r, Int.toNat_natCast, true_or, or_true, eq_self, h7, h6]) <;> (first | omega | decide)))) | (with_reducible refine ok_cchk ?_ ?_; · (first | omega | ((try simp (disch := omega) only [w32_eq, w64_eq, ix_n, ix_e, sto_n, sto_e, sto_r, zf_r, Int.toNat_natCast, true_or, or_true, eq_self, h7, h6]) <;> (first | omega | decide)))) | (with_reducible refine ok_t ?_ ?_; · (first | omega | ((try simp (disch := omega) only [w32_eq, w64_eq, ix_n, ix_e, sto_n, sto_e, sto_r, zf_r, Int.toNat_natCast, true_or, or_true, eq_self, h7, h6]) <;> (first | omega | decide)))) | (with_reducible refine ok_f ?_ ?_; · (first | omega | ((try simp (disch := omega) only [w32_eq, w64_eq, ix_n, ix_e, sto_n, sto_e, sto_r, zf_r, Int.toNat_natCast, true_or, or_true, eq_self, h7, h6]) <;> (first | omega | decide)))) | (with_reducible refine ok_ct ?_ ?_; · (first | omega | ((try simp (disch := omega) only [w32_eq, w64_eq, ix_n, ix_e, sto_n, sto_e, sto_r, zf_r, Int.toNat_natCast, true_or, or_true, eq_self, h7, h6]) <;> (first | omega | decide)))) | (with_reducible refine ok_cf ?_ ?_; · (first | omega | ((try simp (disch := omega) only [w32_eq, w64_eq, ix_n, ix_e, sto_n, sto_e, sto_r, zf_r, Int.toNat_natCast, true_or, or_true, eq_self, h7, h6]) <;> (first | omega | decide)))) | with_reducible refine ok_call_eq lk ?_ | with_reducible refine ok_call_eq e1 ?_ | with_reducible refine ok_call_eq e2 ?_)
  unfold d_Mo_isIn k_Mo_next_356 k_Mo_next_361
  have fin : ∀ (v : Int) (M2 : Mem), M2 = sto (sto (sto M 111 52 (M 111 51)) 111 52 ((sto M 111 52 (M 111 51)) 111 51 + 1)) 111 53 (b a % 256) → ((isS (b a) ∧ v = 3) ∨ (¬ isS (b a) ∧ v = 4)) → Ok (blet (sto M2 111 50 v) fun M1 => some (0, M1)) (fun _ M' => M' 111 51 = (a : Int) ∧ M' 111 52 = ((a + 1 : Nat) : Int) ∧ ((isS (b a) ∧ M' 111 53 = b a ∧ M' 111 50 = 3) ∨ (¬ isS (b a) ∧ M' 111 50 = 4))) := fun v M2 e q => by
    subst e
    refine ok_let (ok_ret ⟨?_, ?_, ?_⟩)
    · simp (disch := omega) only [w32_eq, w64_eq, ix_n, ix_e, sto_n, sto_e, sto_r, zf_r, Int.toNat_natCast, h7]
    · simp (disch := omega) only [w32_eq, w64_eq, ix_n, ix_e, sto_n, sto_e, sto_r, zf_r, Int.toNat_natCast, h7]; omega
    · rcases q with ⟨q1, q2⟩ | ⟨q1, q2⟩
      · left
        refine ⟨q1, ?_, ?_⟩
        · simp (disch := omega) only [w32_eq, w64_eq, ix_n, ix_e, sto_n, sto_e, sto_r, zf_r, Int.toNat_natCast, h7]; unfold isS at q1; omega
        · rw [sto_e, q2]
      · right; exact ⟨q1, by rw [sto_e, q2]⟩
  have u : isS (b a) ↔ ((58 ≤ b a ∧ b a ≤ 62) ∨ (40 ≤ b a ∧ b a ≤ 45) ∨ b a = 47 ∨ b a = 37) := Iff.rfl
  have u1 : w32 (b a % 256) = b a % 256 := w32_eq (by omega) (by omega)
  rw [u1]
  by_cases c1 : b a % 256 < 58
  · by_cases c2 : b a % 256 < 40
    · by_cases c3 : b a % 256 = 37
      · repeat (first | with_reducible refine ok_let ?_ | with_reducible refine ok_cs ?_ | with_reducible refine ok_clet ?_ | with_reducible refine ok_cc ?_ | (with_reducible refine ok_chk ?_ ?_; · (first | omega | ((try simp (disch := omega) only [w32_eq, w64_eq, ix_n, ix_e, sto_n, sto_e, sto_r, zf_r, Int.toNat_natCast, true_or, or_true, eq_self]) <;> (first | omega | decide)))) | (with_reducible refine ok_cchk ?_ ?_; · (first | omega | ((try simp (disch := omega) only [w32_eq, w64_eq, ix_n, ix_e, sto_n, sto_e, sto_r, zf_r, Int.toNat_natCast, true_or, or_true, eq_self]) <;> (first | omega | decide)))) | (with_reducible refine ok_t ?_ ?_; · (first | omega | ((try simp (disch := omega) only [w32_eq, w64_eq, ix_n, ix_e, sto_n, sto_e, sto_r, zf_r, Int.toNat_natCast, true_or, or_true, eq_self]) <;> (first | omega | decide)))) | (with_reducible refine ok_f ?_ ?_; · (first | omega | ((try simp (disch := omega) only [w32_eq, w64_eq, ix_n, ix_e, sto_n, sto_e, sto_r, zf_r, Int.toNat_natCast, true_or, or_true, eq_self]) <;> (first | omega | decide)))) | (with_reducible refine ok_ct ?_ ?_; · (first | omega | ((try simp (disch := omega) only [w32_eq, w64_eq, ix_n, ix_e, sto_n, sto_e, sto_r, zf_r, Int.toNat_natCast, true_or, or_true, eq_self]) <;> (first | omega | decide)))) | (with_reducible refine ok_cf ?_ ?_; · (first | omega | ((try simp (disch := omega) only [w32_eq, w64_eq, ix_n, ix_e, sto_n, sto_e, sto_r, zf_r, Int.toNat_natCast, true_or, or_true, eq_self]) <;> (first | omega | decide)))))
        refine fin 3 _ rfl ?_
        rw [u]; omega
      · repeat (first | with_reducible refine ok_let ?_ | with_reducible refine ok_cs ?_ | with_reducible refine ok_clet ?_ | with_reducible refine ok_cc ?_ | (with_reducible refine ok_chk ?_ ?_; · (first | omega | ((try simp (disch := omega) only [w32_eq, w64_eq, ix_n, ix_e, sto_n, sto_e, sto_r, zf_r, Int.toNat_natCast, true_or, or_true, eq_self]) <;> (first | omega | decide)))) | (with_reducible refine ok_cchk ?_ ?_; · (first | omega | ((try simp (disch := omega) only [w32_eq, w64_eq, ix_n, ix_e, sto_n, sto_e, sto_r, zf_r, Int.toNat_natCast, true_or, or_true, eq_self]) <;> (first | omega | decide)))) | (with_reducible refine ok_t ?_ ?_; · (first | omega | ((try simp (disch := omega) only [w32_eq, w64_eq, ix_n, ix_e, sto_n, sto_e, sto_r, zf_r, Int.toNat_natCast, true_or, or_true, eq_self]) <;> (first | omega | decide)))) | (with_reducible refine ok_f ?_ ?_; · (first | omega | ((try simp (disch := omega) only [w32_eq, w64_eq, ix_n, ix_e, sto_n, sto_e, sto_r, zf_r, Int.toNat_natCast, true_or, or_true, eq_self]) <;> (first | omega | decide)))) | (with_reducible refine ok_ct ?_ ?_; · (first | omega | ((try simp (disch := omega) only [w32_eq, w64_eq, ix_n, ix_e, sto_n, sto_e, sto_r, zf_r, Int.toNat_natCast, true_or, or_true, eq_self]) <;> (first | omega | decide)))) | (with_reducible refine ok_cf ?_ ?_; · (first | omega | ((try simp (disch := omega) only [w32_eq, w64_eq, ix_n, ix_e, sto_n, sto_e, sto_r, zf_r, Int.toNat_natCast, true_or, or_true, eq_self]) <;> (first | omega | decide)))))
        refine fin 4 _ rfl ?_
        rw [u]; omega
    · by_cases c3 : 45 < b a % 256
      · by_cases c4 : b a % 256 = 47
        · repeat (first | with_reducible refine ok_let ?_ | with_reducible refine ok_cs ?_ | with_reducible refine ok_clet ?_ | with_reducible refine ok_cc ?_ | (with_reducible refine ok_chk ?_ ?_; · (first | omega | ((try simp (disch := omega) only [w32_eq, w64_eq, ix_n, ix_e, sto_n, sto_e, sto_r, zf_r, Int.toNat_natCast, true_or, or_true, eq_self]) <;> (first | omega | decide)))) | (with_reducible refine ok_cchk ?_ ?_; · (first | omega | ((try simp (disch := omega) only [w32_eq, w64_eq, ix_n, ix_e, sto_n, sto_e, sto_r, zf_r, Int.toNat_natCast, true_or, or_true, eq_self]) <;> (first | omega | decide)))) | (with_reducible refine ok_t ?_ ?_; · (first | omega | ((try simp (disch := omega) only [w32_eq, w64_eq, ix_n, ix_e, sto_n, sto_e, sto_r, zf_r, Int.toNat_natCast, true_or, or_true, eq_self]) <;> (first | omega | decide)))) | (with_reducible refine ok_f ?_ ?_; · (first | omega | ((try simp (disch := omega) only [w32_eq, w64_eq, ix_n, ix_e, sto_n, sto_e, sto_r, zf_r, Int.toNat_natCast, true_or, or_true, eq_self]) <;> (first | omega | decide)))) | (with_reducible refine ok_ct ?_ ?_; · (first | omega | ((try simp (disch := omega) only [w32_eq, w64_eq, ix_n, ix_e, sto_n, sto_e, sto_r, zf_r, Int.toNat_natCast, true_or, or_true, eq_self]) <;> (first | omega | decide)))) | (with_reducible refine ok_cf ?_ ?_; · (first | omega | ((try simp (disch := omega) only [w32_eq, w64_eq, ix_n, ix_e, sto_n, sto_e, sto_r, zf_r, Int.toNat_natCast, true_or, or_true, eq_self]) <;> (first | omega | decide)))))
          refine fin 3 _ rfl ?_
          rw [u]; omega
        · repeat (first | with_reducible refine ok_let ?_ | with_reducible refine ok_cs ?_ | with_reducible refine ok_clet ?_ | with_reducible refine ok_cc ?_ | (with_reducible refine ok_chk ?_ ?_; · (first | omega | ((try simp (disch := omega) only [w32_eq, w64_eq, ix_n, ix_e, sto_n, sto_e, sto_r, zf_r, Int.toNat_natCast, true_or, or_true, eq_self]) <;> (first | omega | decide)))) | (with_reducible refine ok_cchk ?_ ?_; · (first | omega | ((try simp (disch := omega) only [w32_eq, w64_eq, ix_n, ix_e, sto_n, sto_e, sto_r, zf_r, Int.toNat_natCast, true_or, or_true, eq_self]) <;> (first | omega | decide)))) | (with_reducible refine ok_t ?_ ?_; · (first | omega | ((try simp (disch := omega) only [w32_eq, w64_eq, ix_n, ix_e, sto_n, sto_e, sto_r, zf_r, Int.toNat_natCast, true_or, or_true, eq_self]) <;> (first | omega | decide)))) | (with_reducible refine ok_f ?_ ?_; · (first | omega | ((try simp (disch := omega) only [w32_eq, w64_eq, ix_n, ix_e, sto_n, sto_e, sto_r, zf_r, Int.toNat_natCast, true_or, or_true, eq_self]) <;> (first | omega | decide)))) | (with_reducible refine ok_ct ?_ ?_; · (first | omega | ((try simp (disch := omega) only [w32_eq, w64_eq, ix_n, ix_e, sto_n, sto_e, sto_r, zf_r, Int.toNat_natCast, true_or, or_true, eq_self]) <;> (first | omega | decide)))) | (with_reducible refine ok_cf ?_ ?_; · (first | omega | ((try simp (disch := omega) only [w32_eq, w64_eq, ix_n, ix_e, sto_n, sto_e, sto_r, zf_r, Int.toNat_natCast, true_or, or_true, eq_self]) <;> (first | omega | decide)))))
          refine fin 4 _ rfl ?_
          rw [u]; omega
      · repeat (first | with_reducible refine ok_let ?_ | with_reducible refine ok_cs ?_ | with_reducible refine ok_clet ?_ | with_reducible refine ok_cc ?_ | (with_reducible refine ok_chk ?_ ?_; · (first | omega | ((try simp (disch := omega) only [w32_eq, w64_eq, ix_n, ix_e, sto_n, sto_e, sto_r, zf_r, Int.toNat_natCast, true_or, or_true, eq_self]) <;> (first | omega | decide)))) | (with_reducible refine ok_cchk ?_ ?_; · (first | omega | ((try simp (disch := omega) only [w32_eq, w64_eq, ix_n, ix_e, sto_n, sto_e, sto_r, zf_r, Int.toNat_natCast, true_or, or_true, eq_self]) <;> (first | omega | decide)))) | (with_reducible refine ok_t ?_ ?_; · (first | omega | ((try simp (disch := omega) only [w32_eq, w64_eq, ix_n, ix_e, sto_n, sto_e, sto_r, zf_r, Int.toNat_natCast, true_or, or_true, eq_self]) <;> (first | omega | decide)))) | (with_reducible refine ok_f ?_ ?_; · (first | omega | ((try simp (disch := omega) only [w32_eq, w64_eq, ix_n, ix_e, sto_n, sto_e, sto_r, zf_r, Int.toNat_natCast, true_or, or_true, eq_self]) <;> (first | omega | decide)))) | (with_reducible refine ok_ct ?_ ?_; · (first | omega | ((try simp (disch := omega) only [w32_eq, w64_eq, ix_n, ix_e, sto_n, sto_e, sto_r, zf_r, Int.toNat_natCast, true_or, or_true, eq_self]) <;> (first | omega | decide)))) | (with_reducible refine ok_cf ?_ ?_; · (first | omega | ((try simp (disch := omega) only [w32_eq, w64_eq, ix_n, ix_e, sto_n, sto_e, sto_r, zf_r, Int.toNat_natCast, true_or, or_true, eq_self]) <;> (first | omega | decide)))))
        refine fin 3 _ rfl ?_
        rw [u]; omega
  · by_cases c2 : 62 < b a % 256
    · repeat (first | with_reducible refine ok_let ?_ | with_reducible refine ok_cs ?_ | with_reducible refine ok_clet ?_ | with_reducible refine ok_cc ?_ | (with_reducible refine ok_chk ?_ ?_; · (first | omega | ((try simp (disch := omega) only [w32_eq, w64_eq, ix_n, ix_e, sto_n, sto_e, sto_r, zf_r, Int.toNat_natCast, true_or, or_true, eq_self]) <;> (first | omega | decide)))) | (with_reducible refine ok_cchk ?_ ?_; · (first | omega | ((try simp (disch := omega) only [w32_eq, w64_eq, ix_n, ix_e, sto_n, sto_e, sto_r, zf_r, Int.toNat_natCast, true_or, or_true, eq_self]) <;> (first | omega | decide)))) | (with_reducible refine ok_t ?_ ?_; · (first | omega | ((try simp (disch := omega) only [w32_eq, w64_eq, ix_n, ix_e, sto_n, sto_e, sto_r, zf_r, Int.toNat_natCast, true_or, or_true, eq_self]) <;> (first | omega | decide)))) | (with_reducible refine ok_f ?_ ?_; · (first | omega | ((try simp (disch := omega) only [w32_eq, w64_eq, ix_n, ix_e, sto_n, sto_e, sto_r, zf_r, Int.toNat_natCast, true_or, or_true, eq_self]) <;> (first | omega | decide)))) | (with_reducible refine ok_ct ?_ ?_; · (first | omega | ((try simp (disch := omega) only [w32_eq, w64_eq, ix_n, ix_e, sto_n, sto_e, sto_r, zf_r, Int.toNat_natCast, true_or, or_true, eq_self]) <;> (first | omega | decide)))) | (with_reducible refine ok_cf ?_ ?_; · (first | omega | ((try simp (disch := omega) only [w32_eq, w64_eq, ix_n, ix_e, sto_n, sto_e, sto_r, zf_r, Int.toNat_natCast, true_or, or_true, eq_self]) <;> (first | omega | decide)))))
      refine fin 4 _ rfl ?_
      rw [u]; omega
    · repeat (first | with_reducible refine ok_let ?_ | with_reducible refine ok_cs ?_ | with_reducible refine ok_clet ?_ | with_reducible refine ok_cc ?_ | (with_reducible refine ok_chk ?_ ?_; · (first | omega | ((try simp (disch := omega) only [w32_eq, w64_eq, ix_n, ix_e, sto_n, sto_e, sto_r, zf_r, Int.toNat_natCast, true_or, or_true, eq_self]) <;> (first | omega | decide)))) | (with_reducible refine ok_cchk ?_ ?_; · (first | omega | ((try simp (disch := omega) only [w32_eq, w64_eq, ix_n, ix_e, sto_n, sto_e, sto_r, zf_r, Int.toNat_natCast, true_or, or_true, eq_self]) <;> (first | omega | decide)))) | (with_reducible refine ok_t ?_ ?_; · (first | omega | ((try simp (disch := omega) only [w32_eq, w64_eq, ix_n, ix_e, sto_n, sto_e, sto_r, zf_r, Int.toNat_natCast, true_or, or_true, eq_self]) <;> (first | omega | decide)))) | (with_reducible refine ok_f ?_ ?_; · (first | omega | ((try simp (disch := omega) only [w32_eq, w64_eq, ix_n, ix_e, sto_n, sto_e, sto_r, zf_r, Int.toNat_natCast, true_or, or_true, eq_self]) <;> (first | omega | decide)))) | (with_reducible refine ok_ct ?_ ?_; · (first | omega | ((try simp (disch := omega) only [w32_eq, w64_eq, ix_n, ix_e, sto_n, sto_e, sto_r, zf_r, Int.toNat_natCast, true_or, or_true, eq_self]) <;> (first | omega | decide)))) | (with_reducible refine ok_cf ?_ ?_; · (first | omega | ((try simp (disch := omega) only [w32_eq, w64_eq, ix_n, ix_e, sto_n, sto_e, sto_r, zf_r, Int.toNat_natCast, true_or, or_true, eq_self]) <;> (first | omega | decide)))))
      refine fin 3 _ rfl ?_
      rw [u]; omega
theorem adv2 {n e : Nat} {b : Nat → Int} {Mc Mr : Mem} (hn : n ≤ 500) (hB : BtB b) (hc : TpC b n Mc) (hr : TpR b n Mr) (h2 : Mc 55 2 = 0) (h7 : Mc 55 7 = (e : Int)) (h8 : Mr 111 52 = (e : Int)) (he : e ≤ n) :
    Ok2 (d_Pa_advance Mc) (d_Mo_next Mr) (fun Mc' Mr' => TK n e Mc' Mr' ∧ Fr [] [(55, 2), (55, 3), (55, 7), (55, 8), (55, 9), (55, 10), (55, 11)] Mc Mc' ∧ Fr [] [(111, 50), (111, 51), (111, 52), (111, 53), (111, 54), (111, 55)] Mr Mr') := by
  have hs := skF_b (b := b) (n - e) e
  have g1 : d_Pa_advance Mc = k_Pa_advance_60 (sto Mc 55 7 ((skF b (n - e) e : Nat) : Int)) := by
    unfold d_Pa_advance
    rw [blet_s, h2, if_pos (by decide)]
    exact l_skC hn hB (n - e) FU e Mc hc h7 (by omega) (by unfold FU; omega)
  have g2 : d_Mo_next Mr = k_Mo_next_58 (sto Mr 111 51 ((skF b (n - e) e : Nat) : Int)) := by
    unfold d_Mo_next
    rw [blet_s, blet_s, l_skR hn hB (n - e) FU e (sto Mr 111 51 (Mr 111 52)) (hr.s (by decide)) (by rw [sto_e, h8]) (by omega) (by unfold FU; omega), sto_sto]
  suffices hh : Ok2 (d_Pa_advance Mc) (d_Mo_next Mr) (TK n e) by
    obtain ⟨v1, M1, v2, M2, e1, e2, q⟩ := hh
    exact ⟨v1, M1, v2, M2, e1, e2, q, w_Pa_advance e1, w_Mo_next e2⟩
  rw [g1, g2]
  generalize skF b (n - e) e = a at hs
  have hc2 : TpC b n (sto Mc 55 7 (a : Int)) := hc.s (by decide)
  have hr2 : TpR b n (sto Mr 111 51 (a : Int)) := hr.s (by decide)
  have k2 : (sto Mc 55 7 (a : Int)) 55 2 = 0 := by rw [sto_n (by decide), h2]
  have k7 : (sto Mc 55 7 (a : Int)) 55 7 = (a : Int) := sto_e
  have k3 : (sto Mc 55 7 (a : Int)) 55 3 = -1 := hc2.2.1
  have k8 : (sto Mr 111 51 (a : Int)) 111 51 = (a : Int) := sto_e
  generalize sto Mc 55 7 (a : Int) = C at hc2 k2 k7 k3
  generalize sto Mr 111 51 (a : Int) = R at hr2 k8
  by_cases c0 : a < n
  · by_cases cL : isL (b a)
    · obtain ⟨x, ex, e1⟩ := k60_w hn hB hc2 k7 c0 cL
      have hl := lnF_b (b := b) (lo := 97) (hi := 122) (n - a) a
      have hl1 : a + 1 ≤ lnF b 97 122 (n - a) a := by
        obtain ⟨r, er⟩ : ∃ r, n - a = r + 1 := ⟨n - a - 1, by omega⟩
        rw [er]; unfold lnF
        rw [if_pos (show 97 ≤ b a ∧ b a ≤ 122 from cL)]
        exact (lnF_b r (a + 1)).1
      have hall : ∀ j, j < lnF b 97 122 (n - a) a - a → isL (b (a + j)) := fun j hj => hl.2.2 (a + j) (by omega) (by omega)
      refine ok2_i (P1 := fun M => M = _) (ok_eq e1 rfl) (k58_w hn hB hr2 k8 c0 cL) (fun M1 M2 q1 q2 => ?_)
      subst q1
      obtain ⟨p1, p2, p3, p4, p5⟩ := q2
      generalize lnF b 97 122 (n - a) a = E at *
      have kb := kd_b x
      have f8 : sto (sto (sto (sto C 55 9 (a : Int)) 55 7 (E : Int)) 55 11 x) 55 8 (kd x) 55 8 = kd x := sto_e
      have f11 : sto (sto (sto (sto C 55 9 (a : Int)) 55 7 (E : Int)) 55 11 x) 55 8 (kd x) 55 11 = x := by simp (disch := omega) only [w32_eq, w64_eq, ix_n, ix_e, sto_n, sto_e, sto_r, zf_r, Int.toNat_natCast]
      refine ⟨a, by omega, by omega, by simp (disch := omega) only [w32_eq, w64_eq, ix_n, ix_e, sto_n, sto_e, sto_r, zf_r, Int.toNat_natCast], p1, ?_, Or.inl ⟨by rw [f8]; omega, by simp (disch := omega) only [w32_eq, w64_eq, ix_n, ix_e, sto_n, sto_e, sto_r, zf_r, Int.toNat_natCast, k2], by simp (disch := omega) only [w32_eq, w64_eq, ix_n, ix_e, sto_n, sto_e, sto_r, zf_r, Int.toNat_natCast, k3], E, by omega, by omega, by simp (disch := omega) only [w32_eq, w64_eq, ix_n, ix_e, sto_n, sto_e, sto_r, zf_r, Int.toNat_natCast], p4, fun _ => by omega⟩⟩
      rw [f8, f11]
      refine Or.inr (Or.inr (Or.inr (Or.inr ⟨rfl, p2, ?_⟩)))
      by_cases c8 : E - a ≤ 8
      · rw [if_pos c8] at ex
        left
        have hb27 := pkw_27 (E - a) hall
        have hq := q27_l c8
        rw [q27_8] at hq
        refine ⟨by omega, by omega, ?_, by omega, by omega⟩
        rw [p3, ex]; unfold wvF
        rw [if_pos (by omega)]; exact pkw_cv (E - a) c8 hall
      · rw [if_neg c8] at ex
        right
        refine ⟨ex, by omega, by omega, ?_⟩
        rw [p3]; unfold wvF
        by_cases c12 : E - a ≤ 12
        · rw [if_pos c12]; right; exact pkw_long (by omega) c12 hall
        · rw [if_neg c12]; exact Or.inl rfl
    · by_cases cD : isD (b a)
      · have hl := lnF_b (b := b) (lo := 48) (hi := 57) (n - a) a
        have hl1 : a + 1 ≤ lnF b 48 57 (n - a) a := by
          obtain ⟨r, er⟩ : ∃ r, n - a = r + 1 := ⟨n - a - 1, by omega⟩
          rw [er]; unfold lnF
          rw [if_pos (show 48 ≤ b a ∧ b a ≤ 57 from cD)]
          exact (lnF_b r (a + 1)).1
        have hall : ∀ j, j < lnF b 48 57 (n - a) a - a → isD (b (a + j)) := fun j hj => hl.2.2 (a + j) (by omega) (by omega)
        refine ok2_i (k60_d hn hB hc2 k7 k2 c0 cD) (k58_d hn hB hr2 k8 c0 cD) (fun M1 M2 q1 q2 => ?_)
        obtain ⟨p1, p2, p3, p4⟩ := q2
        obtain ⟨s1, s2⟩ := q1
        generalize lnF b 48 57 (n - a) a = E at *
        rcases s2 with ⟨t1, t2, t3, t4, t5, t6⟩ | ⟨t1, t2, t3, t4⟩
        · rw [if_neg (by omega)] at p4
          have hm := nm_6 t1 hall
          refine ⟨a, by omega, by omega, s1, p1, Or.inr (Or.inr (Or.inl ⟨t3, p4, ?_, by omega, by omega⟩)), Or.inl ⟨by omega, t2, t6, E, by omega, by omega, t5, p3, fun _ => by omega⟩⟩
          rw [p2, t4]; unfold n6F; rw [if_pos t1]
        · rw [if_pos t1] at p4
          exact ⟨a, by omega, by omega, s1, p1, Or.inr (Or.inl ⟨t4, p4⟩), Or.inr ⟨t4, t2, t3⟩⟩
      · by_cases cS : isS (b a)
        · refine ok2_i (P1 := fun M => M = _) (ok_eq (k60_s hn hB hc2 k7 c0 cL cD cS) rfl) (k58_s hn hB hr2 k8 c0 cL cD) (fun M1 M2 q1 q2 => ?_)
          subst q1
          obtain ⟨p1, p2, p3⟩ := q2
          have f8 : sto (sto (sto C 55 9 (a : Int)) 55 8 (b a)) 55 7 ((a + 1 : Nat) : Int) 55 8 = b a := by simp (disch := omega) only [w32_eq, w64_eq, ix_n, ix_e, sto_n, sto_e, sto_r, zf_r, Int.toNat_natCast]
          rcases p3 with ⟨p4, p5, p6⟩ | ⟨p4, p5⟩
          · have cS' := cS
            unfold isS at cS'
            refine ⟨a, by omega, by omega, by simp (disch := omega) only [w32_eq, w64_eq, ix_n, ix_e, sto_n, sto_e, sto_r, zf_r, Int.toNat_natCast], p1, ?_, Or.inl ⟨by rw [f8]; omega, by simp (disch := omega) only [w32_eq, w64_eq, ix_n, ix_e, sto_n, sto_e, sto_r, zf_r, Int.toNat_natCast, k2], by simp (disch := omega) only [w32_eq, w64_eq, ix_n, ix_e, sto_n, sto_e, sto_r, zf_r, Int.toNat_natCast, k3], a + 1, by omega, by omega, sto_e, p2, fun _ => by omega⟩⟩
            rw [f8]
            exact Or.inr (Or.inr (Or.inr (Or.inl ⟨cS, p6, p5⟩)))
          · exact absurd cS p4
        · refine ok2_i (P1 := fun M => M = _) (ok_eq (k60_b hn hB hc2 k7 k2 c0 cL cD cS) rfl) (k58_s hn hB hr2 k8 c0 cL cD) (fun M1 M2 q1 q2 => ?_)
          subst q1
          obtain ⟨p1, p2, p3⟩ := q2
          rcases p3 with ⟨p4, p5, p6⟩ | ⟨p4, p5⟩
          · exact absurd p4 cS
          · exact ⟨a, by omega, by omega, by simp (disch := omega) only [w32_eq, w64_eq, ix_n, ix_e, sto_n, sto_e, sto_r, zf_r, Int.toNat_natCast], p1, Or.inr (Or.inl ⟨sto_e, p5⟩), Or.inr ⟨sto_e, by simp (disch := omega) only [w32_eq, w64_eq, ix_n, ix_e, sto_n, sto_e, sto_r, zf_r, Int.toNat_natCast], by simp (disch := omega) only [w32_eq, w64_eq, ix_n, ix_e, sto_n, sto_e, sto_r, zf_r, Int.toNat_natCast]⟩⟩
  · refine ok2_i (P1 := fun M => M = _) (P2 := fun M => M = _) (ok_eq (k60_end hn hc2 k7 c0 (by omega)) rfl) (ok_eq (k58_end hn hr2 k8 c0 (by omega)) rfl) (fun M1 M2 q1 q2 => ?_)
    subst q1 q2
    have f8 : sto (sto C 55 9 (a : Int)) 55 8 0 55 8 = 0 := sto_e
    refine ⟨a, by omega, by omega, by simp (disch := omega) only [w32_eq, w64_eq, ix_n, ix_e, sto_n, sto_e, sto_r, zf_r, Int.toNat_natCast], by simp (disch := omega) only [w32_eq, w64_eq, ix_n, ix_e, sto_n, sto_e, sto_r, zf_r, Int.toNat_natCast, k8], ?_, Or.inl ⟨by rw [f8]; decide, by simp (disch := omega) only [w32_eq, w64_eq, ix_n, ix_e, sto_n, sto_e, sto_r, zf_r, Int.toNat_natCast, k2], by simp (disch := omega) only [w32_eq, w64_eq, ix_n, ix_e, sto_n, sto_e, sto_r, zf_r, Int.toNat_natCast, k3], a, by omega, by omega, by simp (disch := omega) only [w32_eq, w64_eq, ix_n, ix_e, sto_n, sto_e, sto_r, zf_r, Int.toNat_natCast, k7], by simp (disch := omega) only [w32_eq, w64_eq, ix_n, ix_e, sto_n, sto_e, sto_r, zf_r, Int.toNat_natCast], fun h => absurd f8 h⟩⟩
    rw [f8]
    exact Or.inl ⟨rfl, by simp (disch := omega) only [w32_eq, w64_eq, ix_n, ix_e, sto_n, sto_e, sto_r, zf_r, Int.toNat_natCast]⟩
