/-! words: what the model says of a token -/
theorem fndK {x : Int} (h : w64 x = x) : (fndL KWs x 0 = 0 ∧ x = 249) ∨ (fndL KWs x 0 = 1 ∧ x = 399641) ∨ (fndL KWs x 0 = 2 ∧ x = 107681) ∨ (fndL KWs x 0 = 3 ∧ x = 1111) ∨ (fndL KWs x 0 = 4 ∧ x = 423) ∨ (fndL KWs x 0 = 5 ∧ x = 10631) ∨ (fndL KWs x 0 = 6 ∧ x = 6476969) ∨ (fndL KWs x 0 = 7 ∧ x = 267347) ∨ (fndL KWs x 0 = -1 ∧ x ≠ 249 ∧ x ≠ 399641 ∧ x ≠ 107681 ∧ x ≠ 1111 ∧ x ≠ 423 ∧ x ≠ 10631 ∧ x ≠ 6476969 ∧ x ≠ 267347) := by
  unfold KWs
  simp only [fndL, h]
  by_cases c0 : (249 : Int) = x
  · simp only [if_pos c0]; exact Or.inl ⟨by decide, c0.symm⟩
  by_cases c1 : (399641 : Int) = x
  · simp only [if_neg c0, if_pos c1]; exact Or.inr (Or.inl ⟨by decide, c1.symm⟩)
  by_cases c2 : (107681 : Int) = x
  · simp only [if_neg c0, if_neg c1, if_pos c2]; exact Or.inr (Or.inr (Or.inl ⟨by decide, c2.symm⟩))
  by_cases c3 : (1111 : Int) = x
  · simp only [if_neg c0, if_neg c1, if_neg c2, if_pos c3]; exact Or.inr (Or.inr (Or.inr (Or.inl ⟨by decide, c3.symm⟩)))
  by_cases c4 : (423 : Int) = x
  · simp only [if_neg c0, if_neg c1, if_neg c2, if_neg c3, if_pos c4]; exact Or.inr (Or.inr (Or.inr (Or.inr (Or.inl ⟨by decide, c4.symm⟩))))
  by_cases c5 : (10631 : Int) = x
  · simp only [if_neg c0, if_neg c1, if_neg c2, if_neg c3, if_neg c4, if_pos c5]; exact Or.inr (Or.inr (Or.inr (Or.inr (Or.inr (Or.inl ⟨by decide, c5.symm⟩)))))
  by_cases c6 : (6476969 : Int) = x
  · simp only [if_neg c0, if_neg c1, if_neg c2, if_neg c3, if_neg c4, if_neg c5, if_pos c6]; exact Or.inr (Or.inr (Or.inr (Or.inr (Or.inr (Or.inr (Or.inl ⟨by decide, c6.symm⟩))))))
  by_cases c7 : (267347 : Int) = x
  · simp only [if_neg c0, if_neg c1, if_neg c2, if_neg c3, if_neg c4, if_neg c5, if_neg c6, if_pos c7]; exact Or.inr (Or.inr (Or.inr (Or.inr (Or.inr (Or.inr (Or.inr (Or.inl ⟨by decide, c7.symm⟩)))))))
  simp only [if_neg c0, if_neg c1, if_neg c2, if_neg c3, if_neg c4, if_neg c5, if_neg c6, if_neg c7]
  exact Or.inr (Or.inr (Or.inr (Or.inr (Or.inr (Or.inr (Or.inr (Or.inr (⟨trivial, fun e => c0 e.symm, fun e => c1 e.symm, fun e => c2 e.symm, fun e => c3 e.symm, fun e => c4 e.symm, fun e => c5 e.symm, fun e => c6 e.symm, fun e => c7 e.symm⟩))))))))
theorem fndV {x : Int} (h : w64 x = x) : (fndL VRs x 0 = 0 ∧ x = 4075223) ∨ (fndL VRs x 0 = 1 ∧ x = 110031039) ∨ (fndL VRs x 0 = 2 ∧ x = 456500) ∨ (fndL VRs x 0 = 3 ∧ x = 495765) ∨ (fndL VRs x 0 = 4 ∧ x = 1086426856) ∨ (fndL VRs x 0 = 5 ∧ x = 603766) ∨ (fndL VRs x 0 = 6 ∧ x = 82451) ∨ (fndL VRs x 0 = 7 ∧ x = 45611816222) ∨ (fndL VRs x 0 = 8 ∧ x = 60283) ∨ (fndL VRs x 0 = 9 ∧ x = 12249946) ∨ (fndL VRs x 0 = 10 ∧ x = 8863997) ∨ (fndL VRs x 0 = -1 ∧ x ≠ 4075223 ∧ x ≠ 110031039 ∧ x ≠ 456500 ∧ x ≠ 495765 ∧ x ≠ 1086426856 ∧ x ≠ 603766 ∧ x ≠ 82451 ∧ x ≠ 45611816222 ∧ x ≠ 60283 ∧ x ≠ 12249946 ∧ x ≠ 8863997) := by
  unfold VRs
  simp only [fndL, h]
  by_cases c0 : (4075223 : Int) = x
  · simp only [if_pos c0]; exact Or.inl ⟨by decide, c0.symm⟩
  by_cases c1 : (110031039 : Int) = x
  · simp only [if_neg c0, if_pos c1]; exact Or.inr (Or.inl ⟨by decide, c1.symm⟩)
  by_cases c2 : (456500 : Int) = x
  · simp only [if_neg c0, if_neg c1, if_pos c2]; exact Or.inr (Or.inr (Or.inl ⟨by decide, c2.symm⟩))
  by_cases c3 : (495765 : Int) = x
  · simp only [if_neg c0, if_neg c1, if_neg c2, if_pos c3]; exact Or.inr (Or.inr (Or.inr (Or.inl ⟨by decide, c3.symm⟩)))
  by_cases c4 : (1086426856 : Int) = x
  · simp only [if_neg c0, if_neg c1, if_neg c2, if_neg c3, if_pos c4]; exact Or.inr (Or.inr (Or.inr (Or.inr (Or.inl ⟨by decide, c4.symm⟩))))
  by_cases c5 : (603766 : Int) = x
  · simp only [if_neg c0, if_neg c1, if_neg c2, if_neg c3, if_neg c4, if_pos c5]; exact Or.inr (Or.inr (Or.inr (Or.inr (Or.inr (Or.inl ⟨by decide, c5.symm⟩)))))
  by_cases c6 : (82451 : Int) = x
  · simp only [if_neg c0, if_neg c1, if_neg c2, if_neg c3, if_neg c4, if_neg c5, if_pos c6]; exact Or.inr (Or.inr (Or.inr (Or.inr (Or.inr (Or.inr (Or.inl ⟨by decide, c6.symm⟩))))))
  by_cases c7 : (45611816222 : Int) = x
  · simp only [if_neg c0, if_neg c1, if_neg c2, if_neg c3, if_neg c4, if_neg c5, if_neg c6, if_pos c7]; exact Or.inr (Or.inr (Or.inr (Or.inr (Or.inr (Or.inr (Or.inr (Or.inl ⟨by decide, c7.symm⟩)))))))
  by_cases c8 : (60283 : Int) = x
  · simp only [if_neg c0, if_neg c1, if_neg c2, if_neg c3, if_neg c4, if_neg c5, if_neg c6, if_neg c7, if_pos c8]; exact Or.inr (Or.inr (Or.inr (Or.inr (Or.inr (Or.inr (Or.inr (Or.inr (Or.inl ⟨by decide, c8.symm⟩))))))))
  by_cases c9 : (12249946 : Int) = x
  · simp only [if_neg c0, if_neg c1, if_neg c2, if_neg c3, if_neg c4, if_neg c5, if_neg c6, if_neg c7, if_neg c8, if_pos c9]; exact Or.inr (Or.inr (Or.inr (Or.inr (Or.inr (Or.inr (Or.inr (Or.inr (Or.inr (Or.inl ⟨by decide, c9.symm⟩)))))))))
  by_cases c10 : (8863997 : Int) = x
  · simp only [if_neg c0, if_neg c1, if_neg c2, if_neg c3, if_neg c4, if_neg c5, if_neg c6, if_neg c7, if_neg c8, if_neg c9, if_pos c10]; exact Or.inr (Or.inr (Or.inr (Or.inr (Or.inr (Or.inr (Or.inr (Or.inr (Or.inr (Or.inr (Or.inl ⟨by decide, c10.symm⟩))))))))))
  simp only [if_neg c0, if_neg c1, if_neg c2, if_neg c3, if_neg c4, if_neg c5, if_neg c6, if_neg c7, if_neg c8, if_neg c9, if_neg c10]
  exact Or.inr (Or.inr (Or.inr (Or.inr (Or.inr (Or.inr (Or.inr (Or.inr (Or.inr (Or.inr (Or.inr (⟨trivial, fun e => c0 e.symm, fun e => c1 e.symm, fun e => c2 e.symm, fun e => c3 e.symm, fun e => c4 e.symm, fun e => c5 e.symm, fun e => c6 e.symm, fun e => c7 e.symm, fun e => c8 e.symm, fun e => c9 e.symm, fun e => c10 e.symm⟩)))))))))))
theorem fndA {x : Int} (h : w64 x = x) : (fndL ASs x 0 = 0 ∧ x = 355412) ∨ (fndL ASs x 0 = 1 ∧ x = 3379448) ∨ (fndL ASs x 0 = 2 ∧ x = 161437) ∨ (fndL ASs x 0 = 3 ∧ x = 10492150) ∨ (fndL ASs x 0 = 4 ∧ x = 38362985) ∨ (fndL ASs x 0 = 5 ∧ x = 409469) ∨ (fndL ASs x 0 = 6 ∧ x = 12001681) ∨ (fndL ASs x 0 = -1 ∧ x ≠ 355412 ∧ x ≠ 3379448 ∧ x ≠ 161437 ∧ x ≠ 10492150 ∧ x ≠ 38362985 ∧ x ≠ 409469 ∧ x ≠ 12001681) := by
  unfold ASs
  simp only [fndL, h]
  by_cases c0 : (355412 : Int) = x
  · simp only [if_pos c0]; exact Or.inl ⟨by decide, c0.symm⟩
  by_cases c1 : (3379448 : Int) = x
  · simp only [if_neg c0, if_pos c1]; exact Or.inr (Or.inl ⟨by decide, c1.symm⟩)
  by_cases c2 : (161437 : Int) = x
  · simp only [if_neg c0, if_neg c1, if_pos c2]; exact Or.inr (Or.inr (Or.inl ⟨by decide, c2.symm⟩))
  by_cases c3 : (10492150 : Int) = x
  · simp only [if_neg c0, if_neg c1, if_neg c2, if_pos c3]; exact Or.inr (Or.inr (Or.inr (Or.inl ⟨by decide, c3.symm⟩)))
  by_cases c4 : (38362985 : Int) = x
  · simp only [if_neg c0, if_neg c1, if_neg c2, if_neg c3, if_pos c4]; exact Or.inr (Or.inr (Or.inr (Or.inr (Or.inl ⟨by decide, c4.symm⟩))))
  by_cases c5 : (409469 : Int) = x
  · simp only [if_neg c0, if_neg c1, if_neg c2, if_neg c3, if_neg c4, if_pos c5]; exact Or.inr (Or.inr (Or.inr (Or.inr (Or.inr (Or.inl ⟨by decide, c5.symm⟩)))))
  by_cases c6 : (12001681 : Int) = x
  · simp only [if_neg c0, if_neg c1, if_neg c2, if_neg c3, if_neg c4, if_neg c5, if_pos c6]; exact Or.inr (Or.inr (Or.inr (Or.inr (Or.inr (Or.inr (Or.inl ⟨by decide, c6.symm⟩))))))
  simp only [if_neg c0, if_neg c1, if_neg c2, if_neg c3, if_neg c4, if_neg c5, if_neg c6]
  exact Or.inr (Or.inr (Or.inr (Or.inr (Or.inr (Or.inr (Or.inr (⟨trivial, fun e => c0 e.symm, fun e => c1 e.symm, fun e => c2 e.symm, fun e => c3 e.symm, fun e => c4 e.symm, fun e => c5 e.symm, fun e => c6 e.symm⟩)))))))
theorem WR.x {x : Int} {M : Mem} (h : WR x M) : w64 x = x := by
  unfold WR at h
  exact w64_eq (by omega) (by omega)
theorem r_isW {t x u c d : Int} {M : Mem} (h : TR t x u M) (hc : 0 ≤ c ∧ c < 282429536481) (hd : cv c = d) : d_Mo_isWord d M = some (Bz (M 111 50 = 1 ∧ x = c), M) := by
  have cb := cv_b c
  unfold d_Mo_isWord
  by_cases s : M 111 50 = 1
  · unfold TR at h
    have hw : WR x M := by
      rcases h with h | h | h | h | h
      · omega
      · omega
      · omega
      · omega
      · exact h.2.2
    rw [blet_s, s, if_pos (by decide), blet_s, w64_eq (x := d) (by omega) (by omega)]
    rcases hw with ⟨h1, h2, h3, -, -⟩ | ⟨h1, -, -, h4⟩
    · have xb := cv_b x
      rw [h3, w64_eq (by omega) (by omega), ← hd]
      by_cases e : x = c
      · rw [if_pos (by rw [e]), Bz_t ⟨rfl, e⟩]
      · rw [if_neg (fun q => e (cv_i ⟨h1, h2⟩ hc q)), Bz_f (fun q => e q.2)]
    · rw [if_neg, Bz_f (by omega)]
      rw [w64_eq (by omega) (by omega)]; omega
  · rw [blet_s, if_neg, Bz_f (fun q => s q.1)]
    intro q
    unfold TR at h
    rw [w32_eq (by omega) (by omega)] at q
    exact s q
theorem r_isS {t x u c : Int} {M : Mem} (h : TR t x u M) (hc : 37 ≤ c ∧ c ≤ 62) : d_Mo_isSign c M = some (Bz (t = c), M) := by
  have kb := kd_b x
  unfold d_Mo_isSign
  unfold TR at h
  rw [blet_s, w32_eq (x := M 111 50) (by omega) (by omega)]
  by_cases s : M 111 50 = 3
  · rw [if_pos s, blet_s]
    have hh : isS t ∧ M 111 53 = t := by
      rcases h with h | h | h | h | h
      · omega
      · omega
      · omega
      · exact ⟨h.1, h.2.2⟩
      · omega
    have h1 := hh.1
    unfold isS at h1
    rw [hh.2, w32_eq (by omega) (by omega), w32_eq (by omega) (by omega)]
    by_cases e : t = c
    · rw [if_pos e, Bz_t e]
    · rw [if_neg e, Bz_f e]
  · rw [if_neg s, Bz_f]
    intro e
    rcases h with h | h | h | h | h <;> omega
theorem sp_k0 {M : Mem} : d_Mo_spelled 105 102 0 0 0 0 M = some (294, M) := rfl
theorem r_isIf {t x u : Int} {M : Mem} (h : TR t x u M) : d_Mo_isIf M = some (Bz (t = 4), M) := by
  have e : Bz (M 111 50 = 1 ∧ x = 249) = Bz (t = 4) := by
    unfold TR at h
    by_cases s : M 111 50 = 1
    · have hw : WR x M ∧ t = kd x := by
        rcases h with h | h | h | h | h
        · omega
        · omega
        · omega
        · omega
        · exact ⟨h.2.2, h.1⟩
      have f := fndK hw.1.x
      have k := hw.2
      unfold kd at k
      by_cases c : x = 249
      · rw [Bz_t ⟨s, c⟩, Bz_t]
        rw [k, if_neg (by omega)]; omega
      · rw [Bz_f (fun q => c q.2), Bz_f]
        intro q
        by_cases g : fndL KWs x 0 = -1
        · rw [if_pos g] at k; omega
        · rw [if_neg g] at k; omega
    · rw [Bz_f (fun q => s q.1), Bz_f]
      intro q
      unfold isS at h
      omega
  unfold d_Mo_isIf
  rw [sp_k0]
  refine e_cs ?_
  rw [r_isW h (c := 249) (by decide) (by decide +kernel), e]
  refine e_cs ?_
  refine e_chk ?_ rfl
  unfold Bz
  by_cases c : t = 4
  · rw [if_pos c]; exact Or.inr rfl
  · rw [if_neg c]; exact Or.inl rfl
theorem sp_k1 {M : Mem} : d_Mo_spelled 116 104 101 110 0 0 M = some (663726, M) := rfl
theorem r_isThen {t x u : Int} {M : Mem} (h : TR t x u M) : d_Mo_isThen M = some (Bz (t = 5), M) := by
  have e : Bz (M 111 50 = 1 ∧ x = 399641) = Bz (t = 5) := by
    unfold TR at h
    by_cases s : M 111 50 = 1
    · have hw : WR x M ∧ t = kd x := by
        rcases h with h | h | h | h | h
        · omega
        · omega
        · omega
        · omega
        · exact ⟨h.2.2, h.1⟩
      have f := fndK hw.1.x
      have k := hw.2
      unfold kd at k
      by_cases c : x = 399641
      · rw [Bz_t ⟨s, c⟩, Bz_t]
        rw [k, if_neg (by omega)]; omega
      · rw [Bz_f (fun q => c q.2), Bz_f]
        intro q
        by_cases g : fndL KWs x 0 = -1
        · rw [if_pos g] at k; omega
        · rw [if_neg g] at k; omega
    · rw [Bz_f (fun q => s q.1), Bz_f]
      intro q
      unfold isS at h
      omega
  unfold d_Mo_isThen
  rw [sp_k1]
  refine e_cs ?_
  rw [r_isW h (c := 399641) (by decide) (by decide +kernel), e]
  refine e_cs ?_
  refine e_chk ?_ rfl
  unfold Bz
  by_cases c : t = 5
  · rw [if_pos c]; exact Or.inr rfl
  · rw [if_neg c]; exact Or.inl rfl
theorem sp_k2 {M : Mem} : d_Mo_spelled 101 108 115 101 0 0 M = some (176741, M) := rfl
theorem r_isElse {t x u : Int} {M : Mem} (h : TR t x u M) : d_Mo_isElse M = some (Bz (t = 6), M) := by
  have e : Bz (M 111 50 = 1 ∧ x = 107681) = Bz (t = 6) := by
    unfold TR at h
    by_cases s : M 111 50 = 1
    · have hw : WR x M ∧ t = kd x := by
        rcases h with h | h | h | h | h
        · omega
        · omega
        · omega
        · omega
        · exact ⟨h.2.2, h.1⟩
      have f := fndK hw.1.x
      have k := hw.2
      unfold kd at k
      by_cases c : x = 107681
      · rw [Bz_t ⟨s, c⟩, Bz_t]
        rw [k, if_neg (by omega)]; omega
      · rw [Bz_f (fun q => c q.2), Bz_f]
        intro q
        by_cases g : fndL KWs x 0 = -1
        · rw [if_pos g] at k; omega
        · rw [if_neg g] at k; omega
    · rw [Bz_f (fun q => s q.1), Bz_f]
      intro q
      unfold isS at h
      omega
  unfold d_Mo_isElse
  rw [sp_k2]
  refine e_cs ?_
  rw [r_isW h (c := 107681) (by decide) (by decide +kernel), e]
  refine e_cs ?_
  refine e_chk ?_ rfl
  unfold Bz
  by_cases c : t = 6
  · rw [if_pos c]; exact Or.inr rfl
  · rw [if_neg c]; exact Or.inl rfl
theorem sp_k3 {M : Mem} : d_Mo_spelled 97 110 100 0 0 0 M = some (1476, M) := rfl
theorem r_isAnd {t x u : Int} {M : Mem} (h : TR t x u M) : d_Mo_isAnd M = some (Bz (t = 7), M) := by
  have e : Bz (M 111 50 = 1 ∧ x = 1111) = Bz (t = 7) := by
    unfold TR at h
    by_cases s : M 111 50 = 1
    · have hw : WR x M ∧ t = kd x := by
        rcases h with h | h | h | h | h
        · omega
        · omega
        · omega
        · omega
        · exact ⟨h.2.2, h.1⟩
      have f := fndK hw.1.x
      have k := hw.2
      unfold kd at k
      by_cases c : x = 1111
      · rw [Bz_t ⟨s, c⟩, Bz_t]
        rw [k, if_neg (by omega)]; omega
      · rw [Bz_f (fun q => c q.2), Bz_f]
        intro q
        by_cases g : fndL KWs x 0 = -1
        · rw [if_pos g] at k; omega
        · rw [if_neg g] at k; omega
    · rw [Bz_f (fun q => s q.1), Bz_f]
      intro q
      unfold isS at h
      omega
  unfold d_Mo_isAnd
  rw [sp_k3]
  refine e_cs ?_
  rw [r_isW h (c := 1111) (by decide) (by decide +kernel), e]
  refine e_cs ?_
  refine e_chk ?_ rfl
  unfold Bz
  by_cases c : t = 7
  · rw [if_pos c]; exact Or.inr rfl
  · rw [if_neg c]; exact Or.inl rfl
theorem sp_k4 {M : Mem} : d_Mo_spelled 111 114 0 0 0 0 M = some (498, M) := rfl
theorem r_isOr {t x u : Int} {M : Mem} (h : TR t x u M) : d_Mo_isOr M = some (Bz (t = 8), M) := by
  have e : Bz (M 111 50 = 1 ∧ x = 423) = Bz (t = 8) := by
    unfold TR at h
    by_cases s : M 111 50 = 1
    · have hw : WR x M ∧ t = kd x := by
        rcases h with h | h | h | h | h
        · omega
        · omega
        · omega
        · omega
        · exact ⟨h.2.2, h.1⟩
      have f := fndK hw.1.x
      have k := hw.2
      unfold kd at k
      by_cases c : x = 423
      · rw [Bz_t ⟨s, c⟩, Bz_t]
        rw [k, if_neg (by omega)]; omega
      · rw [Bz_f (fun q => c q.2), Bz_f]
        intro q
        by_cases g : fndL KWs x 0 = -1
        · rw [if_pos g] at k; omega
        · rw [if_neg g] at k; omega
    · rw [Bz_f (fun q => s q.1), Bz_f]
      intro q
      unfold isS at h
      omega
  unfold d_Mo_isOr
  rw [sp_k4]
  refine e_cs ?_
  rw [r_isW h (c := 423) (by decide) (by decide +kernel), e]
  refine e_cs ?_
  refine e_chk ?_ rfl
  unfold Bz
  by_cases c : t = 8
  · rw [if_pos c]; exact Or.inr rfl
  · rw [if_neg c]; exact Or.inl rfl
theorem sp_k5 {M : Mem} : d_Mo_spelled 110 111 116 0 0 0 M = some (14836, M) := rfl
theorem r_isNot {t x u : Int} {M : Mem} (h : TR t x u M) : d_Mo_isNot M = some (Bz (t = 9), M) := by
  have e : Bz (M 111 50 = 1 ∧ x = 10631) = Bz (t = 9) := by
    unfold TR at h
    by_cases s : M 111 50 = 1
    · have hw : WR x M ∧ t = kd x := by
        rcases h with h | h | h | h | h
        · omega
        · omega
        · omega
        · omega
        · exact ⟨h.2.2, h.1⟩
      have f := fndK hw.1.x
      have k := hw.2
      unfold kd at k
      by_cases c : x = 10631
      · rw [Bz_t ⟨s, c⟩, Bz_t]
        rw [k, if_neg (by omega)]; omega
      · rw [Bz_f (fun q => c q.2), Bz_f]
        intro q
        by_cases g : fndL KWs x 0 = -1
        · rw [if_pos g] at k; omega
        · rw [if_neg g] at k; omega
    · rw [Bz_f (fun q => s q.1), Bz_f]
      intro q
      unfold isS at h
      omega
  unfold d_Mo_isNot
  rw [sp_k5]
  refine e_cs ?_
  rw [r_isW h (c := 10631) (by decide) (by decide +kernel), e]
  refine e_cs ?_
  refine e_chk ?_ rfl
  unfold Bz
  by_cases c : t = 9
  · rw [if_pos c]; exact Or.inr rfl
  · rw [if_neg c]; exact Or.inl rfl
theorem sp_k6 {M : Mem} : d_Mo_spelled 108 101 97 115 116 0 M = some (12748404, M) := rfl
theorem r_isLeast {t x u : Int} {M : Mem} (h : TR t x u M) : d_Mo_isLeast M = some (Bz (t = 10), M) := by
  have e : Bz (M 111 50 = 1 ∧ x = 6476969) = Bz (t = 10) := by
    unfold TR at h
    by_cases s : M 111 50 = 1
    · have hw : WR x M ∧ t = kd x := by
        rcases h with h | h | h | h | h
        · omega
        · omega
        · omega
        · omega
        · exact ⟨h.2.2, h.1⟩
      have f := fndK hw.1.x
      have k := hw.2
      unfold kd at k
      by_cases c : x = 6476969
      · rw [Bz_t ⟨s, c⟩, Bz_t]
        rw [k, if_neg (by omega)]; omega
      · rw [Bz_f (fun q => c q.2), Bz_f]
        intro q
        by_cases g : fndL KWs x 0 = -1
        · rw [if_pos g] at k; omega
        · rw [if_neg g] at k; omega
    · rw [Bz_f (fun q => s q.1), Bz_f]
      intro q
      unfold isS at h
      omega
  unfold d_Mo_isLeast
  rw [sp_k6]
  refine e_cs ?_
  rw [r_isW h (c := 6476969) (by decide) (by decide +kernel), e]
  refine e_cs ?_
  refine e_chk ?_ rfl
  unfold Bz
  by_cases c : t = 10
  · rw [if_pos c]; exact Or.inr rfl
  · rw [if_neg c]; exact Or.inl rfl
theorem sp_k7 {M : Mem} : d_Mo_spelled 109 111 115 116 0 0 M = some (441972, M) := rfl
theorem r_isMost {t x u : Int} {M : Mem} (h : TR t x u M) : d_Mo_isMost M = some (Bz (t = 11), M) := by
  have e : Bz (M 111 50 = 1 ∧ x = 267347) = Bz (t = 11) := by
    unfold TR at h
    by_cases s : M 111 50 = 1
    · have hw : WR x M ∧ t = kd x := by
        rcases h with h | h | h | h | h
        · omega
        · omega
        · omega
        · omega
        · exact ⟨h.2.2, h.1⟩
      have f := fndK hw.1.x
      have k := hw.2
      unfold kd at k
      by_cases c : x = 267347
      · rw [Bz_t ⟨s, c⟩, Bz_t]
        rw [k, if_neg (by omega)]; omega
      · rw [Bz_f (fun q => c q.2), Bz_f]
        intro q
        by_cases g : fndL KWs x 0 = -1
        · rw [if_pos g] at k; omega
        · rw [if_neg g] at k; omega
    · rw [Bz_f (fun q => s q.1), Bz_f]
      intro q
      unfold isS at h
      omega
  unfold d_Mo_isMost
  rw [sp_k7]
  refine e_cs ?_
  rw [r_isW h (c := 267347) (by decide) (by decide +kernel), e]
  refine e_cs ?_
  refine e_chk ?_ rfl
  unfold Bz
  by_cases c : t = 11
  · rw [if_pos c]; exact Or.inr rfl
  · rw [if_neg c]; exact Or.inl rfl
theorem r_isKept {t x u : Int} {M : Mem} (h : TR t x u M) : d_Mo_isKept M = some (Bz (4 ≤ t ∧ t ≤ 11), M) := by
  unfold d_Mo_isKept k_Mo_isKept_56
  by_cases c0 : t = 4
  · repeat (first | with_reducible refine e_let ?_ | with_reducible refine e_cs ?_ | with_reducible refine e_clet ?_ | with_reducible refine e_cc ?_ | (with_reducible refine e_chk ?_ ?_; · (first | omega | ((try simp (disch := omega) only [w32_eq, w64_eq, ix_n, ix_e, sto_n, sto_e, sto_r, zf_r, Int.toNat_natCast, true_or, or_true, eq_self, Bz_t, Bz_f]) <;> (first | omega | decide)))) | (with_reducible refine e_cchk ?_ ?_; · (first | omega | ((try simp (disch := omega) only [w32_eq, w64_eq, ix_n, ix_e, sto_n, sto_e, sto_r, zf_r, Int.toNat_natCast, true_or, or_true, eq_self, Bz_t, Bz_f]) <;> (first | omega | decide)))) | (with_reducible refine e_t ?_ ?_; · (first | omega | ((try simp (disch := omega) only [w32_eq, w64_eq, ix_n, ix_e, sto_n, sto_e, sto_r, zf_r, Int.toNat_natCast, true_or, or_true, eq_self, Bz_t, Bz_f]) <;> (first | omega | decide)))) | (with_reducible refine e_f ?_ ?_; · (first | omega | ((try simp (disch := omega) only [w32_eq, w64_eq, ix_n, ix_e, sto_n, sto_e, sto_r, zf_r, Int.toNat_natCast, true_or, or_true, eq_self, Bz_t, Bz_f]) <;> (first | omega | decide)))) | (with_reducible refine e_ct ?_ ?_; · (first | omega | ((try simp (disch := omega) only [w32_eq, w64_eq, ix_n, ix_e, sto_n, sto_e, sto_r, zf_r, Int.toNat_natCast, true_or, or_true, eq_self, Bz_t, Bz_f]) <;> (first | omega | decide)))) | (with_reducible refine e_cf ?_ ?_; · (first | omega | ((try simp (disch := omega) only [w32_eq, w64_eq, ix_n, ix_e, sto_n, sto_e, sto_r, zf_r, Int.toNat_natCast, true_or, or_true, eq_self, Bz_t, Bz_f]) <;> (first | omega | decide)))) | with_reducible refine e_call (r_isIf h) ?_ | with_reducible refine e_call (r_isThen h) ?_ | with_reducible refine e_call (r_isElse h) ?_ | with_reducible refine e_call (r_isAnd h) ?_ | with_reducible refine e_call (r_isOr h) ?_ | with_reducible refine e_call (r_isNot h) ?_ | with_reducible refine e_call (r_isLeast h) ?_ | with_reducible refine e_call (r_isMost h) ?_)
    rw [Bz_t (by omega)]
  by_cases c1 : t = 5
  · repeat (first | with_reducible refine e_let ?_ | with_reducible refine e_cs ?_ | with_reducible refine e_clet ?_ | with_reducible refine e_cc ?_ | (with_reducible refine e_chk ?_ ?_; · (first | omega | ((try simp (disch := omega) only [w32_eq, w64_eq, ix_n, ix_e, sto_n, sto_e, sto_r, zf_r, Int.toNat_natCast, true_or, or_true, eq_self, Bz_t, Bz_f]) <;> (first | omega | decide)))) | (with_reducible refine e_cchk ?_ ?_; · (first | omega | ((try simp (disch := omega) only [w32_eq, w64_eq, ix_n, ix_e, sto_n, sto_e, sto_r, zf_r, Int.toNat_natCast, true_or, or_true, eq_self, Bz_t, Bz_f]) <;> (first | omega | decide)))) | (with_reducible refine e_t ?_ ?_; · (first | omega | ((try simp (disch := omega) only [w32_eq, w64_eq, ix_n, ix_e, sto_n, sto_e, sto_r, zf_r, Int.toNat_natCast, true_or, or_true, eq_self, Bz_t, Bz_f]) <;> (first | omega | decide)))) | (with_reducible refine e_f ?_ ?_; · (first | omega | ((try simp (disch := omega) only [w32_eq, w64_eq, ix_n, ix_e, sto_n, sto_e, sto_r, zf_r, Int.toNat_natCast, true_or, or_true, eq_self, Bz_t, Bz_f]) <;> (first | omega | decide)))) | (with_reducible refine e_ct ?_ ?_; · (first | omega | ((try simp (disch := omega) only [w32_eq, w64_eq, ix_n, ix_e, sto_n, sto_e, sto_r, zf_r, Int.toNat_natCast, true_or, or_true, eq_self, Bz_t, Bz_f]) <;> (first | omega | decide)))) | (with_reducible refine e_cf ?_ ?_; · (first | omega | ((try simp (disch := omega) only [w32_eq, w64_eq, ix_n, ix_e, sto_n, sto_e, sto_r, zf_r, Int.toNat_natCast, true_or, or_true, eq_self, Bz_t, Bz_f]) <;> (first | omega | decide)))) | with_reducible refine e_call (r_isIf h) ?_ | with_reducible refine e_call (r_isThen h) ?_ | with_reducible refine e_call (r_isElse h) ?_ | with_reducible refine e_call (r_isAnd h) ?_ | with_reducible refine e_call (r_isOr h) ?_ | with_reducible refine e_call (r_isNot h) ?_ | with_reducible refine e_call (r_isLeast h) ?_ | with_reducible refine e_call (r_isMost h) ?_)
    rw [Bz_t (by omega)]
  by_cases c2 : t = 6
  · repeat (first | with_reducible refine e_let ?_ | with_reducible refine e_cs ?_ | with_reducible refine e_clet ?_ | with_reducible refine e_cc ?_ | (with_reducible refine e_chk ?_ ?_; · (first | omega | ((try simp (disch := omega) only [w32_eq, w64_eq, ix_n, ix_e, sto_n, sto_e, sto_r, zf_r, Int.toNat_natCast, true_or, or_true, eq_self, Bz_t, Bz_f]) <;> (first | omega | decide)))) | (with_reducible refine e_cchk ?_ ?_; · (first | omega | ((try simp (disch := omega) only [w32_eq, w64_eq, ix_n, ix_e, sto_n, sto_e, sto_r, zf_r, Int.toNat_natCast, true_or, or_true, eq_self, Bz_t, Bz_f]) <;> (first | omega | decide)))) | (with_reducible refine e_t ?_ ?_; · (first | omega | ((try simp (disch := omega) only [w32_eq, w64_eq, ix_n, ix_e, sto_n, sto_e, sto_r, zf_r, Int.toNat_natCast, true_or, or_true, eq_self, Bz_t, Bz_f]) <;> (first | omega | decide)))) | (with_reducible refine e_f ?_ ?_; · (first | omega | ((try simp (disch := omega) only [w32_eq, w64_eq, ix_n, ix_e, sto_n, sto_e, sto_r, zf_r, Int.toNat_natCast, true_or, or_true, eq_self, Bz_t, Bz_f]) <;> (first | omega | decide)))) | (with_reducible refine e_ct ?_ ?_; · (first | omega | ((try simp (disch := omega) only [w32_eq, w64_eq, ix_n, ix_e, sto_n, sto_e, sto_r, zf_r, Int.toNat_natCast, true_or, or_true, eq_self, Bz_t, Bz_f]) <;> (first | omega | decide)))) | (with_reducible refine e_cf ?_ ?_; · (first | omega | ((try simp (disch := omega) only [w32_eq, w64_eq, ix_n, ix_e, sto_n, sto_e, sto_r, zf_r, Int.toNat_natCast, true_or, or_true, eq_self, Bz_t, Bz_f]) <;> (first | omega | decide)))) | with_reducible refine e_call (r_isIf h) ?_ | with_reducible refine e_call (r_isThen h) ?_ | with_reducible refine e_call (r_isElse h) ?_ | with_reducible refine e_call (r_isAnd h) ?_ | with_reducible refine e_call (r_isOr h) ?_ | with_reducible refine e_call (r_isNot h) ?_ | with_reducible refine e_call (r_isLeast h) ?_ | with_reducible refine e_call (r_isMost h) ?_)
    rw [Bz_t (by omega)]
  by_cases c3 : t = 7
  · repeat (first | with_reducible refine e_let ?_ | with_reducible refine e_cs ?_ | with_reducible refine e_clet ?_ | with_reducible refine e_cc ?_ | (with_reducible refine e_chk ?_ ?_; · (first | omega | ((try simp (disch := omega) only [w32_eq, w64_eq, ix_n, ix_e, sto_n, sto_e, sto_r, zf_r, Int.toNat_natCast, true_or, or_true, eq_self, Bz_t, Bz_f]) <;> (first | omega | decide)))) | (with_reducible refine e_cchk ?_ ?_; · (first | omega | ((try simp (disch := omega) only [w32_eq, w64_eq, ix_n, ix_e, sto_n, sto_e, sto_r, zf_r, Int.toNat_natCast, true_or, or_true, eq_self, Bz_t, Bz_f]) <;> (first | omega | decide)))) | (with_reducible refine e_t ?_ ?_; · (first | omega | ((try simp (disch := omega) only [w32_eq, w64_eq, ix_n, ix_e, sto_n, sto_e, sto_r, zf_r, Int.toNat_natCast, true_or, or_true, eq_self, Bz_t, Bz_f]) <;> (first | omega | decide)))) | (with_reducible refine e_f ?_ ?_; · (first | omega | ((try simp (disch := omega) only [w32_eq, w64_eq, ix_n, ix_e, sto_n, sto_e, sto_r, zf_r, Int.toNat_natCast, true_or, or_true, eq_self, Bz_t, Bz_f]) <;> (first | omega | decide)))) | (with_reducible refine e_ct ?_ ?_; · (first | omega | ((try simp (disch := omega) only [w32_eq, w64_eq, ix_n, ix_e, sto_n, sto_e, sto_r, zf_r, Int.toNat_natCast, true_or, or_true, eq_self, Bz_t, Bz_f]) <;> (first | omega | decide)))) | (with_reducible refine e_cf ?_ ?_; · (first | omega | ((try simp (disch := omega) only [w32_eq, w64_eq, ix_n, ix_e, sto_n, sto_e, sto_r, zf_r, Int.toNat_natCast, true_or, or_true, eq_self, Bz_t, Bz_f]) <;> (first | omega | decide)))) | with_reducible refine e_call (r_isIf h) ?_ | with_reducible refine e_call (r_isThen h) ?_ | with_reducible refine e_call (r_isElse h) ?_ | with_reducible refine e_call (r_isAnd h) ?_ | with_reducible refine e_call (r_isOr h) ?_ | with_reducible refine e_call (r_isNot h) ?_ | with_reducible refine e_call (r_isLeast h) ?_ | with_reducible refine e_call (r_isMost h) ?_)
    rw [Bz_t (by omega)]
  by_cases c4 : t = 8
  · repeat (first | with_reducible refine e_let ?_ | with_reducible refine e_cs ?_ | with_reducible refine e_clet ?_ | with_reducible refine e_cc ?_ | (with_reducible refine e_chk ?_ ?_; · (first | omega | ((try simp (disch := omega) only [w32_eq, w64_eq, ix_n, ix_e, sto_n, sto_e, sto_r, zf_r, Int.toNat_natCast, true_or, or_true, eq_self, Bz_t, Bz_f]) <;> (first | omega | decide)))) | (with_reducible refine e_cchk ?_ ?_; · (first | omega | ((try simp (disch := omega) only [w32_eq, w64_eq, ix_n, ix_e, sto_n, sto_e, sto_r, zf_r, Int.toNat_natCast, true_or, or_true, eq_self, Bz_t, Bz_f]) <;> (first | omega | decide)))) | (with_reducible refine e_t ?_ ?_; · (first | omega | ((try simp (disch := omega) only [w32_eq, w64_eq, ix_n, ix_e, sto_n, sto_e, sto_r, zf_r, Int.toNat_natCast, true_or, or_true, eq_self, Bz_t, Bz_f]) <;> (first | omega | decide)))) | (with_reducible refine e_f ?_ ?_; · (first | omega | ((try simp (disch := omega) only [w32_eq, w64_eq, ix_n, ix_e, sto_n, sto_e, sto_r, zf_r, Int.toNat_natCast, true_or, or_true, eq_self, Bz_t, Bz_f]) <;> (first | omega | decide)))) | (with_reducible refine e_ct ?_ ?_; · (first | omega | ((try simp (disch := omega) only [w32_eq, w64_eq, ix_n, ix_e, sto_n, sto_e, sto_r, zf_r, Int.toNat_natCast, true_or, or_true, eq_self, Bz_t, Bz_f]) <;> (first | omega | decide)))) | (with_reducible refine e_cf ?_ ?_; · (first | omega | ((try simp (disch := omega) only [w32_eq, w64_eq, ix_n, ix_e, sto_n, sto_e, sto_r, zf_r, Int.toNat_natCast, true_or, or_true, eq_self, Bz_t, Bz_f]) <;> (first | omega | decide)))) | with_reducible refine e_call (r_isIf h) ?_ | with_reducible refine e_call (r_isThen h) ?_ | with_reducible refine e_call (r_isElse h) ?_ | with_reducible refine e_call (r_isAnd h) ?_ | with_reducible refine e_call (r_isOr h) ?_ | with_reducible refine e_call (r_isNot h) ?_ | with_reducible refine e_call (r_isLeast h) ?_ | with_reducible refine e_call (r_isMost h) ?_)
    rw [Bz_t (by omega)]
  by_cases c5 : t = 9
  · repeat (first | with_reducible refine e_let ?_ | with_reducible refine e_cs ?_ | with_reducible refine e_clet ?_ | with_reducible refine e_cc ?_ | (with_reducible refine e_chk ?_ ?_; · (first | omega | ((try simp (disch := omega) only [w32_eq, w64_eq, ix_n, ix_e, sto_n, sto_e, sto_r, zf_r, Int.toNat_natCast, true_or, or_true, eq_self, Bz_t, Bz_f]) <;> (first | omega | decide)))) | (with_reducible refine e_cchk ?_ ?_; · (first | omega | ((try simp (disch := omega) only [w32_eq, w64_eq, ix_n, ix_e, sto_n, sto_e, sto_r, zf_r, Int.toNat_natCast, true_or, or_true, eq_self, Bz_t, Bz_f]) <;> (first | omega | decide)))) | (with_reducible refine e_t ?_ ?_; · (first | omega | ((try simp (disch := omega) only [w32_eq, w64_eq, ix_n, ix_e, sto_n, sto_e, sto_r, zf_r, Int.toNat_natCast, true_or, or_true, eq_self, Bz_t, Bz_f]) <;> (first | omega | decide)))) | (with_reducible refine e_f ?_ ?_; · (first | omega | ((try simp (disch := omega) only [w32_eq, w64_eq, ix_n, ix_e, sto_n, sto_e, sto_r, zf_r, Int.toNat_natCast, true_or, or_true, eq_self, Bz_t, Bz_f]) <;> (first | omega | decide)))) | (with_reducible refine e_ct ?_ ?_; · (first | omega | ((try simp (disch := omega) only [w32_eq, w64_eq, ix_n, ix_e, sto_n, sto_e, sto_r, zf_r, Int.toNat_natCast, true_or, or_true, eq_self, Bz_t, Bz_f]) <;> (first | omega | decide)))) | (with_reducible refine e_cf ?_ ?_; · (first | omega | ((try simp (disch := omega) only [w32_eq, w64_eq, ix_n, ix_e, sto_n, sto_e, sto_r, zf_r, Int.toNat_natCast, true_or, or_true, eq_self, Bz_t, Bz_f]) <;> (first | omega | decide)))) | with_reducible refine e_call (r_isIf h) ?_ | with_reducible refine e_call (r_isThen h) ?_ | with_reducible refine e_call (r_isElse h) ?_ | with_reducible refine e_call (r_isAnd h) ?_ | with_reducible refine e_call (r_isOr h) ?_ | with_reducible refine e_call (r_isNot h) ?_ | with_reducible refine e_call (r_isLeast h) ?_ | with_reducible refine e_call (r_isMost h) ?_)
    rw [Bz_t (by omega)]
  by_cases c6 : t = 10
  · repeat (first | with_reducible refine e_let ?_ | with_reducible refine e_cs ?_ | with_reducible refine e_clet ?_ | with_reducible refine e_cc ?_ | (with_reducible refine e_chk ?_ ?_; · (first | omega | ((try simp (disch := omega) only [w32_eq, w64_eq, ix_n, ix_e, sto_n, sto_e, sto_r, zf_r, Int.toNat_natCast, true_or, or_true, eq_self, Bz_t, Bz_f]) <;> (first | omega | decide)))) | (with_reducible refine e_cchk ?_ ?_; · (first | omega | ((try simp (disch := omega) only [w32_eq, w64_eq, ix_n, ix_e, sto_n, sto_e, sto_r, zf_r, Int.toNat_natCast, true_or, or_true, eq_self, Bz_t, Bz_f]) <;> (first | omega | decide)))) | (with_reducible refine e_t ?_ ?_; · (first | omega | ((try simp (disch := omega) only [w32_eq, w64_eq, ix_n, ix_e, sto_n, sto_e, sto_r, zf_r, Int.toNat_natCast, true_or, or_true, eq_self, Bz_t, Bz_f]) <;> (first | omega | decide)))) | (with_reducible refine e_f ?_ ?_; · (first | omega | ((try simp (disch := omega) only [w32_eq, w64_eq, ix_n, ix_e, sto_n, sto_e, sto_r, zf_r, Int.toNat_natCast, true_or, or_true, eq_self, Bz_t, Bz_f]) <;> (first | omega | decide)))) | (with_reducible refine e_ct ?_ ?_; · (first | omega | ((try simp (disch := omega) only [w32_eq, w64_eq, ix_n, ix_e, sto_n, sto_e, sto_r, zf_r, Int.toNat_natCast, true_or, or_true, eq_self, Bz_t, Bz_f]) <;> (first | omega | decide)))) | (with_reducible refine e_cf ?_ ?_; · (first | omega | ((try simp (disch := omega) only [w32_eq, w64_eq, ix_n, ix_e, sto_n, sto_e, sto_r, zf_r, Int.toNat_natCast, true_or, or_true, eq_self, Bz_t, Bz_f]) <;> (first | omega | decide)))) | with_reducible refine e_call (r_isIf h) ?_ | with_reducible refine e_call (r_isThen h) ?_ | with_reducible refine e_call (r_isElse h) ?_ | with_reducible refine e_call (r_isAnd h) ?_ | with_reducible refine e_call (r_isOr h) ?_ | with_reducible refine e_call (r_isNot h) ?_ | with_reducible refine e_call (r_isLeast h) ?_ | with_reducible refine e_call (r_isMost h) ?_)
    rw [Bz_t (by omega)]
  by_cases c7 : t = 11
  · repeat (first | with_reducible refine e_let ?_ | with_reducible refine e_cs ?_ | with_reducible refine e_clet ?_ | with_reducible refine e_cc ?_ | (with_reducible refine e_chk ?_ ?_; · (first | omega | ((try simp (disch := omega) only [w32_eq, w64_eq, ix_n, ix_e, sto_n, sto_e, sto_r, zf_r, Int.toNat_natCast, true_or, or_true, eq_self, Bz_t, Bz_f]) <;> (first | omega | decide)))) | (with_reducible refine e_cchk ?_ ?_; · (first | omega | ((try simp (disch := omega) only [w32_eq, w64_eq, ix_n, ix_e, sto_n, sto_e, sto_r, zf_r, Int.toNat_natCast, true_or, or_true, eq_self, Bz_t, Bz_f]) <;> (first | omega | decide)))) | (with_reducible refine e_t ?_ ?_; · (first | omega | ((try simp (disch := omega) only [w32_eq, w64_eq, ix_n, ix_e, sto_n, sto_e, sto_r, zf_r, Int.toNat_natCast, true_or, or_true, eq_self, Bz_t, Bz_f]) <;> (first | omega | decide)))) | (with_reducible refine e_f ?_ ?_; · (first | omega | ((try simp (disch := omega) only [w32_eq, w64_eq, ix_n, ix_e, sto_n, sto_e, sto_r, zf_r, Int.toNat_natCast, true_or, or_true, eq_self, Bz_t, Bz_f]) <;> (first | omega | decide)))) | (with_reducible refine e_ct ?_ ?_; · (first | omega | ((try simp (disch := omega) only [w32_eq, w64_eq, ix_n, ix_e, sto_n, sto_e, sto_r, zf_r, Int.toNat_natCast, true_or, or_true, eq_self, Bz_t, Bz_f]) <;> (first | omega | decide)))) | (with_reducible refine e_cf ?_ ?_; · (first | omega | ((try simp (disch := omega) only [w32_eq, w64_eq, ix_n, ix_e, sto_n, sto_e, sto_r, zf_r, Int.toNat_natCast, true_or, or_true, eq_self, Bz_t, Bz_f]) <;> (first | omega | decide)))) | with_reducible refine e_call (r_isIf h) ?_ | with_reducible refine e_call (r_isThen h) ?_ | with_reducible refine e_call (r_isElse h) ?_ | with_reducible refine e_call (r_isAnd h) ?_ | with_reducible refine e_call (r_isOr h) ?_ | with_reducible refine e_call (r_isNot h) ?_ | with_reducible refine e_call (r_isLeast h) ?_ | with_reducible refine e_call (r_isMost h) ?_)
    rw [Bz_t (by omega)]
  repeat (first | with_reducible refine e_let ?_ | with_reducible refine e_cs ?_ | with_reducible refine e_clet ?_ | with_reducible refine e_cc ?_ | (with_reducible refine e_chk ?_ ?_; · (first | omega | ((try simp (disch := omega) only [w32_eq, w64_eq, ix_n, ix_e, sto_n, sto_e, sto_r, zf_r, Int.toNat_natCast, true_or, or_true, eq_self, Bz_t, Bz_f]) <;> (first | omega | decide)))) | (with_reducible refine e_cchk ?_ ?_; · (first | omega | ((try simp (disch := omega) only [w32_eq, w64_eq, ix_n, ix_e, sto_n, sto_e, sto_r, zf_r, Int.toNat_natCast, true_or, or_true, eq_self, Bz_t, Bz_f]) <;> (first | omega | decide)))) | (with_reducible refine e_t ?_ ?_; · (first | omega | ((try simp (disch := omega) only [w32_eq, w64_eq, ix_n, ix_e, sto_n, sto_e, sto_r, zf_r, Int.toNat_natCast, true_or, or_true, eq_self, Bz_t, Bz_f]) <;> (first | omega | decide)))) | (with_reducible refine e_f ?_ ?_; · (first | omega | ((try simp (disch := omega) only [w32_eq, w64_eq, ix_n, ix_e, sto_n, sto_e, sto_r, zf_r, Int.toNat_natCast, true_or, or_true, eq_self, Bz_t, Bz_f]) <;> (first | omega | decide)))) | (with_reducible refine e_ct ?_ ?_; · (first | omega | ((try simp (disch := omega) only [w32_eq, w64_eq, ix_n, ix_e, sto_n, sto_e, sto_r, zf_r, Int.toNat_natCast, true_or, or_true, eq_self, Bz_t, Bz_f]) <;> (first | omega | decide)))) | (with_reducible refine e_cf ?_ ?_; · (first | omega | ((try simp (disch := omega) only [w32_eq, w64_eq, ix_n, ix_e, sto_n, sto_e, sto_r, zf_r, Int.toNat_natCast, true_or, or_true, eq_self, Bz_t, Bz_f]) <;> (first | omega | decide)))) | with_reducible refine e_call (r_isIf h) ?_ | with_reducible refine e_call (r_isThen h) ?_ | with_reducible refine e_call (r_isElse h) ?_ | with_reducible refine e_call (r_isAnd h) ?_ | with_reducible refine e_call (r_isOr h) ?_ | with_reducible refine e_call (r_isNot h) ?_ | with_reducible refine e_call (r_isLeast h) ?_ | with_reducible refine e_call (r_isMost h) ?_)
  rw [Bz_f (by omega)]
theorem TR.w {t x u : Int} {M : Mem} (h : TR t x u M) : (M 111 50 = 1 ↔ 3 ≤ t ∧ t ≤ 11) ∧ (M 111 50 = 2 ↔ t = 2) ∧ (M 111 50 = 0 ↔ t = 0) ∧ (M 111 50 = 4 ↔ t = 1) ∧ (M 111 50 = 1 → WR x M ∧ t = kd x) ∧ (0 ≤ M 111 50 ∧ M 111 50 ≤ 4) ∧ 0 ≤ t ∧ t ≤ 62 := by
  have kb := kd_b x
  unfold TR at h
  refine ⟨?_, ?_, ?_, ?_, ?_, ?_, ?_, ?_⟩
  all_goals (rcases h with h | h | h | h | h)
  all_goals first | (unfold isS at h; omega) | (intro _; exact ⟨h.2.2, h.1⟩) | omega
theorem r_canS {t x u : Int} {M : Mem} (h : TR t x u M) : d_Mo_canBeginSum M = some (Bz (t = 2 ∨ t = 3 ∨ t = 40 ∨ t = 10 ∨ t = 11), M) := by
  obtain ⟨w1, w2, w3, w4, w5, w6, w7⟩ := h.w
  unfold d_Mo_canBeginSum k_Mo_canBeginSum_46
  by_cases c1 : t = 2
  · repeat (first | with_reducible refine e_let ?_ | with_reducible refine e_cs ?_ | with_reducible refine e_clet ?_ | with_reducible refine e_cc ?_ | (with_reducible refine e_chk ?_ ?_; · (first | omega | ((try simp (disch := omega) only [w32_eq, w64_eq, ix_n, ix_e, sto_n, sto_e, sto_r, zf_r, Int.toNat_natCast, true_or, or_true, eq_self, Bz_t, Bz_f]) <;> (first | omega | decide)))) | (with_reducible refine e_cchk ?_ ?_; · (first | omega | ((try simp (disch := omega) only [w32_eq, w64_eq, ix_n, ix_e, sto_n, sto_e, sto_r, zf_r, Int.toNat_natCast, true_or, or_true, eq_self, Bz_t, Bz_f]) <;> (first | omega | decide)))) | (with_reducible refine e_t ?_ ?_; · (first | omega | ((try simp (disch := omega) only [w32_eq, w64_eq, ix_n, ix_e, sto_n, sto_e, sto_r, zf_r, Int.toNat_natCast, true_or, or_true, eq_self, Bz_t, Bz_f]) <;> (first | omega | decide)))) | (with_reducible refine e_f ?_ ?_; · (first | omega | ((try simp (disch := omega) only [w32_eq, w64_eq, ix_n, ix_e, sto_n, sto_e, sto_r, zf_r, Int.toNat_natCast, true_or, or_true, eq_self, Bz_t, Bz_f]) <;> (first | omega | decide)))) | (with_reducible refine e_ct ?_ ?_; · (first | omega | ((try simp (disch := omega) only [w32_eq, w64_eq, ix_n, ix_e, sto_n, sto_e, sto_r, zf_r, Int.toNat_natCast, true_or, or_true, eq_self, Bz_t, Bz_f]) <;> (first | omega | decide)))) | (with_reducible refine e_cf ?_ ?_; · (first | omega | ((try simp (disch := omega) only [w32_eq, w64_eq, ix_n, ix_e, sto_n, sto_e, sto_r, zf_r, Int.toNat_natCast, true_or, or_true, eq_self, Bz_t, Bz_f]) <;> (first | omega | decide)))) | with_reducible refine e_call (r_isLeast h) ?_ | with_reducible refine e_call (r_isMost h) ?_ | with_reducible refine e_call (r_isKept h) ?_ | with_reducible refine e_call (r_isS h (by decide)) ?_)
    rw [Bz_t (by omega)]
  by_cases c2 : t = 40
  · repeat (first | with_reducible refine e_let ?_ | with_reducible refine e_cs ?_ | with_reducible refine e_clet ?_ | with_reducible refine e_cc ?_ | (with_reducible refine e_chk ?_ ?_; · (first | omega | ((try simp (disch := omega) only [w32_eq, w64_eq, ix_n, ix_e, sto_n, sto_e, sto_r, zf_r, Int.toNat_natCast, true_or, or_true, eq_self, Bz_t, Bz_f]) <;> (first | omega | decide)))) | (with_reducible refine e_cchk ?_ ?_; · (first | omega | ((try simp (disch := omega) only [w32_eq, w64_eq, ix_n, ix_e, sto_n, sto_e, sto_r, zf_r, Int.toNat_natCast, true_or, or_true, eq_self, Bz_t, Bz_f]) <;> (first | omega | decide)))) | (with_reducible refine e_t ?_ ?_; · (first | omega | ((try simp (disch := omega) only [w32_eq, w64_eq, ix_n, ix_e, sto_n, sto_e, sto_r, zf_r, Int.toNat_natCast, true_or, or_true, eq_self, Bz_t, Bz_f]) <;> (first | omega | decide)))) | (with_reducible refine e_f ?_ ?_; · (first | omega | ((try simp (disch := omega) only [w32_eq, w64_eq, ix_n, ix_e, sto_n, sto_e, sto_r, zf_r, Int.toNat_natCast, true_or, or_true, eq_self, Bz_t, Bz_f]) <;> (first | omega | decide)))) | (with_reducible refine e_ct ?_ ?_; · (first | omega | ((try simp (disch := omega) only [w32_eq, w64_eq, ix_n, ix_e, sto_n, sto_e, sto_r, zf_r, Int.toNat_natCast, true_or, or_true, eq_self, Bz_t, Bz_f]) <;> (first | omega | decide)))) | (with_reducible refine e_cf ?_ ?_; · (first | omega | ((try simp (disch := omega) only [w32_eq, w64_eq, ix_n, ix_e, sto_n, sto_e, sto_r, zf_r, Int.toNat_natCast, true_or, or_true, eq_self, Bz_t, Bz_f]) <;> (first | omega | decide)))) | with_reducible refine e_call (r_isLeast h) ?_ | with_reducible refine e_call (r_isMost h) ?_ | with_reducible refine e_call (r_isKept h) ?_ | with_reducible refine e_call (r_isS h (by decide)) ?_)
    rw [Bz_t (by omega)]
  by_cases c3 : t = 10
  · repeat (first | with_reducible refine e_let ?_ | with_reducible refine e_cs ?_ | with_reducible refine e_clet ?_ | with_reducible refine e_cc ?_ | (with_reducible refine e_chk ?_ ?_; · (first | omega | ((try simp (disch := omega) only [w32_eq, w64_eq, ix_n, ix_e, sto_n, sto_e, sto_r, zf_r, Int.toNat_natCast, true_or, or_true, eq_self, Bz_t, Bz_f]) <;> (first | omega | decide)))) | (with_reducible refine e_cchk ?_ ?_; · (first | omega | ((try simp (disch := omega) only [w32_eq, w64_eq, ix_n, ix_e, sto_n, sto_e, sto_r, zf_r, Int.toNat_natCast, true_or, or_true, eq_self, Bz_t, Bz_f]) <;> (first | omega | decide)))) | (with_reducible refine e_t ?_ ?_; · (first | omega | ((try simp (disch := omega) only [w32_eq, w64_eq, ix_n, ix_e, sto_n, sto_e, sto_r, zf_r, Int.toNat_natCast, true_or, or_true, eq_self, Bz_t, Bz_f]) <;> (first | omega | decide)))) | (with_reducible refine e_f ?_ ?_; · (first | omega | ((try simp (disch := omega) only [w32_eq, w64_eq, ix_n, ix_e, sto_n, sto_e, sto_r, zf_r, Int.toNat_natCast, true_or, or_true, eq_self, Bz_t, Bz_f]) <;> (first | omega | decide)))) | (with_reducible refine e_ct ?_ ?_; · (first | omega | ((try simp (disch := omega) only [w32_eq, w64_eq, ix_n, ix_e, sto_n, sto_e, sto_r, zf_r, Int.toNat_natCast, true_or, or_true, eq_self, Bz_t, Bz_f]) <;> (first | omega | decide)))) | (with_reducible refine e_cf ?_ ?_; · (first | omega | ((try simp (disch := omega) only [w32_eq, w64_eq, ix_n, ix_e, sto_n, sto_e, sto_r, zf_r, Int.toNat_natCast, true_or, or_true, eq_self, Bz_t, Bz_f]) <;> (first | omega | decide)))) | with_reducible refine e_call (r_isLeast h) ?_ | with_reducible refine e_call (r_isMost h) ?_ | with_reducible refine e_call (r_isKept h) ?_ | with_reducible refine e_call (r_isS h (by decide)) ?_)
    rw [Bz_t (by omega)]
  by_cases c4 : t = 11
  · repeat (first | with_reducible refine e_let ?_ | with_reducible refine e_cs ?_ | with_reducible refine e_clet ?_ | with_reducible refine e_cc ?_ | (with_reducible refine e_chk ?_ ?_; · (first | omega | ((try simp (disch := omega) only [w32_eq, w64_eq, ix_n, ix_e, sto_n, sto_e, sto_r, zf_r, Int.toNat_natCast, true_or, or_true, eq_self, Bz_t, Bz_f]) <;> (first | omega | decide)))) | (with_reducible refine e_cchk ?_ ?_; · (first | omega | ((try simp (disch := omega) only [w32_eq, w64_eq, ix_n, ix_e, sto_n, sto_e, sto_r, zf_r, Int.toNat_natCast, true_or, or_true, eq_self, Bz_t, Bz_f]) <;> (first | omega | decide)))) | (with_reducible refine e_t ?_ ?_; · (first | omega | ((try simp (disch := omega) only [w32_eq, w64_eq, ix_n, ix_e, sto_n, sto_e, sto_r, zf_r, Int.toNat_natCast, true_or, or_true, eq_self, Bz_t, Bz_f]) <;> (first | omega | decide)))) | (with_reducible refine e_f ?_ ?_; · (first | omega | ((try simp (disch := omega) only [w32_eq, w64_eq, ix_n, ix_e, sto_n, sto_e, sto_r, zf_r, Int.toNat_natCast, true_or, or_true, eq_self, Bz_t, Bz_f]) <;> (first | omega | decide)))) | (with_reducible refine e_ct ?_ ?_; · (first | omega | ((try simp (disch := omega) only [w32_eq, w64_eq, ix_n, ix_e, sto_n, sto_e, sto_r, zf_r, Int.toNat_natCast, true_or, or_true, eq_self, Bz_t, Bz_f]) <;> (first | omega | decide)))) | (with_reducible refine e_cf ?_ ?_; · (first | omega | ((try simp (disch := omega) only [w32_eq, w64_eq, ix_n, ix_e, sto_n, sto_e, sto_r, zf_r, Int.toNat_natCast, true_or, or_true, eq_self, Bz_t, Bz_f]) <;> (first | omega | decide)))) | with_reducible refine e_call (r_isLeast h) ?_ | with_reducible refine e_call (r_isMost h) ?_ | with_reducible refine e_call (r_isKept h) ?_ | with_reducible refine e_call (r_isS h (by decide)) ?_)
    rw [Bz_t (by omega)]
  by_cases c5 : t = 3
  · repeat (first | with_reducible refine e_let ?_ | with_reducible refine e_cs ?_ | with_reducible refine e_clet ?_ | with_reducible refine e_cc ?_ | (with_reducible refine e_chk ?_ ?_; · (first | omega | ((try simp (disch := omega) only [w32_eq, w64_eq, ix_n, ix_e, sto_n, sto_e, sto_r, zf_r, Int.toNat_natCast, true_or, or_true, eq_self, Bz_t, Bz_f]) <;> (first | omega | decide)))) | (with_reducible refine e_cchk ?_ ?_; · (first | omega | ((try simp (disch := omega) only [w32_eq, w64_eq, ix_n, ix_e, sto_n, sto_e, sto_r, zf_r, Int.toNat_natCast, true_or, or_true, eq_self, Bz_t, Bz_f]) <;> (first | omega | decide)))) | (with_reducible refine e_t ?_ ?_; · (first | omega | ((try simp (disch := omega) only [w32_eq, w64_eq, ix_n, ix_e, sto_n, sto_e, sto_r, zf_r, Int.toNat_natCast, true_or, or_true, eq_self, Bz_t, Bz_f]) <;> (first | omega | decide)))) | (with_reducible refine e_f ?_ ?_; · (first | omega | ((try simp (disch := omega) only [w32_eq, w64_eq, ix_n, ix_e, sto_n, sto_e, sto_r, zf_r, Int.toNat_natCast, true_or, or_true, eq_self, Bz_t, Bz_f]) <;> (first | omega | decide)))) | (with_reducible refine e_ct ?_ ?_; · (first | omega | ((try simp (disch := omega) only [w32_eq, w64_eq, ix_n, ix_e, sto_n, sto_e, sto_r, zf_r, Int.toNat_natCast, true_or, or_true, eq_self, Bz_t, Bz_f]) <;> (first | omega | decide)))) | (with_reducible refine e_cf ?_ ?_; · (first | omega | ((try simp (disch := omega) only [w32_eq, w64_eq, ix_n, ix_e, sto_n, sto_e, sto_r, zf_r, Int.toNat_natCast, true_or, or_true, eq_self, Bz_t, Bz_f]) <;> (first | omega | decide)))) | with_reducible refine e_call (r_isLeast h) ?_ | with_reducible refine e_call (r_isMost h) ?_ | with_reducible refine e_call (r_isKept h) ?_ | with_reducible refine e_call (r_isS h (by decide)) ?_)
    rw [Bz_t (by omega)]
  by_cases c6 : M 111 50 = 1
  · repeat (first | with_reducible refine e_let ?_ | with_reducible refine e_cs ?_ | with_reducible refine e_clet ?_ | with_reducible refine e_cc ?_ | (with_reducible refine e_chk ?_ ?_; · (first | omega | ((try simp (disch := omega) only [w32_eq, w64_eq, ix_n, ix_e, sto_n, sto_e, sto_r, zf_r, Int.toNat_natCast, true_or, or_true, eq_self, Bz_t, Bz_f]) <;> (first | omega | decide)))) | (with_reducible refine e_cchk ?_ ?_; · (first | omega | ((try simp (disch := omega) only [w32_eq, w64_eq, ix_n, ix_e, sto_n, sto_e, sto_r, zf_r, Int.toNat_natCast, true_or, or_true, eq_self, Bz_t, Bz_f]) <;> (first | omega | decide)))) | (with_reducible refine e_t ?_ ?_; · (first | omega | ((try simp (disch := omega) only [w32_eq, w64_eq, ix_n, ix_e, sto_n, sto_e, sto_r, zf_r, Int.toNat_natCast, true_or, or_true, eq_self, Bz_t, Bz_f]) <;> (first | omega | decide)))) | (with_reducible refine e_f ?_ ?_; · (first | omega | ((try simp (disch := omega) only [w32_eq, w64_eq, ix_n, ix_e, sto_n, sto_e, sto_r, zf_r, Int.toNat_natCast, true_or, or_true, eq_self, Bz_t, Bz_f]) <;> (first | omega | decide)))) | (with_reducible refine e_ct ?_ ?_; · (first | omega | ((try simp (disch := omega) only [w32_eq, w64_eq, ix_n, ix_e, sto_n, sto_e, sto_r, zf_r, Int.toNat_natCast, true_or, or_true, eq_self, Bz_t, Bz_f]) <;> (first | omega | decide)))) | (with_reducible refine e_cf ?_ ?_; · (first | omega | ((try simp (disch := omega) only [w32_eq, w64_eq, ix_n, ix_e, sto_n, sto_e, sto_r, zf_r, Int.toNat_natCast, true_or, or_true, eq_self, Bz_t, Bz_f]) <;> (first | omega | decide)))) | with_reducible refine e_call (r_isLeast h) ?_ | with_reducible refine e_call (r_isMost h) ?_ | with_reducible refine e_call (r_isKept h) ?_ | with_reducible refine e_call (r_isS h (by decide)) ?_)
    rw [Bz_f (by omega)]
  repeat (first | with_reducible refine e_let ?_ | with_reducible refine e_cs ?_ | with_reducible refine e_clet ?_ | with_reducible refine e_cc ?_ | (with_reducible refine e_chk ?_ ?_; · (first | omega | ((try simp (disch := omega) only [w32_eq, w64_eq, ix_n, ix_e, sto_n, sto_e, sto_r, zf_r, Int.toNat_natCast, true_or, or_true, eq_self, Bz_t, Bz_f]) <;> (first | omega | decide)))) | (with_reducible refine e_cchk ?_ ?_; · (first | omega | ((try simp (disch := omega) only [w32_eq, w64_eq, ix_n, ix_e, sto_n, sto_e, sto_r, zf_r, Int.toNat_natCast, true_or, or_true, eq_self, Bz_t, Bz_f]) <;> (first | omega | decide)))) | (with_reducible refine e_t ?_ ?_; · (first | omega | ((try simp (disch := omega) only [w32_eq, w64_eq, ix_n, ix_e, sto_n, sto_e, sto_r, zf_r, Int.toNat_natCast, true_or, or_true, eq_self, Bz_t, Bz_f]) <;> (first | omega | decide)))) | (with_reducible refine e_f ?_ ?_; · (first | omega | ((try simp (disch := omega) only [w32_eq, w64_eq, ix_n, ix_e, sto_n, sto_e, sto_r, zf_r, Int.toNat_natCast, true_or, or_true, eq_self, Bz_t, Bz_f]) <;> (first | omega | decide)))) | (with_reducible refine e_ct ?_ ?_; · (first | omega | ((try simp (disch := omega) only [w32_eq, w64_eq, ix_n, ix_e, sto_n, sto_e, sto_r, zf_r, Int.toNat_natCast, true_or, or_true, eq_self, Bz_t, Bz_f]) <;> (first | omega | decide)))) | (with_reducible refine e_cf ?_ ?_; · (first | omega | ((try simp (disch := omega) only [w32_eq, w64_eq, ix_n, ix_e, sto_n, sto_e, sto_r, zf_r, Int.toNat_natCast, true_or, or_true, eq_self, Bz_t, Bz_f]) <;> (first | omega | decide)))) | with_reducible refine e_call (r_isLeast h) ?_ | with_reducible refine e_call (r_isMost h) ?_ | with_reducible refine e_call (r_isKept h) ?_ | with_reducible refine e_call (r_isS h (by decide)) ?_)
  rw [Bz_f (by omega)]
theorem r_can {t x u : Int} {M : Mem} (h : TR t x u M) : d_Mo_canBegin M = some (Bz (t = 4 ∨ t = 2 ∨ t = 3 ∨ t = 40 ∨ t = 10 ∨ t = 11), M) := by
  unfold d_Mo_canBegin k_Mo_canBegin_14
  by_cases c1 : t = 4
  · repeat (first | with_reducible refine e_let ?_ | with_reducible refine e_cs ?_ | with_reducible refine e_clet ?_ | with_reducible refine e_cc ?_ | (with_reducible refine e_chk ?_ ?_; · (first | omega | ((try simp (disch := omega) only [w32_eq, w64_eq, ix_n, ix_e, sto_n, sto_e, sto_r, zf_r, Int.toNat_natCast, true_or, or_true, eq_self, Bz_t, Bz_f]) <;> (first | omega | decide)))) | (with_reducible refine e_cchk ?_ ?_; · (first | omega | ((try simp (disch := omega) only [w32_eq, w64_eq, ix_n, ix_e, sto_n, sto_e, sto_r, zf_r, Int.toNat_natCast, true_or, or_true, eq_self, Bz_t, Bz_f]) <;> (first | omega | decide)))) | (with_reducible refine e_t ?_ ?_; · (first | omega | ((try simp (disch := omega) only [w32_eq, w64_eq, ix_n, ix_e, sto_n, sto_e, sto_r, zf_r, Int.toNat_natCast, true_or, or_true, eq_self, Bz_t, Bz_f]) <;> (first | omega | decide)))) | (with_reducible refine e_f ?_ ?_; · (first | omega | ((try simp (disch := omega) only [w32_eq, w64_eq, ix_n, ix_e, sto_n, sto_e, sto_r, zf_r, Int.toNat_natCast, true_or, or_true, eq_self, Bz_t, Bz_f]) <;> (first | omega | decide)))) | (with_reducible refine e_ct ?_ ?_; · (first | omega | ((try simp (disch := omega) only [w32_eq, w64_eq, ix_n, ix_e, sto_n, sto_e, sto_r, zf_r, Int.toNat_natCast, true_or, or_true, eq_self, Bz_t, Bz_f]) <;> (first | omega | decide)))) | (with_reducible refine e_cf ?_ ?_; · (first | omega | ((try simp (disch := omega) only [w32_eq, w64_eq, ix_n, ix_e, sto_n, sto_e, sto_r, zf_r, Int.toNat_natCast, true_or, or_true, eq_self, Bz_t, Bz_f]) <;> (first | omega | decide)))) | with_reducible refine e_call (r_isIf h) ?_ | with_reducible refine e_call (r_canS h) ?_)
    rw [Bz_t (by omega)]
  by_cases c2 : t = 2 ∨ t = 3 ∨ t = 40 ∨ t = 10 ∨ t = 11
  · repeat (first | with_reducible refine e_let ?_ | with_reducible refine e_cs ?_ | with_reducible refine e_clet ?_ | with_reducible refine e_cc ?_ | (with_reducible refine e_chk ?_ ?_; · (first | omega | ((try simp (disch := omega) only [w32_eq, w64_eq, ix_n, ix_e, sto_n, sto_e, sto_r, zf_r, Int.toNat_natCast, true_or, or_true, eq_self, Bz_t, Bz_f]) <;> (first | omega | decide)))) | (with_reducible refine e_cchk ?_ ?_; · (first | omega | ((try simp (disch := omega) only [w32_eq, w64_eq, ix_n, ix_e, sto_n, sto_e, sto_r, zf_r, Int.toNat_natCast, true_or, or_true, eq_self, Bz_t, Bz_f]) <;> (first | omega | decide)))) | (with_reducible refine e_t ?_ ?_; · (first | omega | ((try simp (disch := omega) only [w32_eq, w64_eq, ix_n, ix_e, sto_n, sto_e, sto_r, zf_r, Int.toNat_natCast, true_or, or_true, eq_self, Bz_t, Bz_f]) <;> (first | omega | decide)))) | (with_reducible refine e_f ?_ ?_; · (first | omega | ((try simp (disch := omega) only [w32_eq, w64_eq, ix_n, ix_e, sto_n, sto_e, sto_r, zf_r, Int.toNat_natCast, true_or, or_true, eq_self, Bz_t, Bz_f]) <;> (first | omega | decide)))) | (with_reducible refine e_ct ?_ ?_; · (first | omega | ((try simp (disch := omega) only [w32_eq, w64_eq, ix_n, ix_e, sto_n, sto_e, sto_r, zf_r, Int.toNat_natCast, true_or, or_true, eq_self, Bz_t, Bz_f]) <;> (first | omega | decide)))) | (with_reducible refine e_cf ?_ ?_; · (first | omega | ((try simp (disch := omega) only [w32_eq, w64_eq, ix_n, ix_e, sto_n, sto_e, sto_r, zf_r, Int.toNat_natCast, true_or, or_true, eq_self, Bz_t, Bz_f]) <;> (first | omega | decide)))) | with_reducible refine e_call (r_isIf h) ?_ | with_reducible refine e_call (r_canS h) ?_)
    rw [Bz_t (by omega)]
  repeat (first | with_reducible refine e_let ?_ | with_reducible refine e_cs ?_ | with_reducible refine e_clet ?_ | with_reducible refine e_cc ?_ | (with_reducible refine e_chk ?_ ?_; · (first | omega | ((try simp (disch := omega) only [w32_eq, w64_eq, ix_n, ix_e, sto_n, sto_e, sto_r, zf_r, Int.toNat_natCast, true_or, or_true, eq_self, Bz_t, Bz_f]) <;> (first | omega | decide)))) | (with_reducible refine e_cchk ?_ ?_; · (first | omega | ((try simp (disch := omega) only [w32_eq, w64_eq, ix_n, ix_e, sto_n, sto_e, sto_r, zf_r, Int.toNat_natCast, true_or, or_true, eq_self, Bz_t, Bz_f]) <;> (first | omega | decide)))) | (with_reducible refine e_t ?_ ?_; · (first | omega | ((try simp (disch := omega) only [w32_eq, w64_eq, ix_n, ix_e, sto_n, sto_e, sto_r, zf_r, Int.toNat_natCast, true_or, or_true, eq_self, Bz_t, Bz_f]) <;> (first | omega | decide)))) | (with_reducible refine e_f ?_ ?_; · (first | omega | ((try simp (disch := omega) only [w32_eq, w64_eq, ix_n, ix_e, sto_n, sto_e, sto_r, zf_r, Int.toNat_natCast, true_or, or_true, eq_self, Bz_t, Bz_f]) <;> (first | omega | decide)))) | (with_reducible refine e_ct ?_ ?_; · (first | omega | ((try simp (disch := omega) only [w32_eq, w64_eq, ix_n, ix_e, sto_n, sto_e, sto_r, zf_r, Int.toNat_natCast, true_or, or_true, eq_self, Bz_t, Bz_f]) <;> (first | omega | decide)))) | (with_reducible refine e_cf ?_ ?_; · (first | omega | ((try simp (disch := omega) only [w32_eq, w64_eq, ix_n, ix_e, sto_n, sto_e, sto_r, zf_r, Int.toNat_natCast, true_or, or_true, eq_self, Bz_t, Bz_f]) <;> (first | omega | decide)))) | with_reducible refine e_call (r_isIf h) ?_ | with_reducible refine e_call (r_canS h) ?_)
  rw [Bz_f (by omega)]
theorem sp_v0 {M : Mem} : d_Mo_spelled 103 114 97 100 101 0 M = some (7931013, M) := rfl
theorem r_v0 {t x u : Int} {M : Mem} (h : TR t x u M) : d_Mo_isWord 7931013 M = some (Bz (M 111 50 = 1 ∧ x = 4075223), M) := r_isW h (by decide) (by decide +kernel)
theorem r_v1 {t x u : Int} {M : Mem} (h : TR t x u M) : d_Mo_isWord 253792434 M = some (Bz (M 111 50 = 1 ∧ x = 110031039), M) := r_isW h (by decide) (by decide +kernel)
theorem sp_v2 {M : Mem} : d_Mo_spelled 119 101 101 107 0 0 M = some (758955, M) := rfl
theorem r_v2 {t x u : Int} {M : Mem} (h : TR t x u M) : d_Mo_isWord 758955 M = some (Bz (M 111 50 = 1 ∧ x = 456500), M) := r_isW h (by decide) (by decide +kernel)
theorem sp_v3 {M : Mem} : d_Mo_spelled 121 101 97 114 0 0 M = some (824370, M) := rfl
theorem r_v3 {t x u : Int} {M : Mem} (h : TR t x u M) : d_Mo_isWord 824370 M = some (Bz (M 111 50 = 1 ∧ x = 495765), M) := r_isW h (by decide) (by decide +kernel)
theorem r_v4 {t x u : Int} {M : Mem} (h : TR t x u M) : d_Mo_isWord 2872317331 M = some (Bz (M 111 50 = 1 ∧ x = 1086426856), M) := r_isW h (by decide) (by decide +kernel)
theorem sp_v5 {M : Mem} : d_Mo_spelled 97 99 114 101 115 0 M = some (1165491, M) := rfl
theorem r_v5 {t x u : Int} {M : Mem} (h : TR t x u M) : d_Mo_isWord 1165491 M = some (Bz (M 111 50 = 1 ∧ x = 603766), M) := r_isW h (by decide) (by decide +kernel)
theorem sp_v6 {M : Mem} : d_Mo_spelled 100 101 98 116 0 0 M = some (136276, M) := rfl
theorem r_v6 {t x u : Int} {M : Mem} (h : TR t x u M) : d_Mo_isWord 136276 M = some (Bz (M 111 50 = 1 ∧ x = 82451), M) := r_isW h (by decide) (by decide +kernel)
theorem r_v7 {t x u : Int} {M : Mem} (h : TR t x u M) : d_Mo_isWord 147761734772 M = some (Bz (M 111 50 = 1 ∧ x = 45611816222), M) := r_isW h (by decide) (by decide +kernel)
theorem sp_v8 {M : Mem} : d_Mo_spelled 99 97 114 115 0 0 M = some (99923, M) := rfl
theorem r_v8 {t x u : Int} {M : Mem} (h : TR t x u M) : d_Mo_isWord 99923 M = some (Bz (M 111 50 = 1 ∧ x = 60283), M) := r_isW h (by decide) (by decide +kernel)
theorem sp_v9 {M : Mem} : d_Mo_spelled 119 97 105 116 115 0 M = some (24159891, M) := rfl
theorem r_v9 {t x u : Int} {M : Mem} (h : TR t x u M) : d_Mo_isWord 24159891 M = some (Bz (M 111 50 = 1 ∧ x = 12249946), M) := r_isW h (by decide) (by decide +kernel)
theorem sp_v10 {M : Mem} : d_Mo_spelled 112 114 105 99 101 0 M = some (17376357, M) := rfl
theorem r_v10 {t x u : Int} {M : Mem} (h : TR t x u M) : d_Mo_isWord 17376357 M = some (Bz (M 111 50 = 1 ∧ x = 8863997), M) := r_isW h (by decide) (by decide +kernel)
theorem r_var {t x u : Int} {M : Mem} (h : TR t x u M) : d_Mo_variable M = some (if M 111 50 = 1 then fndL VRs x 0 else -1, M) := by
  by_cases s : M 111 50 = 1
  · have hw := (h.w.2.2.2.2.1 s).1.x
    have f := fndV hw
    rw [if_pos s]
    unfold d_Mo_variable
    rcases f with ⟨f1, f2⟩ | ⟨f1, f2⟩ | ⟨f1, f2⟩ | ⟨f1, f2⟩ | ⟨f1, f2⟩ | ⟨f1, f2⟩ | ⟨f1, f2⟩ | ⟨f1, f2⟩ | ⟨f1, f2⟩ | ⟨f1, f2⟩ | ⟨f1, f2⟩ | ⟨f1, f2⟩
    · rw [f1]
      repeat (first | with_reducible refine e_let ?_ | with_reducible refine e_cs ?_ | with_reducible refine e_clet ?_ | with_reducible refine e_cc ?_ | (with_reducible refine e_chk ?_ ?_; · (first | omega | ((try simp (disch := omega) only [w32_eq, w64_eq, ix_n, ix_e, sto_n, sto_e, sto_r, zf_r, Int.toNat_natCast, true_or, or_true, eq_self, Bz_t, Bz_f]) <;> (first | omega | decide)))) | (with_reducible refine e_cchk ?_ ?_; · (first | omega | ((try simp (disch := omega) only [w32_eq, w64_eq, ix_n, ix_e, sto_n, sto_e, sto_r, zf_r, Int.toNat_natCast, true_or, or_true, eq_self, Bz_t, Bz_f]) <;> (first | omega | decide)))) | (with_reducible refine e_t ?_ ?_; · (first | omega | ((try simp (disch := omega) only [w32_eq, w64_eq, ix_n, ix_e, sto_n, sto_e, sto_r, zf_r, Int.toNat_natCast, true_or, or_true, eq_self, Bz_t, Bz_f]) <;> (first | omega | decide)))) | (with_reducible refine e_f ?_ ?_; · (first | omega | ((try simp (disch := omega) only [w32_eq, w64_eq, ix_n, ix_e, sto_n, sto_e, sto_r, zf_r, Int.toNat_natCast, true_or, or_true, eq_self, Bz_t, Bz_f]) <;> (first | omega | decide)))) | (with_reducible refine e_ct ?_ ?_; · (first | omega | ((try simp (disch := omega) only [w32_eq, w64_eq, ix_n, ix_e, sto_n, sto_e, sto_r, zf_r, Int.toNat_natCast, true_or, or_true, eq_self, Bz_t, Bz_f]) <;> (first | omega | decide)))) | (with_reducible refine e_cf ?_ ?_; · (first | omega | ((try simp (disch := omega) only [w32_eq, w64_eq, ix_n, ix_e, sto_n, sto_e, sto_r, zf_r, Int.toNat_natCast, true_or, or_true, eq_self, Bz_t, Bz_f]) <;> (first | omega | decide)))) | with_reducible refine e_call sp_v0 ?_ | with_reducible refine e_call sp_v2 ?_ | with_reducible refine e_call sp_v3 ?_ | with_reducible refine e_call sp_v5 ?_ | with_reducible refine e_call sp_v6 ?_ | with_reducible refine e_call sp_v8 ?_ | with_reducible refine e_call sp_v9 ?_ | with_reducible refine e_call sp_v10 ?_ | with_reducible refine e_call (r_v0 h) ?_ | with_reducible refine e_call (r_v1 h) ?_ | with_reducible refine e_call (r_v2 h) ?_ | with_reducible refine e_call (r_v3 h) ?_ | with_reducible refine e_call (r_v4 h) ?_ | with_reducible refine e_call (r_v5 h) ?_ | with_reducible refine e_call (r_v6 h) ?_ | with_reducible refine e_call (r_v7 h) ?_ | with_reducible refine e_call (r_v8 h) ?_ | with_reducible refine e_call (r_v9 h) ?_ | with_reducible refine e_call (r_v10 h) ?_); try with_reducible rfl
    · rw [f1]
      repeat (first | with_reducible refine e_let ?_ | with_reducible refine e_cs ?_ | with_reducible refine e_clet ?_ | with_reducible refine e_cc ?_ | (with_reducible refine e_chk ?_ ?_; · (first | omega | ((try simp (disch := omega) only [w32_eq, w64_eq, ix_n, ix_e, sto_n, sto_e, sto_r, zf_r, Int.toNat_natCast, true_or, or_true, eq_self, Bz_t, Bz_f]) <;> (first | omega | decide)))) | (with_reducible refine e_cchk ?_ ?_; · (first | omega | ((try simp (disch := omega) only [w32_eq, w64_eq, ix_n, ix_e, sto_n, sto_e, sto_r, zf_r, Int.toNat_natCast, true_or, or_true, eq_self, Bz_t, Bz_f]) <;> (first | omega | decide)))) | (with_reducible refine e_t ?_ ?_; · (first | omega | ((try simp (disch := omega) only [w32_eq, w64_eq, ix_n, ix_e, sto_n, sto_e, sto_r, zf_r, Int.toNat_natCast, true_or, or_true, eq_self, Bz_t, Bz_f]) <;> (first | omega | decide)))) | (with_reducible refine e_f ?_ ?_; · (first | omega | ((try simp (disch := omega) only [w32_eq, w64_eq, ix_n, ix_e, sto_n, sto_e, sto_r, zf_r, Int.toNat_natCast, true_or, or_true, eq_self, Bz_t, Bz_f]) <;> (first | omega | decide)))) | (with_reducible refine e_ct ?_ ?_; · (first | omega | ((try simp (disch := omega) only [w32_eq, w64_eq, ix_n, ix_e, sto_n, sto_e, sto_r, zf_r, Int.toNat_natCast, true_or, or_true, eq_self, Bz_t, Bz_f]) <;> (first | omega | decide)))) | (with_reducible refine e_cf ?_ ?_; · (first | omega | ((try simp (disch := omega) only [w32_eq, w64_eq, ix_n, ix_e, sto_n, sto_e, sto_r, zf_r, Int.toNat_natCast, true_or, or_true, eq_self, Bz_t, Bz_f]) <;> (first | omega | decide)))) | with_reducible refine e_call sp_v0 ?_ | with_reducible refine e_call sp_v2 ?_ | with_reducible refine e_call sp_v3 ?_ | with_reducible refine e_call sp_v5 ?_ | with_reducible refine e_call sp_v6 ?_ | with_reducible refine e_call sp_v8 ?_ | with_reducible refine e_call sp_v9 ?_ | with_reducible refine e_call sp_v10 ?_ | with_reducible refine e_call (r_v0 h) ?_ | with_reducible refine e_call (r_v1 h) ?_ | with_reducible refine e_call (r_v2 h) ?_ | with_reducible refine e_call (r_v3 h) ?_ | with_reducible refine e_call (r_v4 h) ?_ | with_reducible refine e_call (r_v5 h) ?_ | with_reducible refine e_call (r_v6 h) ?_ | with_reducible refine e_call (r_v7 h) ?_ | with_reducible refine e_call (r_v8 h) ?_ | with_reducible refine e_call (r_v9 h) ?_ | with_reducible refine e_call (r_v10 h) ?_); try with_reducible rfl
    · rw [f1]
      repeat (first | with_reducible refine e_let ?_ | with_reducible refine e_cs ?_ | with_reducible refine e_clet ?_ | with_reducible refine e_cc ?_ | (with_reducible refine e_chk ?_ ?_; · (first | omega | ((try simp (disch := omega) only [w32_eq, w64_eq, ix_n, ix_e, sto_n, sto_e, sto_r, zf_r, Int.toNat_natCast, true_or, or_true, eq_self, Bz_t, Bz_f]) <;> (first | omega | decide)))) | (with_reducible refine e_cchk ?_ ?_; · (first | omega | ((try simp (disch := omega) only [w32_eq, w64_eq, ix_n, ix_e, sto_n, sto_e, sto_r, zf_r, Int.toNat_natCast, true_or, or_true, eq_self, Bz_t, Bz_f]) <;> (first | omega | decide)))) | (with_reducible refine e_t ?_ ?_; · (first | omega | ((try simp (disch := omega) only [w32_eq, w64_eq, ix_n, ix_e, sto_n, sto_e, sto_r, zf_r, Int.toNat_natCast, true_or, or_true, eq_self, Bz_t, Bz_f]) <;> (first | omega | decide)))) | (with_reducible refine e_f ?_ ?_; · (first | omega | ((try simp (disch := omega) only [w32_eq, w64_eq, ix_n, ix_e, sto_n, sto_e, sto_r, zf_r, Int.toNat_natCast, true_or, or_true, eq_self, Bz_t, Bz_f]) <;> (first | omega | decide)))) | (with_reducible refine e_ct ?_ ?_; · (first | omega | ((try simp (disch := omega) only [w32_eq, w64_eq, ix_n, ix_e, sto_n, sto_e, sto_r, zf_r, Int.toNat_natCast, true_or, or_true, eq_self, Bz_t, Bz_f]) <;> (first | omega | decide)))) | (with_reducible refine e_cf ?_ ?_; · (first | omega | ((try simp (disch := omega) only [w32_eq, w64_eq, ix_n, ix_e, sto_n, sto_e, sto_r, zf_r, Int.toNat_natCast, true_or, or_true, eq_self, Bz_t, Bz_f]) <;> (first | omega | decide)))) | with_reducible refine e_call sp_v0 ?_ | with_reducible refine e_call sp_v2 ?_ | with_reducible refine e_call sp_v3 ?_ | with_reducible refine e_call sp_v5 ?_ | with_reducible refine e_call sp_v6 ?_ | with_reducible refine e_call sp_v8 ?_ | with_reducible refine e_call sp_v9 ?_ | with_reducible refine e_call sp_v10 ?_ | with_reducible refine e_call (r_v0 h) ?_ | with_reducible refine e_call (r_v1 h) ?_ | with_reducible refine e_call (r_v2 h) ?_ | with_reducible refine e_call (r_v3 h) ?_ | with_reducible refine e_call (r_v4 h) ?_ | with_reducible refine e_call (r_v5 h) ?_ | with_reducible refine e_call (r_v6 h) ?_ | with_reducible refine e_call (r_v7 h) ?_ | with_reducible refine e_call (r_v8 h) ?_ | with_reducible refine e_call (r_v9 h) ?_ | with_reducible refine e_call (r_v10 h) ?_); try with_reducible rfl
    · rw [f1]
      repeat (first | with_reducible refine e_let ?_ | with_reducible refine e_cs ?_ | with_reducible refine e_clet ?_ | with_reducible refine e_cc ?_ | (with_reducible refine e_chk ?_ ?_; · (first | omega | ((try simp (disch := omega) only [w32_eq, w64_eq, ix_n, ix_e, sto_n, sto_e, sto_r, zf_r, Int.toNat_natCast, true_or, or_true, eq_self, Bz_t, Bz_f]) <;> (first | omega | decide)))) | (with_reducible refine e_cchk ?_ ?_; · (first | omega | ((try simp (disch := omega) only [w32_eq, w64_eq, ix_n, ix_e, sto_n, sto_e, sto_r, zf_r, Int.toNat_natCast, true_or, or_true, eq_self, Bz_t, Bz_f]) <;> (first | omega | decide)))) | (with_reducible refine e_t ?_ ?_; · (first | omega | ((try simp (disch := omega) only [w32_eq, w64_eq, ix_n, ix_e, sto_n, sto_e, sto_r, zf_r, Int.toNat_natCast, true_or, or_true, eq_self, Bz_t, Bz_f]) <;> (first | omega | decide)))) | (with_reducible refine e_f ?_ ?_; · (first | omega | ((try simp (disch := omega) only [w32_eq, w64_eq, ix_n, ix_e, sto_n, sto_e, sto_r, zf_r, Int.toNat_natCast, true_or, or_true, eq_self, Bz_t, Bz_f]) <;> (first | omega | decide)))) | (with_reducible refine e_ct ?_ ?_; · (first | omega | ((try simp (disch := omega) only [w32_eq, w64_eq, ix_n, ix_e, sto_n, sto_e, sto_r, zf_r, Int.toNat_natCast, true_or, or_true, eq_self, Bz_t, Bz_f]) <;> (first | omega | decide)))) | (with_reducible refine e_cf ?_ ?_; · (first | omega | ((try simp (disch := omega) only [w32_eq, w64_eq, ix_n, ix_e, sto_n, sto_e, sto_r, zf_r, Int.toNat_natCast, true_or, or_true, eq_self, Bz_t, Bz_f]) <;> (first | omega | decide)))) | with_reducible refine e_call sp_v0 ?_ | with_reducible refine e_call sp_v2 ?_ | with_reducible refine e_call sp_v3 ?_ | with_reducible refine e_call sp_v5 ?_ | with_reducible refine e_call sp_v6 ?_ | with_reducible refine e_call sp_v8 ?_ | with_reducible refine e_call sp_v9 ?_ | with_reducible refine e_call sp_v10 ?_ | with_reducible refine e_call (r_v0 h) ?_ | with_reducible refine e_call (r_v1 h) ?_ | with_reducible refine e_call (r_v2 h) ?_ | with_reducible refine e_call (r_v3 h) ?_ | with_reducible refine e_call (r_v4 h) ?_ | with_reducible refine e_call (r_v5 h) ?_ | with_reducible refine e_call (r_v6 h) ?_ | with_reducible refine e_call (r_v7 h) ?_ | with_reducible refine e_call (r_v8 h) ?_ | with_reducible refine e_call (r_v9 h) ?_ | with_reducible refine e_call (r_v10 h) ?_); try with_reducible rfl
    · rw [f1]
      repeat (first | with_reducible refine e_let ?_ | with_reducible refine e_cs ?_ | with_reducible refine e_clet ?_ | with_reducible refine e_cc ?_ | (with_reducible refine e_chk ?_ ?_; · (first | omega | ((try simp (disch := omega) only [w32_eq, w64_eq, ix_n, ix_e, sto_n, sto_e, sto_r, zf_r, Int.toNat_natCast, true_or, or_true, eq_self, Bz_t, Bz_f]) <;> (first | omega | decide)))) | (with_reducible refine e_cchk ?_ ?_; · (first | omega | ((try simp (disch := omega) only [w32_eq, w64_eq, ix_n, ix_e, sto_n, sto_e, sto_r, zf_r, Int.toNat_natCast, true_or, or_true, eq_self, Bz_t, Bz_f]) <;> (first | omega | decide)))) | (with_reducible refine e_t ?_ ?_; · (first | omega | ((try simp (disch := omega) only [w32_eq, w64_eq, ix_n, ix_e, sto_n, sto_e, sto_r, zf_r, Int.toNat_natCast, true_or, or_true, eq_self, Bz_t, Bz_f]) <;> (first | omega | decide)))) | (with_reducible refine e_f ?_ ?_; · (first | omega | ((try simp (disch := omega) only [w32_eq, w64_eq, ix_n, ix_e, sto_n, sto_e, sto_r, zf_r, Int.toNat_natCast, true_or, or_true, eq_self, Bz_t, Bz_f]) <;> (first | omega | decide)))) | (with_reducible refine e_ct ?_ ?_; · (first | omega | ((try simp (disch := omega) only [w32_eq, w64_eq, ix_n, ix_e, sto_n, sto_e, sto_r, zf_r, Int.toNat_natCast, true_or, or_true, eq_self, Bz_t, Bz_f]) <;> (first | omega | decide)))) | (with_reducible refine e_cf ?_ ?_; · (first | omega | ((try simp (disch := omega) only [w32_eq, w64_eq, ix_n, ix_e, sto_n, sto_e, sto_r, zf_r, Int.toNat_natCast, true_or, or_true, eq_self, Bz_t, Bz_f]) <;> (first | omega | decide)))) | with_reducible refine e_call sp_v0 ?_ | with_reducible refine e_call sp_v2 ?_ | with_reducible refine e_call sp_v3 ?_ | with_reducible refine e_call sp_v5 ?_ | with_reducible refine e_call sp_v6 ?_ | with_reducible refine e_call sp_v8 ?_ | with_reducible refine e_call sp_v9 ?_ | with_reducible refine e_call sp_v10 ?_ | with_reducible refine e_call (r_v0 h) ?_ | with_reducible refine e_call (r_v1 h) ?_ | with_reducible refine e_call (r_v2 h) ?_ | with_reducible refine e_call (r_v3 h) ?_ | with_reducible refine e_call (r_v4 h) ?_ | with_reducible refine e_call (r_v5 h) ?_ | with_reducible refine e_call (r_v6 h) ?_ | with_reducible refine e_call (r_v7 h) ?_ | with_reducible refine e_call (r_v8 h) ?_ | with_reducible refine e_call (r_v9 h) ?_ | with_reducible refine e_call (r_v10 h) ?_); try with_reducible rfl
    · rw [f1]
      repeat (first | with_reducible refine e_let ?_ | with_reducible refine e_cs ?_ | with_reducible refine e_clet ?_ | with_reducible refine e_cc ?_ | (with_reducible refine e_chk ?_ ?_; · (first | omega | ((try simp (disch := omega) only [w32_eq, w64_eq, ix_n, ix_e, sto_n, sto_e, sto_r, zf_r, Int.toNat_natCast, true_or, or_true, eq_self, Bz_t, Bz_f]) <;> (first | omega | decide)))) | (with_reducible refine e_cchk ?_ ?_; · (first | omega | ((try simp (disch := omega) only [w32_eq, w64_eq, ix_n, ix_e, sto_n, sto_e, sto_r, zf_r, Int.toNat_natCast, true_or, or_true, eq_self, Bz_t, Bz_f]) <;> (first | omega | decide)))) | (with_reducible refine e_t ?_ ?_; · (first | omega | ((try simp (disch := omega) only [w32_eq, w64_eq, ix_n, ix_e, sto_n, sto_e, sto_r, zf_r, Int.toNat_natCast, true_or, or_true, eq_self, Bz_t, Bz_f]) <;> (first | omega | decide)))) | (with_reducible refine e_f ?_ ?_; · (first | omega | ((try simp (disch := omega) only [w32_eq, w64_eq, ix_n, ix_e, sto_n, sto_e, sto_r, zf_r, Int.toNat_natCast, true_or, or_true, eq_self, Bz_t, Bz_f]) <;> (first | omega | decide)))) | (with_reducible refine e_ct ?_ ?_; · (first | omega | ((try simp (disch := omega) only [w32_eq, w64_eq, ix_n, ix_e, sto_n, sto_e, sto_r, zf_r, Int.toNat_natCast, true_or, or_true, eq_self, Bz_t, Bz_f]) <;> (first | omega | decide)))) | (with_reducible refine e_cf ?_ ?_; · (first | omega | ((try simp (disch := omega) only [w32_eq, w64_eq, ix_n, ix_e, sto_n, sto_e, sto_r, zf_r, Int.toNat_natCast, true_or, or_true, eq_self, Bz_t, Bz_f]) <;> (first | omega | decide)))) | with_reducible refine e_call sp_v0 ?_ | with_reducible refine e_call sp_v2 ?_ | with_reducible refine e_call sp_v3 ?_ | with_reducible refine e_call sp_v5 ?_ | with_reducible refine e_call sp_v6 ?_ | with_reducible refine e_call sp_v8 ?_ | with_reducible refine e_call sp_v9 ?_ | with_reducible refine e_call sp_v10 ?_ | with_reducible refine e_call (r_v0 h) ?_ | with_reducible refine e_call (r_v1 h) ?_ | with_reducible refine e_call (r_v2 h) ?_ | with_reducible refine e_call (r_v3 h) ?_ | with_reducible refine e_call (r_v4 h) ?_ | with_reducible refine e_call (r_v5 h) ?_ | with_reducible refine e_call (r_v6 h) ?_ | with_reducible refine e_call (r_v7 h) ?_ | with_reducible refine e_call (r_v8 h) ?_ | with_reducible refine e_call (r_v9 h) ?_ | with_reducible refine e_call (r_v10 h) ?_); try with_reducible rfl
    · rw [f1]
      repeat (first | with_reducible refine e_let ?_ | with_reducible refine e_cs ?_ | with_reducible refine e_clet ?_ | with_reducible refine e_cc ?_ | (with_reducible refine e_chk ?_ ?_; · (first | omega | ((try simp (disch := omega) only [w32_eq, w64_eq, ix_n, ix_e, sto_n, sto_e, sto_r, zf_r, Int.toNat_natCast, true_or, or_true, eq_self, Bz_t, Bz_f]) <;> (first | omega | decide)))) | (with_reducible refine e_cchk ?_ ?_; · (first | omega | ((try simp (disch := omega) only [w32_eq, w64_eq, ix_n, ix_e, sto_n, sto_e, sto_r, zf_r, Int.toNat_natCast, true_or, or_true, eq_self, Bz_t, Bz_f]) <;> (first | omega | decide)))) | (with_reducible refine e_t ?_ ?_; · (first | omega | ((try simp (disch := omega) only [w32_eq, w64_eq, ix_n, ix_e, sto_n, sto_e, sto_r, zf_r, Int.toNat_natCast, true_or, or_true, eq_self, Bz_t, Bz_f]) <;> (first | omega | decide)))) | (with_reducible refine e_f ?_ ?_; · (first | omega | ((try simp (disch := omega) only [w32_eq, w64_eq, ix_n, ix_e, sto_n, sto_e, sto_r, zf_r, Int.toNat_natCast, true_or, or_true, eq_self, Bz_t, Bz_f]) <;> (first | omega | decide)))) | (with_reducible refine e_ct ?_ ?_; · (first | omega | ((try simp (disch := omega) only [w32_eq, w64_eq, ix_n, ix_e, sto_n, sto_e, sto_r, zf_r, Int.toNat_natCast, true_or, or_true, eq_self, Bz_t, Bz_f]) <;> (first | omega | decide)))) | (with_reducible refine e_cf ?_ ?_; · (first | omega | ((try simp (disch := omega) only [w32_eq, w64_eq, ix_n, ix_e, sto_n, sto_e, sto_r, zf_r, Int.toNat_natCast, true_or, or_true, eq_self, Bz_t, Bz_f]) <;> (first | omega | decide)))) | with_reducible refine e_call sp_v0 ?_ | with_reducible refine e_call sp_v2 ?_ | with_reducible refine e_call sp_v3 ?_ | with_reducible refine e_call sp_v5 ?_ | with_reducible refine e_call sp_v6 ?_ | with_reducible refine e_call sp_v8 ?_ | with_reducible refine e_call sp_v9 ?_ | with_reducible refine e_call sp_v10 ?_ | with_reducible refine e_call (r_v0 h) ?_ | with_reducible refine e_call (r_v1 h) ?_ | with_reducible refine e_call (r_v2 h) ?_ | with_reducible refine e_call (r_v3 h) ?_ | with_reducible refine e_call (r_v4 h) ?_ | with_reducible refine e_call (r_v5 h) ?_ | with_reducible refine e_call (r_v6 h) ?_ | with_reducible refine e_call (r_v7 h) ?_ | with_reducible refine e_call (r_v8 h) ?_ | with_reducible refine e_call (r_v9 h) ?_ | with_reducible refine e_call (r_v10 h) ?_); try with_reducible rfl
    · rw [f1]
      repeat (first | with_reducible refine e_let ?_ | with_reducible refine e_cs ?_ | with_reducible refine e_clet ?_ | with_reducible refine e_cc ?_ | (with_reducible refine e_chk ?_ ?_; · (first | omega | ((try simp (disch := omega) only [w32_eq, w64_eq, ix_n, ix_e, sto_n, sto_e, sto_r, zf_r, Int.toNat_natCast, true_or, or_true, eq_self, Bz_t, Bz_f]) <;> (first | omega | decide)))) | (with_reducible refine e_cchk ?_ ?_; · (first | omega | ((try simp (disch := omega) only [w32_eq, w64_eq, ix_n, ix_e, sto_n, sto_e, sto_r, zf_r, Int.toNat_natCast, true_or, or_true, eq_self, Bz_t, Bz_f]) <;> (first | omega | decide)))) | (with_reducible refine e_t ?_ ?_; · (first | omega | ((try simp (disch := omega) only [w32_eq, w64_eq, ix_n, ix_e, sto_n, sto_e, sto_r, zf_r, Int.toNat_natCast, true_or, or_true, eq_self, Bz_t, Bz_f]) <;> (first | omega | decide)))) | (with_reducible refine e_f ?_ ?_; · (first | omega | ((try simp (disch := omega) only [w32_eq, w64_eq, ix_n, ix_e, sto_n, sto_e, sto_r, zf_r, Int.toNat_natCast, true_or, or_true, eq_self, Bz_t, Bz_f]) <;> (first | omega | decide)))) | (with_reducible refine e_ct ?_ ?_; · (first | omega | ((try simp (disch := omega) only [w32_eq, w64_eq, ix_n, ix_e, sto_n, sto_e, sto_r, zf_r, Int.toNat_natCast, true_or, or_true, eq_self, Bz_t, Bz_f]) <;> (first | omega | decide)))) | (with_reducible refine e_cf ?_ ?_; · (first | omega | ((try simp (disch := omega) only [w32_eq, w64_eq, ix_n, ix_e, sto_n, sto_e, sto_r, zf_r, Int.toNat_natCast, true_or, or_true, eq_self, Bz_t, Bz_f]) <;> (first | omega | decide)))) | with_reducible refine e_call sp_v0 ?_ | with_reducible refine e_call sp_v2 ?_ | with_reducible refine e_call sp_v3 ?_ | with_reducible refine e_call sp_v5 ?_ | with_reducible refine e_call sp_v6 ?_ | with_reducible refine e_call sp_v8 ?_ | with_reducible refine e_call sp_v9 ?_ | with_reducible refine e_call sp_v10 ?_ | with_reducible refine e_call (r_v0 h) ?_ | with_reducible refine e_call (r_v1 h) ?_ | with_reducible refine e_call (r_v2 h) ?_ | with_reducible refine e_call (r_v3 h) ?_ | with_reducible refine e_call (r_v4 h) ?_ | with_reducible refine e_call (r_v5 h) ?_ | with_reducible refine e_call (r_v6 h) ?_ | with_reducible refine e_call (r_v7 h) ?_ | with_reducible refine e_call (r_v8 h) ?_ | with_reducible refine e_call (r_v9 h) ?_ | with_reducible refine e_call (r_v10 h) ?_); try with_reducible rfl
    · rw [f1]
      repeat (first | with_reducible refine e_let ?_ | with_reducible refine e_cs ?_ | with_reducible refine e_clet ?_ | with_reducible refine e_cc ?_ | (with_reducible refine e_chk ?_ ?_; · (first | omega | ((try simp (disch := omega) only [w32_eq, w64_eq, ix_n, ix_e, sto_n, sto_e, sto_r, zf_r, Int.toNat_natCast, true_or, or_true, eq_self, Bz_t, Bz_f]) <;> (first | omega | decide)))) | (with_reducible refine e_cchk ?_ ?_; · (first | omega | ((try simp (disch := omega) only [w32_eq, w64_eq, ix_n, ix_e, sto_n, sto_e, sto_r, zf_r, Int.toNat_natCast, true_or, or_true, eq_self, Bz_t, Bz_f]) <;> (first | omega | decide)))) | (with_reducible refine e_t ?_ ?_; · (first | omega | ((try simp (disch := omega) only [w32_eq, w64_eq, ix_n, ix_e, sto_n, sto_e, sto_r, zf_r, Int.toNat_natCast, true_or, or_true, eq_self, Bz_t, Bz_f]) <;> (first | omega | decide)))) | (with_reducible refine e_f ?_ ?_; · (first | omega | ((try simp (disch := omega) only [w32_eq, w64_eq, ix_n, ix_e, sto_n, sto_e, sto_r, zf_r, Int.toNat_natCast, true_or, or_true, eq_self, Bz_t, Bz_f]) <;> (first | omega | decide)))) | (with_reducible refine e_ct ?_ ?_; · (first | omega | ((try simp (disch := omega) only [w32_eq, w64_eq, ix_n, ix_e, sto_n, sto_e, sto_r, zf_r, Int.toNat_natCast, true_or, or_true, eq_self, Bz_t, Bz_f]) <;> (first | omega | decide)))) | (with_reducible refine e_cf ?_ ?_; · (first | omega | ((try simp (disch := omega) only [w32_eq, w64_eq, ix_n, ix_e, sto_n, sto_e, sto_r, zf_r, Int.toNat_natCast, true_or, or_true, eq_self, Bz_t, Bz_f]) <;> (first | omega | decide)))) | with_reducible refine e_call sp_v0 ?_ | with_reducible refine e_call sp_v2 ?_ | with_reducible refine e_call sp_v3 ?_ | with_reducible refine e_call sp_v5 ?_ | with_reducible refine e_call sp_v6 ?_ | with_reducible refine e_call sp_v8 ?_ | with_reducible refine e_call sp_v9 ?_ | with_reducible refine e_call sp_v10 ?_ | with_reducible refine e_call (r_v0 h) ?_ | with_reducible refine e_call (r_v1 h) ?_ | with_reducible refine e_call (r_v2 h) ?_ | with_reducible refine e_call (r_v3 h) ?_ | with_reducible refine e_call (r_v4 h) ?_ | with_reducible refine e_call (r_v5 h) ?_ | with_reducible refine e_call (r_v6 h) ?_ | with_reducible refine e_call (r_v7 h) ?_ | with_reducible refine e_call (r_v8 h) ?_ | with_reducible refine e_call (r_v9 h) ?_ | with_reducible refine e_call (r_v10 h) ?_); try with_reducible rfl
    · rw [f1]
      repeat (first | with_reducible refine e_let ?_ | with_reducible refine e_cs ?_ | with_reducible refine e_clet ?_ | with_reducible refine e_cc ?_ | (with_reducible refine e_chk ?_ ?_; · (first | omega | ((try simp (disch := omega) only [w32_eq, w64_eq, ix_n, ix_e, sto_n, sto_e, sto_r, zf_r, Int.toNat_natCast, true_or, or_true, eq_self, Bz_t, Bz_f]) <;> (first | omega | decide)))) | (with_reducible refine e_cchk ?_ ?_; · (first | omega | ((try simp (disch := omega) only [w32_eq, w64_eq, ix_n, ix_e, sto_n, sto_e, sto_r, zf_r, Int.toNat_natCast, true_or, or_true, eq_self, Bz_t, Bz_f]) <;> (first | omega | decide)))) | (with_reducible refine e_t ?_ ?_; · (first | omega | ((try simp (disch := omega) only [w32_eq, w64_eq, ix_n, ix_e, sto_n, sto_e, sto_r, zf_r, Int.toNat_natCast, true_or, or_true, eq_self, Bz_t, Bz_f]) <;> (first | omega | decide)))) | (with_reducible refine e_f ?_ ?_; · (first | omega | ((try simp (disch := omega) only [w32_eq, w64_eq, ix_n, ix_e, sto_n, sto_e, sto_r, zf_r, Int.toNat_natCast, true_or, or_true, eq_self, Bz_t, Bz_f]) <;> (first | omega | decide)))) | (with_reducible refine e_ct ?_ ?_; · (first | omega | ((try simp (disch := omega) only [w32_eq, w64_eq, ix_n, ix_e, sto_n, sto_e, sto_r, zf_r, Int.toNat_natCast, true_or, or_true, eq_self, Bz_t, Bz_f]) <;> (first | omega | decide)))) | (with_reducible refine e_cf ?_ ?_; · (first | omega | ((try simp (disch := omega) only [w32_eq, w64_eq, ix_n, ix_e, sto_n, sto_e, sto_r, zf_r, Int.toNat_natCast, true_or, or_true, eq_self, Bz_t, Bz_f]) <;> (first | omega | decide)))) | with_reducible refine e_call sp_v0 ?_ | with_reducible refine e_call sp_v2 ?_ | with_reducible refine e_call sp_v3 ?_ | with_reducible refine e_call sp_v5 ?_ | with_reducible refine e_call sp_v6 ?_ | with_reducible refine e_call sp_v8 ?_ | with_reducible refine e_call sp_v9 ?_ | with_reducible refine e_call sp_v10 ?_ | with_reducible refine e_call (r_v0 h) ?_ | with_reducible refine e_call (r_v1 h) ?_ | with_reducible refine e_call (r_v2 h) ?_ | with_reducible refine e_call (r_v3 h) ?_ | with_reducible refine e_call (r_v4 h) ?_ | with_reducible refine e_call (r_v5 h) ?_ | with_reducible refine e_call (r_v6 h) ?_ | with_reducible refine e_call (r_v7 h) ?_ | with_reducible refine e_call (r_v8 h) ?_ | with_reducible refine e_call (r_v9 h) ?_ | with_reducible refine e_call (r_v10 h) ?_); try with_reducible rfl
    · rw [f1]
      repeat (first | with_reducible refine e_let ?_ | with_reducible refine e_cs ?_ | with_reducible refine e_clet ?_ | with_reducible refine e_cc ?_ | (with_reducible refine e_chk ?_ ?_; · (first | omega | ((try simp (disch := omega) only [w32_eq, w64_eq, ix_n, ix_e, sto_n, sto_e, sto_r, zf_r, Int.toNat_natCast, true_or, or_true, eq_self, Bz_t, Bz_f]) <;> (first | omega | decide)))) | (with_reducible refine e_cchk ?_ ?_; · (first | omega | ((try simp (disch := omega) only [w32_eq, w64_eq, ix_n, ix_e, sto_n, sto_e, sto_r, zf_r, Int.toNat_natCast, true_or, or_true, eq_self, Bz_t, Bz_f]) <;> (first | omega | decide)))) | (with_reducible refine e_t ?_ ?_; · (first | omega | ((try simp (disch := omega) only [w32_eq, w64_eq, ix_n, ix_e, sto_n, sto_e, sto_r, zf_r, Int.toNat_natCast, true_or, or_true, eq_self, Bz_t, Bz_f]) <;> (first | omega | decide)))) | (with_reducible refine e_f ?_ ?_; · (first | omega | ((try simp (disch := omega) only [w32_eq, w64_eq, ix_n, ix_e, sto_n, sto_e, sto_r, zf_r, Int.toNat_natCast, true_or, or_true, eq_self, Bz_t, Bz_f]) <;> (first | omega | decide)))) | (with_reducible refine e_ct ?_ ?_; · (first | omega | ((try simp (disch := omega) only [w32_eq, w64_eq, ix_n, ix_e, sto_n, sto_e, sto_r, zf_r, Int.toNat_natCast, true_or, or_true, eq_self, Bz_t, Bz_f]) <;> (first | omega | decide)))) | (with_reducible refine e_cf ?_ ?_; · (first | omega | ((try simp (disch := omega) only [w32_eq, w64_eq, ix_n, ix_e, sto_n, sto_e, sto_r, zf_r, Int.toNat_natCast, true_or, or_true, eq_self, Bz_t, Bz_f]) <;> (first | omega | decide)))) | with_reducible refine e_call sp_v0 ?_ | with_reducible refine e_call sp_v2 ?_ | with_reducible refine e_call sp_v3 ?_ | with_reducible refine e_call sp_v5 ?_ | with_reducible refine e_call sp_v6 ?_ | with_reducible refine e_call sp_v8 ?_ | with_reducible refine e_call sp_v9 ?_ | with_reducible refine e_call sp_v10 ?_ | with_reducible refine e_call (r_v0 h) ?_ | with_reducible refine e_call (r_v1 h) ?_ | with_reducible refine e_call (r_v2 h) ?_ | with_reducible refine e_call (r_v3 h) ?_ | with_reducible refine e_call (r_v4 h) ?_ | with_reducible refine e_call (r_v5 h) ?_ | with_reducible refine e_call (r_v6 h) ?_ | with_reducible refine e_call (r_v7 h) ?_ | with_reducible refine e_call (r_v8 h) ?_ | with_reducible refine e_call (r_v9 h) ?_ | with_reducible refine e_call (r_v10 h) ?_); try with_reducible rfl
    · rw [f1]
      repeat (first | with_reducible refine e_let ?_ | with_reducible refine e_cs ?_ | with_reducible refine e_clet ?_ | with_reducible refine e_cc ?_ | (with_reducible refine e_chk ?_ ?_; · (first | omega | ((try simp (disch := omega) only [w32_eq, w64_eq, ix_n, ix_e, sto_n, sto_e, sto_r, zf_r, Int.toNat_natCast, true_or, or_true, eq_self, Bz_t, Bz_f]) <;> (first | omega | decide)))) | (with_reducible refine e_cchk ?_ ?_; · (first | omega | ((try simp (disch := omega) only [w32_eq, w64_eq, ix_n, ix_e, sto_n, sto_e, sto_r, zf_r, Int.toNat_natCast, true_or, or_true, eq_self, Bz_t, Bz_f]) <;> (first | omega | decide)))) | (with_reducible refine e_t ?_ ?_; · (first | omega | ((try simp (disch := omega) only [w32_eq, w64_eq, ix_n, ix_e, sto_n, sto_e, sto_r, zf_r, Int.toNat_natCast, true_or, or_true, eq_self, Bz_t, Bz_f]) <;> (first | omega | decide)))) | (with_reducible refine e_f ?_ ?_; · (first | omega | ((try simp (disch := omega) only [w32_eq, w64_eq, ix_n, ix_e, sto_n, sto_e, sto_r, zf_r, Int.toNat_natCast, true_or, or_true, eq_self, Bz_t, Bz_f]) <;> (first | omega | decide)))) | (with_reducible refine e_ct ?_ ?_; · (first | omega | ((try simp (disch := omega) only [w32_eq, w64_eq, ix_n, ix_e, sto_n, sto_e, sto_r, zf_r, Int.toNat_natCast, true_or, or_true, eq_self, Bz_t, Bz_f]) <;> (first | omega | decide)))) | (with_reducible refine e_cf ?_ ?_; · (first | omega | ((try simp (disch := omega) only [w32_eq, w64_eq, ix_n, ix_e, sto_n, sto_e, sto_r, zf_r, Int.toNat_natCast, true_or, or_true, eq_self, Bz_t, Bz_f]) <;> (first | omega | decide)))) | with_reducible refine e_call sp_v0 ?_ | with_reducible refine e_call sp_v2 ?_ | with_reducible refine e_call sp_v3 ?_ | with_reducible refine e_call sp_v5 ?_ | with_reducible refine e_call sp_v6 ?_ | with_reducible refine e_call sp_v8 ?_ | with_reducible refine e_call sp_v9 ?_ | with_reducible refine e_call sp_v10 ?_ | with_reducible refine e_call (r_v0 h) ?_ | with_reducible refine e_call (r_v1 h) ?_ | with_reducible refine e_call (r_v2 h) ?_ | with_reducible refine e_call (r_v3 h) ?_ | with_reducible refine e_call (r_v4 h) ?_ | with_reducible refine e_call (r_v5 h) ?_ | with_reducible refine e_call (r_v6 h) ?_ | with_reducible refine e_call (r_v7 h) ?_ | with_reducible refine e_call (r_v8 h) ?_ | with_reducible refine e_call (r_v9 h) ?_ | with_reducible refine e_call (r_v10 h) ?_); try with_reducible rfl
  · rw [if_neg s]
    unfold d_Mo_variable
    repeat (first | with_reducible refine e_let ?_ | with_reducible refine e_cs ?_ | with_reducible refine e_clet ?_ | with_reducible refine e_cc ?_ | (with_reducible refine e_chk ?_ ?_; · (first | omega | ((try simp (disch := omega) only [w32_eq, w64_eq, ix_n, ix_e, sto_n, sto_e, sto_r, zf_r, Int.toNat_natCast, true_or, or_true, eq_self, Bz_t, Bz_f]) <;> (first | omega | decide)))) | (with_reducible refine e_cchk ?_ ?_; · (first | omega | ((try simp (disch := omega) only [w32_eq, w64_eq, ix_n, ix_e, sto_n, sto_e, sto_r, zf_r, Int.toNat_natCast, true_or, or_true, eq_self, Bz_t, Bz_f]) <;> (first | omega | decide)))) | (with_reducible refine e_t ?_ ?_; · (first | omega | ((try simp (disch := omega) only [w32_eq, w64_eq, ix_n, ix_e, sto_n, sto_e, sto_r, zf_r, Int.toNat_natCast, true_or, or_true, eq_self, Bz_t, Bz_f]) <;> (first | omega | decide)))) | (with_reducible refine e_f ?_ ?_; · (first | omega | ((try simp (disch := omega) only [w32_eq, w64_eq, ix_n, ix_e, sto_n, sto_e, sto_r, zf_r, Int.toNat_natCast, true_or, or_true, eq_self, Bz_t, Bz_f]) <;> (first | omega | decide)))) | (with_reducible refine e_ct ?_ ?_; · (first | omega | ((try simp (disch := omega) only [w32_eq, w64_eq, ix_n, ix_e, sto_n, sto_e, sto_r, zf_r, Int.toNat_natCast, true_or, or_true, eq_self, Bz_t, Bz_f]) <;> (first | omega | decide)))) | (with_reducible refine e_cf ?_ ?_; · (first | omega | ((try simp (disch := omega) only [w32_eq, w64_eq, ix_n, ix_e, sto_n, sto_e, sto_r, zf_r, Int.toNat_natCast, true_or, or_true, eq_self, Bz_t, Bz_f]) <;> (first | omega | decide)))) | with_reducible refine e_call sp_v0 ?_ | with_reducible refine e_call sp_v2 ?_ | with_reducible refine e_call sp_v3 ?_ | with_reducible refine e_call sp_v5 ?_ | with_reducible refine e_call sp_v6 ?_ | with_reducible refine e_call sp_v8 ?_ | with_reducible refine e_call sp_v9 ?_ | with_reducible refine e_call sp_v10 ?_ | with_reducible refine e_call (r_v0 h) ?_ | with_reducible refine e_call (r_v1 h) ?_ | with_reducible refine e_call (r_v2 h) ?_ | with_reducible refine e_call (r_v3 h) ?_ | with_reducible refine e_call (r_v4 h) ?_ | with_reducible refine e_call (r_v5 h) ?_ | with_reducible refine e_call (r_v6 h) ?_ | with_reducible refine e_call (r_v7 h) ?_ | with_reducible refine e_call (r_v8 h) ?_ | with_reducible refine e_call (r_v9 h) ?_ | with_reducible refine e_call (r_v10 h) ?_); try with_reducible rfl
/-- names -/
def ndF (nm : Nat → Int) (x : Int) : Nat → Nat → Int
  | 0, _ => -1
  | r + 1, i => if nm i = x then (i : Int) else ndF nm x r (i + 1)
theorem ndF_b {nm : Nat → Int} {x : Int} : ∀ r i : Nat, ndF nm x r i = -1 ∨ ((i : Int) ≤ ndF nm x r i ∧ ndF nm x r i < (i : Int) + r)
  | 0, i => Or.inl rfl
  | r + 1, i => by
    unfold ndF
    split
    · right; omega
    · rcases ndF_b (nm := nm) (x := x) r (i + 1) with h | h
      · exact Or.inl h
      · right; omega
theorem ndF_m {nm : Nat → Int} {x : Int} : ∀ r i : Nat, (∀ j, i ≤ j → j < i + r → nm j ≠ x) → ndF nm x r i = -1
  | 0, i, _ => rfl
  | r + 1, i, h => by
    unfold ndF
    rw [if_neg (h i (by omega) (by omega)), ndF_m r (i + 1) (fun j h1 h2 => h j (by omega) (by omega))]
def NmI (nm : Nat → Int) (D : Nat) : Prop := D ≤ 10 ∧ ∀ i, i < D → 0 ≤ nm i ∧ nm i < 282429536481 ∧ kd (nm i) = 3
theorem l_fdC {nm : Nat → Int} {D : Nat} {x : Int} {M : Mem} (hN : NmI nm D) (hx : w64 x = x) (h1 : M 57 1 = (D : Int)) (h61 : ∀ i, i < D → M 61 i = nm i) : ∀ r fuel i : Nat, i + r = D → r < fuel → fix (fun _ _ _ => none) k_Pa_findDef_2 fuel x (i : Int) M = some (ndF nm x r i, M) := by
  have hD := hN.1
  intro r; induction r with
  | zero =>
    intro fuel i e hf
    obtain ⟨f, rfl⟩ : ∃ f, fuel = f + 1 := ⟨fuel - 1, by omega⟩; rw [fix_s]; unfold k_Pa_findDef_2 ndF
    repeat (first | with_reducible refine e_let ?_ | with_reducible refine e_cs ?_ | with_reducible refine e_clet ?_ | with_reducible refine e_cc ?_ | (with_reducible refine e_chk ?_ ?_; · (first | omega | ((try simp (disch := omega) only [w32_eq, w64_eq, ix_n, ix_e, sto_n, sto_e, sto_r, zf_r, Int.toNat_natCast, true_or, or_true, eq_self, h1]) <;> (first | omega | decide)))) | (with_reducible refine e_cchk ?_ ?_; · (first | omega | ((try simp (disch := omega) only [w32_eq, w64_eq, ix_n, ix_e, sto_n, sto_e, sto_r, zf_r, Int.toNat_natCast, true_or, or_true, eq_self, h1]) <;> (first | omega | decide)))) | (with_reducible refine e_t ?_ ?_; · (first | omega | ((try simp (disch := omega) only [w32_eq, w64_eq, ix_n, ix_e, sto_n, sto_e, sto_r, zf_r, Int.toNat_natCast, true_or, or_true, eq_self, h1]) <;> (first | omega | decide)))) | (with_reducible refine e_f ?_ ?_; · (first | omega | ((try simp (disch := omega) only [w32_eq, w64_eq, ix_n, ix_e, sto_n, sto_e, sto_r, zf_r, Int.toNat_natCast, true_or, or_true, eq_self, h1]) <;> (first | omega | decide)))) | (with_reducible refine e_ct ?_ ?_; · (first | omega | ((try simp (disch := omega) only [w32_eq, w64_eq, ix_n, ix_e, sto_n, sto_e, sto_r, zf_r, Int.toNat_natCast, true_or, or_true, eq_self, h1]) <;> (first | omega | decide)))) | (with_reducible refine e_cf ?_ ?_; · (first | omega | ((try simp (disch := omega) only [w32_eq, w64_eq, ix_n, ix_e, sto_n, sto_e, sto_r, zf_r, Int.toNat_natCast, true_or, or_true, eq_self, h1]) <;> (first | omega | decide))))); try with_reducible rfl
  | succ r ih =>
    intro fuel i e hf
    have hi : ix (i : Int) = i := ix_n (by omega)
    have hb := hN.2 i (by omega)
    have h6 := h61 i (by omega)
    obtain ⟨f, rfl⟩ : ∃ f, fuel = f + 1 := ⟨fuel - 1, by omega⟩; rw [fix_s]; unfold k_Pa_findDef_2 ndF
    by_cases c : nm i = x
    · rw [if_pos c]
      repeat (first | with_reducible refine e_let ?_ | with_reducible refine e_cs ?_ | with_reducible refine e_clet ?_ | with_reducible refine e_cc ?_ | (with_reducible refine e_chk ?_ ?_; · (first | omega | ((try simp (disch := omega) only [w32_eq, w64_eq, ix_n, ix_e, sto_n, sto_e, sto_r, zf_r, Int.toNat_natCast, true_or, or_true, eq_self, h1, hi, h6, hx, c]) <;> (first | omega | decide)))) | (with_reducible refine e_cchk ?_ ?_; · (first | omega | ((try simp (disch := omega) only [w32_eq, w64_eq, ix_n, ix_e, sto_n, sto_e, sto_r, zf_r, Int.toNat_natCast, true_or, or_true, eq_self, h1, hi, h6, hx, c]) <;> (first | omega | decide)))) | (with_reducible refine e_t ?_ ?_; · (first | omega | ((try simp (disch := omega) only [w32_eq, w64_eq, ix_n, ix_e, sto_n, sto_e, sto_r, zf_r, Int.toNat_natCast, true_or, or_true, eq_self, h1, hi, h6, hx, c]) <;> (first | omega | decide)))) | (with_reducible refine e_f ?_ ?_; · (first | omega | ((try simp (disch := omega) only [w32_eq, w64_eq, ix_n, ix_e, sto_n, sto_e, sto_r, zf_r, Int.toNat_natCast, true_or, or_true, eq_self, h1, hi, h6, hx, c]) <;> (first | omega | decide)))) | (with_reducible refine e_ct ?_ ?_; · (first | omega | ((try simp (disch := omega) only [w32_eq, w64_eq, ix_n, ix_e, sto_n, sto_e, sto_r, zf_r, Int.toNat_natCast, true_or, or_true, eq_self, h1, hi, h6, hx, c]) <;> (first | omega | decide)))) | (with_reducible refine e_cf ?_ ?_; · (first | omega | ((try simp (disch := omega) only [w32_eq, w64_eq, ix_n, ix_e, sto_n, sto_e, sto_r, zf_r, Int.toNat_natCast, true_or, or_true, eq_self, h1, hi, h6, hx, c]) <;> (first | omega | decide))))); try with_reducible rfl
    · rw [if_neg c]
      repeat (first | with_reducible refine e_let ?_ | with_reducible refine e_cs ?_ | with_reducible refine e_clet ?_ | with_reducible refine e_cc ?_ | (with_reducible refine e_chk ?_ ?_; · (first | omega | ((try simp (disch := omega) only [w32_eq, w64_eq, ix_n, ix_e, sto_n, sto_e, sto_r, zf_r, Int.toNat_natCast, true_or, or_true, eq_self, h1, hi, h6, hx, c]) <;> (first | omega | decide)))) | (with_reducible refine e_cchk ?_ ?_; · (first | omega | ((try simp (disch := omega) only [w32_eq, w64_eq, ix_n, ix_e, sto_n, sto_e, sto_r, zf_r, Int.toNat_natCast, true_or, or_true, eq_self, h1, hi, h6, hx, c]) <;> (first | omega | decide)))) | (with_reducible refine e_t ?_ ?_; · (first | omega | ((try simp (disch := omega) only [w32_eq, w64_eq, ix_n, ix_e, sto_n, sto_e, sto_r, zf_r, Int.toNat_natCast, true_or, or_true, eq_self, h1, hi, h6, hx, c]) <;> (first | omega | decide)))) | (with_reducible refine e_f ?_ ?_; · (first | omega | ((try simp (disch := omega) only [w32_eq, w64_eq, ix_n, ix_e, sto_n, sto_e, sto_r, zf_r, Int.toNat_natCast, true_or, or_true, eq_self, h1, hi, h6, hx, c]) <;> (first | omega | decide)))) | (with_reducible refine e_ct ?_ ?_; · (first | omega | ((try simp (disch := omega) only [w32_eq, w64_eq, ix_n, ix_e, sto_n, sto_e, sto_r, zf_r, Int.toNat_natCast, true_or, or_true, eq_self, h1, hi, h6, hx, c]) <;> (first | omega | decide)))) | (with_reducible refine e_cf ?_ ?_; · (first | omega | ((try simp (disch := omega) only [w32_eq, w64_eq, ix_n, ix_e, sto_n, sto_e, sto_r, zf_r, Int.toNat_natCast, true_or, or_true, eq_self, h1, hi, h6, hx, c]) <;> (first | omega | decide)))))
      rw [show (i : Int) + 1 = ((i + 1 : Nat) : Int) by omega]
      exact ih f (i + 1) (by omega) (by omega)
theorem s_fdC {nm : Nat → Int} {D : Nat} {x : Int} {M : Mem} (hN : NmI nm D) (hx : w64 x = x) (h1 : M 57 1 = (D : Int)) (h61 : ∀ i, i < D → M 61 i = nm i) : d_Pa_findDef x M = some (ndF nm x D 0, M) := by
  unfold d_Pa_findDef
  exact l_fdC hN hx h1 h61 D FU 0 (by omega) (by have := hN.1; unfold FU; omega)
theorem l_fdR {nm : Nat → Int} {D : Nat} {x : Int} {M : Mem} (hN : NmI nm D) (hx : 0 ≤ x ∧ x < 282429536481) (h50 : M 111 50 = 1) (h54 : 1 ≤ M 111 54 ∧ M 111 54 ≤ 8) (h55 : M 111 55 = cv x) (h1 : M 111 57 = (D : Int)) (h61 : ∀ i, i < D → M 154 i = cv (nm i)) : ∀ r fuel i : Nat, i + r = D → r < fuel → fix (fun _ _ => none) k_Mo_named_2 fuel (i : Int) M = some (ndF nm x r i, M) := by
  have hD := hN.1
  have xb := cv_b x
  intro r; induction r with
  | zero =>
    intro fuel i e hf
    obtain ⟨f, rfl⟩ : ∃ f, fuel = f + 1 := ⟨fuel - 1, by omega⟩; rw [fix_s]; unfold k_Mo_named_2 ndF
    repeat (first | with_reducible refine e_let ?_ | with_reducible refine e_cs ?_ | with_reducible refine e_clet ?_ | with_reducible refine e_cc ?_ | (with_reducible refine e_chk ?_ ?_; · (first | omega | ((try simp (disch := omega) only [w32_eq, w64_eq, ix_n, ix_e, sto_n, sto_e, sto_r, zf_r, Int.toNat_natCast, true_or, or_true, eq_self, h1, h50]) <;> (first | omega | decide)))) | (with_reducible refine e_cchk ?_ ?_; · (first | omega | ((try simp (disch := omega) only [w32_eq, w64_eq, ix_n, ix_e, sto_n, sto_e, sto_r, zf_r, Int.toNat_natCast, true_or, or_true, eq_self, h1, h50]) <;> (first | omega | decide)))) | (with_reducible refine e_t ?_ ?_; · (first | omega | ((try simp (disch := omega) only [w32_eq, w64_eq, ix_n, ix_e, sto_n, sto_e, sto_r, zf_r, Int.toNat_natCast, true_or, or_true, eq_self, h1, h50]) <;> (first | omega | decide)))) | (with_reducible refine e_f ?_ ?_; · (first | omega | ((try simp (disch := omega) only [w32_eq, w64_eq, ix_n, ix_e, sto_n, sto_e, sto_r, zf_r, Int.toNat_natCast, true_or, or_true, eq_self, h1, h50]) <;> (first | omega | decide)))) | (with_reducible refine e_ct ?_ ?_; · (first | omega | ((try simp (disch := omega) only [w32_eq, w64_eq, ix_n, ix_e, sto_n, sto_e, sto_r, zf_r, Int.toNat_natCast, true_or, or_true, eq_self, h1, h50]) <;> (first | omega | decide)))) | (with_reducible refine e_cf ?_ ?_; · (first | omega | ((try simp (disch := omega) only [w32_eq, w64_eq, ix_n, ix_e, sto_n, sto_e, sto_r, zf_r, Int.toNat_natCast, true_or, or_true, eq_self, h1, h50]) <;> (first | omega | decide))))); try with_reducible rfl
  | succ r ih =>
    intro fuel i e hf
    have hi : ix (i : Int) = i := ix_n (by omega)
    have hb := hN.2 i (by omega)
    have h6 := h61 i (by omega)
    have nb := cv_b (nm i)
    obtain ⟨f, rfl⟩ : ∃ f, fuel = f + 1 := ⟨fuel - 1, by omega⟩; rw [fix_s]; unfold k_Mo_named_2 ndF
    by_cases c : nm i = x
    · rw [if_pos c]
      rw [c] at h6
      repeat (first | with_reducible refine e_let ?_ | with_reducible refine e_cs ?_ | with_reducible refine e_clet ?_ | with_reducible refine e_cc ?_ | (with_reducible refine e_chk ?_ ?_; · (first | omega | ((try simp (disch := omega) only [w32_eq, w64_eq, ix_n, ix_e, sto_n, sto_e, sto_r, zf_r, Int.toNat_natCast, true_or, or_true, eq_self, h1, h50, hi, h6, h55]) <;> (first | omega | decide)))) | (with_reducible refine e_cchk ?_ ?_; · (first | omega | ((try simp (disch := omega) only [w32_eq, w64_eq, ix_n, ix_e, sto_n, sto_e, sto_r, zf_r, Int.toNat_natCast, true_or, or_true, eq_self, h1, h50, hi, h6, h55]) <;> (first | omega | decide)))) | (with_reducible refine e_t ?_ ?_; · (first | omega | ((try simp (disch := omega) only [w32_eq, w64_eq, ix_n, ix_e, sto_n, sto_e, sto_r, zf_r, Int.toNat_natCast, true_or, or_true, eq_self, h1, h50, hi, h6, h55]) <;> (first | omega | decide)))) | (with_reducible refine e_f ?_ ?_; · (first | omega | ((try simp (disch := omega) only [w32_eq, w64_eq, ix_n, ix_e, sto_n, sto_e, sto_r, zf_r, Int.toNat_natCast, true_or, or_true, eq_self, h1, h50, hi, h6, h55]) <;> (first | omega | decide)))) | (with_reducible refine e_ct ?_ ?_; · (first | omega | ((try simp (disch := omega) only [w32_eq, w64_eq, ix_n, ix_e, sto_n, sto_e, sto_r, zf_r, Int.toNat_natCast, true_or, or_true, eq_self, h1, h50, hi, h6, h55]) <;> (first | omega | decide)))) | (with_reducible refine e_cf ?_ ?_; · (first | omega | ((try simp (disch := omega) only [w32_eq, w64_eq, ix_n, ix_e, sto_n, sto_e, sto_r, zf_r, Int.toNat_natCast, true_or, or_true, eq_self, h1, h50, hi, h6, h55]) <;> (first | omega | decide))))); try with_reducible rfl
    · rw [if_neg c]
      have c' : ¬ cv (nm i) = cv x := fun q => c (cv_i ⟨hb.1, hb.2.1⟩ hx q)
      repeat (first | with_reducible refine e_let ?_ | with_reducible refine e_cs ?_ | with_reducible refine e_clet ?_ | with_reducible refine e_cc ?_ | (with_reducible refine e_chk ?_ ?_; · (first | omega | ((try simp (disch := omega) only [w32_eq, w64_eq, ix_n, ix_e, sto_n, sto_e, sto_r, zf_r, Int.toNat_natCast, true_or, or_true, eq_self, h1, h50, hi, h6, h55]) <;> (first | omega | decide)))) | (with_reducible refine e_cchk ?_ ?_; · (first | omega | ((try simp (disch := omega) only [w32_eq, w64_eq, ix_n, ix_e, sto_n, sto_e, sto_r, zf_r, Int.toNat_natCast, true_or, or_true, eq_self, h1, h50, hi, h6, h55]) <;> (first | omega | decide)))) | (with_reducible refine e_t ?_ ?_; · (first | omega | ((try simp (disch := omega) only [w32_eq, w64_eq, ix_n, ix_e, sto_n, sto_e, sto_r, zf_r, Int.toNat_natCast, true_or, or_true, eq_self, h1, h50, hi, h6, h55]) <;> (first | omega | decide)))) | (with_reducible refine e_f ?_ ?_; · (first | omega | ((try simp (disch := omega) only [w32_eq, w64_eq, ix_n, ix_e, sto_n, sto_e, sto_r, zf_r, Int.toNat_natCast, true_or, or_true, eq_self, h1, h50, hi, h6, h55]) <;> (first | omega | decide)))) | (with_reducible refine e_ct ?_ ?_; · (first | omega | ((try simp (disch := omega) only [w32_eq, w64_eq, ix_n, ix_e, sto_n, sto_e, sto_r, zf_r, Int.toNat_natCast, true_or, or_true, eq_self, h1, h50, hi, h6, h55]) <;> (first | omega | decide)))) | (with_reducible refine e_cf ?_ ?_; · (first | omega | ((try simp (disch := omega) only [w32_eq, w64_eq, ix_n, ix_e, sto_n, sto_e, sto_r, zf_r, Int.toNat_natCast, true_or, or_true, eq_self, h1, h50, hi, h6, h55]) <;> (first | omega | decide)))))
      rw [show (i : Int) + 1 = ((i + 1 : Nat) : Int) by omega]
      exact ih f (i + 1) (by omega) (by omega)
theorem r_named {nm : Nat → Int} {D : Nat} {t x u : Int} {M : Mem} (h : TR t x u M) (hN : NmI nm D) (h1 : M 111 57 = (D : Int)) (h61 : ∀ i, i < D → M 154 i = cv (nm i)) : d_Mo_named M = some (if M 111 50 = 1 then ndF nm x D 0 else -1, M) := by
  have w := h.w
  by_cases s : M 111 50 = 1
  · rw [if_pos s]
    rcases (w.2.2.2.2.1 s).1 with ⟨h2, h3, h4, h5, h6⟩ | ⟨h2, h3, h4, -⟩
    · unfold d_Mo_named
      exact l_fdR hN ⟨h2, h3⟩ s ⟨h5, h6⟩ h4 h1 h61 D FU 0 (by omega) (by have := hN.1; unfold FU; omega)
    · rw [ndF_m D 0 (fun j _ hj => by have := hN.2 j (by omega); omega)]
      unfold d_Mo_named
      rw [show FU = 4294967295 + 1 from rfl, fix_s]
      unfold k_Mo_named_2
      repeat (first | with_reducible refine e_let ?_ | with_reducible refine e_cs ?_ | with_reducible refine e_clet ?_ | with_reducible refine e_cc ?_ | (with_reducible refine e_chk ?_ ?_; · (first | omega | ((try simp (disch := omega) only [w32_eq, w64_eq, ix_n, ix_e, sto_n, sto_e, sto_r, zf_r, Int.toNat_natCast, true_or, or_true, eq_self, s]) <;> (first | omega | decide)))) | (with_reducible refine e_cchk ?_ ?_; · (first | omega | ((try simp (disch := omega) only [w32_eq, w64_eq, ix_n, ix_e, sto_n, sto_e, sto_r, zf_r, Int.toNat_natCast, true_or, or_true, eq_self, s]) <;> (first | omega | decide)))) | (with_reducible refine e_t ?_ ?_; · (first | omega | ((try simp (disch := omega) only [w32_eq, w64_eq, ix_n, ix_e, sto_n, sto_e, sto_r, zf_r, Int.toNat_natCast, true_or, or_true, eq_self, s]) <;> (first | omega | decide)))) | (with_reducible refine e_f ?_ ?_; · (first | omega | ((try simp (disch := omega) only [w32_eq, w64_eq, ix_n, ix_e, sto_n, sto_e, sto_r, zf_r, Int.toNat_natCast, true_or, or_true, eq_self, s]) <;> (first | omega | decide)))) | (with_reducible refine e_ct ?_ ?_; · (first | omega | ((try simp (disch := omega) only [w32_eq, w64_eq, ix_n, ix_e, sto_n, sto_e, sto_r, zf_r, Int.toNat_natCast, true_or, or_true, eq_self, s]) <;> (first | omega | decide)))) | (with_reducible refine e_cf ?_ ?_; · (first | omega | ((try simp (disch := omega) only [w32_eq, w64_eq, ix_n, ix_e, sto_n, sto_e, sto_r, zf_r, Int.toNat_natCast, true_or, or_true, eq_self, s]) <;> (first | omega | decide))))); try with_reducible rfl
  · rw [if_neg s]
    unfold d_Mo_named
    rw [show FU = 4294967295 + 1 from rfl, fix_s]
    unfold k_Mo_named_2
    have w6 := w.2.2.2.2.2.1
    repeat (first | with_reducible refine e_let ?_ | with_reducible refine e_cs ?_ | with_reducible refine e_clet ?_ | with_reducible refine e_cc ?_ | (with_reducible refine e_chk ?_ ?_; · (first | omega | ((try simp (disch := omega) only [w32_eq, w64_eq, ix_n, ix_e, sto_n, sto_e, sto_r, zf_r, Int.toNat_natCast, true_or, or_true, eq_self]) <;> (first | omega | decide)))) | (with_reducible refine e_cchk ?_ ?_; · (first | omega | ((try simp (disch := omega) only [w32_eq, w64_eq, ix_n, ix_e, sto_n, sto_e, sto_r, zf_r, Int.toNat_natCast, true_or, or_true, eq_self]) <;> (first | omega | decide)))) | (with_reducible refine e_t ?_ ?_; · (first | omega | ((try simp (disch := omega) only [w32_eq, w64_eq, ix_n, ix_e, sto_n, sto_e, sto_r, zf_r, Int.toNat_natCast, true_or, or_true, eq_self]) <;> (first | omega | decide)))) | (with_reducible refine e_f ?_ ?_; · (first | omega | ((try simp (disch := omega) only [w32_eq, w64_eq, ix_n, ix_e, sto_n, sto_e, sto_r, zf_r, Int.toNat_natCast, true_or, or_true, eq_self]) <;> (first | omega | decide)))) | (with_reducible refine e_ct ?_ ?_; · (first | omega | ((try simp (disch := omega) only [w32_eq, w64_eq, ix_n, ix_e, sto_n, sto_e, sto_r, zf_r, Int.toNat_natCast, true_or, or_true, eq_self]) <;> (first | omega | decide)))) | (with_reducible refine e_cf ?_ ?_; · (first | omega | ((try simp (disch := omega) only [w32_eq, w64_eq, ix_n, ix_e, sto_n, sto_e, sto_r, zf_r, Int.toNat_natCast, true_or, or_true, eq_self]) <;> (first | omega | decide))))); try with_reducible rfl
