/-! words: how both sides hold them -/
def cvN : Nat → Int → Int
  | 0, _ => 0
  | n + 1, x => 32 * cvN n (x / 27) + x % 27
def cv (x : Int) : Int := cvN 8 x
def q27 : Nat → Int
  | 0 => 1
  | n + 1 => 27 * q27 n
theorem q27_7 : q27 7 = 10460353203 := by decide
theorem q27_8 : q27 8 = 282429536481 := by decide
theorem cvN_s : ∀ (n : Nat) (x : Int), 0 ≤ x → x < q27 n → cvN n x = cvN (n + 1) x
  | 0, x, h1, h2 => by
    have : x = 0 := by unfold q27 at h2; omega
    subst this; rfl
  | n + 1, x, h1, h2 => by
    have e := cvN_s n (x / 27) (by omega) (by unfold q27 at h2; omega)
    show 32 * cvN n (x / 27) + x % 27 = 32 * cvN (n + 1) (x / 27) + x % 27
    rw [e]
theorem cvN_i : ∀ (n : Nat) (x y : Int), 0 ≤ x → x < q27 n → 0 ≤ y → y < q27 n → cvN n x = cvN n y → x = y
  | 0, x, y, h1, h2, h3, h4, _ => by unfold q27 at h2 h4; omega
  | n + 1, x, y, h1, h2, h3, h4, e => by
    have e' : 32 * cvN n (x / 27) + x % 27 = 32 * cvN n (y / 27) + y % 27 := e
    have := cvN_i n (x / 27) (y / 27) (by omega) (by unfold q27 at h2; omega) (by omega) (by unfold q27 at h4; omega) (by omega)
    omega
def q32 : Nat → Int
  | 0 => 1
  | n + 1 => 32 * q32 n
theorem cvN_b : ∀ (n : Nat) (x : Int), 0 ≤ cvN n x ∧ cvN n x < q32 n
  | 0, x => by unfold cvN q32; omega
  | n + 1, x => by
    have := cvN_b n (x / 27)
    show 0 ≤ 32 * cvN n (x / 27) + x % 27 ∧ 32 * cvN n (x / 27) + x % 27 < 32 * q32 n
    omega
theorem cv_b (x : Int) : 0 ≤ cv x ∧ cv x < 1099511627776 := by
  have h := cvN_b 8 x
  rw [show q32 8 = 1099511627776 by decide] at h
  exact h
theorem cv_i {x y : Int} (h1 : 0 ≤ x ∧ x < 282429536481) (h2 : 0 ≤ y ∧ y < 282429536481) (e : cv x = cv y) : x = y :=
  cvN_i 8 x y h1.1 (by rw [q27_8]; exact h1.2) h2.1 (by rw [q27_8]; exact h2.2) e
theorem cv_d {x d : Int} (h : 0 ≤ x ∧ x < 10460353203) (hd : 1 ≤ d ∧ d ≤ 26) : cv (x * 27 + d) = cv x * 32 + d := by
  unfold cv
  rw [← cvN_s 7 x h.1 (by rw [q27_7]; exact h.2)]
  show 32 * cvN 7 ((x * 27 + d) / 27) + (x * 27 + d) % 27 = cvN 7 x * 32 + d
  rw [show (x * 27 + d) / 27 = x by omega]
  omega
/-- a word of the tape, by letters -/
def pkW (B : Int) (b : Nat → Int) (i : Nat) : Nat → Int
  | 0 => 0
  | k + 1 => pkW B b i k * B + (b (i + k) - 96)
def isL (c : Int) : Prop := 97 ≤ c ∧ c ≤ 122
def isD (c : Int) : Prop := 48 ≤ c ∧ c ≤ 57
theorem pkw_27 {b : Nat → Int} {i : Nat} : ∀ k : Nat, (∀ j, j < k → isL (b (i + j))) → 0 ≤ pkW 27 b i k ∧ pkW 27 b i k < q27 k
  | 0, _ => by unfold pkW q27; omega
  | k + 1, h => by
    have h1 := pkw_27 k (fun j hj => h j (by omega))
    have h2 := h k (by omega)
    unfold isL at h2
    unfold pkW q27; omega
theorem q27_m : ∀ k : Nat, 1 ≤ q27 k
  | 0 => by unfold q27; omega
  | k + 1 => by have := q27_m k; unfold q27; omega
theorem q27_l {k n : Nat} (h : k ≤ n) : q27 k ≤ q27 n := by
  induction h with
  | refl => exact Int.le_refl _
  | step _ ih =>
    have := q27_m k
    show q27 k ≤ 27 * q27 _
    omega
theorem pkw_cv {b : Nat → Int} {i : Nat} : ∀ k : Nat, k ≤ 8 → (∀ j, j < k → isL (b (i + j))) → pkW 32 b i k = cv (pkW 27 b i k)
  | 0, _, _ => by
    show (0 : Int) = cv 0
    decide
  | k + 1, hk, h => by
    have h1 := pkw_cv k (by omega) (fun j hj => h j (by omega))
    have h2 := h k (by omega)
    have h3 := pkw_27 (i := i) k (fun j hj => h j (by omega))
    have h4 := q27_l (show k ≤ 7 by omega)
    rw [q27_7] at h4
    unfold isL at h2
    unfold pkW
    rw [cv_d (by omega) (by omega), h1]
theorem pkw_32 {b : Nat → Int} {i : Nat} : ∀ k : Nat, (∀ j, j < k + 1 → isL (b (i + j))) → q32 k ≤ pkW 32 b i (k + 1) ∧ pkW 32 b i (k + 1) < q32 (k + 1)
  | 0, h => by
    have := h 0 (by omega)
    unfold isL at this
    show 1 ≤ 0 * 32 + (b (i + 0) - 96) ∧ 0 * 32 + (b (i + 0) - 96) < 32 * 1
    omega
  | k + 1, h => by
    have h1 := pkw_32 k (fun j hj => h j (by omega))
    have h2 := h (k + 1) (by omega)
    unfold isL at h2
    show 32 * q32 k ≤ pkW 32 b i (k + 1) * 32 + (b (i + (k + 1)) - 96) ∧ pkW 32 b i (k + 1) * 32 + (b (i + (k + 1)) - 96) < 32 * q32 (k + 1)
    omega
theorem q32_m : ∀ k : Nat, 1 ≤ q32 k
  | 0 => by unfold q32; omega
  | k + 1 => by have := q32_m k; unfold q32; omega
theorem q32_l {k n : Nat} (h : k ≤ n) : q32 k ≤ q32 n := by
  induction h with
  | refl => exact Int.le_refl _
  | step _ ih =>
    have := q32_m k
    show q32 k ≤ 32 * q32 _
    omega
theorem pkw_long {b : Nat → Int} {i k : Nat} (h8 : 8 < k) (h12 : k ≤ 12) (h : ∀ j, j < k → isL (b (i + j))) : 1099511627776 ≤ pkW 32 b i k ∧ pkW 32 b i k < 1152921504606846976 := by
  obtain ⟨m, rfl⟩ : ∃ m, k = m + 1 := ⟨k - 1, by omega⟩
  have h1 := pkw_32 m h
  have h2 := q32_l (show 8 ≤ m by omega)
  have h3 := q32_l (show m + 1 ≤ 12 by omega)
  rw [show q32 8 = 1099511627776 by decide] at h2
  rw [show q32 12 = 1152921504606846976 by decide] at h3
  omega
/-- which of some words -/
def fndL : List Int → Int → Int → Int
  | [], _, _ => -1
  | c :: L, x, n => if c = w64 x then n else fndL L x (n + 1)
def chrF (i0 j : Nat) : Int := ch16 (an32 (sbt i0 j) 255)
def wdsF (i0 : Nat) : Nat → Nat → Int → List Int
  | 0, _, w => [w64 w]
  | n + 1, i, w => if chrF i0 i = 32 then w64 w :: wdsF i0 n (i + 1) 0 else wdsF i0 n (i + 1) (w * 27 + w32 (chrF i0 i - 97 + 1))
theorem s_charAt {i0 j : Nat} {M : Mem} (hj : j < strsL.getD i0 0) (hl : strsL.getD i0 0 < 100) (hc : 0 ≤ chrF i0 j ∧ chrF i0 j < 256) : d_St_charAt i0 (j : Int) M = some (chrF i0 j, M) := by
  unfold d_St_charAt d_St_isLatin1 d_SL_charAt d_St_checkIndex d_Pc_checkIndex
  have hx : ix (j : Int) = j := ix_n (by omega)
  unfold chrF at hc ⊢
  repeat (first | with_reducible refine e_let ?_ | with_reducible refine e_cs ?_ | with_reducible refine e_clet ?_ | with_reducible refine e_cc ?_ | (with_reducible refine e_chk ?_ ?_; · (first | omega | ((try simp (disch := omega) only [w32_eq, w64_eq, ix_n, ix_e, sto_n, sto_e, sto_r, zf_r, Int.toNat_natCast, true_or, or_true, eq_self, hx]) <;> (first | omega | decide)))) | (with_reducible refine e_cchk ?_ ?_; · (first | omega | ((try simp (disch := omega) only [w32_eq, w64_eq, ix_n, ix_e, sto_n, sto_e, sto_r, zf_r, Int.toNat_natCast, true_or, or_true, eq_self, hx]) <;> (first | omega | decide)))) | (with_reducible refine e_t ?_ ?_; · (first | omega | ((try simp (disch := omega) only [w32_eq, w64_eq, ix_n, ix_e, sto_n, sto_e, sto_r, zf_r, Int.toNat_natCast, true_or, or_true, eq_self, hx]) <;> (first | omega | decide)))) | (with_reducible refine e_f ?_ ?_; · (first | omega | ((try simp (disch := omega) only [w32_eq, w64_eq, ix_n, ix_e, sto_n, sto_e, sto_r, zf_r, Int.toNat_natCast, true_or, or_true, eq_self, hx]) <;> (first | omega | decide)))) | (with_reducible refine e_ct ?_ ?_; · (first | omega | ((try simp (disch := omega) only [w32_eq, w64_eq, ix_n, ix_e, sto_n, sto_e, sto_r, zf_r, Int.toNat_natCast, true_or, or_true, eq_self, hx]) <;> (first | omega | decide)))) | (with_reducible refine e_cf ?_ ?_; · (first | omega | ((try simp (disch := omega) only [w32_eq, w64_eq, ix_n, ix_e, sto_n, sto_e, sto_r, zf_r, Int.toNat_natCast, true_or, or_true, eq_self, hx]) <;> (first | omega | decide)))))
  rw [hx]
theorem s_length {i0 : Nat} {M : Mem} (hi : i0 < 4) : d_St_length i0 M = some (((strsL.getD i0 0 : Nat) : Int), M) := by
  have h4 : i0 = 0 ∨ i0 = 1 ∨ i0 = 2 ∨ i0 = 3 := by omega
  rcases h4 with h | h | h | h <;> subst h <;> rfl
theorem l_find {i0 : Nat} {a1 : Int} {M : Mem} (hi : i0 < 4) (hl : strsL.getD i0 0 < 100) (hc : ∀ j, j < strsL.getD i0 0 → 0 ≤ chrF i0 j ∧ chrF i0 j < 256) :
    ∀ (n fuel i : Nat) (a3 a4 : Int), i + n = strsL.getD i0 0 → n < fuel → fix (fun _ _ _ _ _ => none) (k_Pa_find_8 i0) fuel a1 a3 a4 (i : Int) M = some (fndL (wdsF i0 n i a4) a1 a3, M) := by
  intro n; induction n with
  | zero =>
    intro fuel i a3 a4 e hf
    obtain ⟨f, rfl⟩ : ∃ f, fuel = f + 1 := ⟨fuel - 1, by omega⟩; rw [fix_s]; unfold k_Pa_find_8
    rw [s_length hi]
    unfold wdsF fndL fndL
    repeat (first | with_reducible refine e_let ?_ | with_reducible refine e_cs ?_ | with_reducible refine e_clet ?_ | with_reducible refine e_cc ?_ | (with_reducible refine e_chk ?_ ?_; · (first | omega | ((try simp (disch := omega) only [w32_eq, w64_eq, ix_n, ix_e, sto_n, sto_e, sto_r, zf_r, Int.toNat_natCast, true_or, or_true, eq_self]) <;> (first | omega | decide)))) | (with_reducible refine e_cchk ?_ ?_; · (first | omega | ((try simp (disch := omega) only [w32_eq, w64_eq, ix_n, ix_e, sto_n, sto_e, sto_r, zf_r, Int.toNat_natCast, true_or, or_true, eq_self]) <;> (first | omega | decide)))) | (with_reducible refine e_t ?_ ?_; · (first | omega | ((try simp (disch := omega) only [w32_eq, w64_eq, ix_n, ix_e, sto_n, sto_e, sto_r, zf_r, Int.toNat_natCast, true_or, or_true, eq_self]) <;> (first | omega | decide)))) | (with_reducible refine e_f ?_ ?_; · (first | omega | ((try simp (disch := omega) only [w32_eq, w64_eq, ix_n, ix_e, sto_n, sto_e, sto_r, zf_r, Int.toNat_natCast, true_or, or_true, eq_self]) <;> (first | omega | decide)))) | (with_reducible refine e_ct ?_ ?_; · (first | omega | ((try simp (disch := omega) only [w32_eq, w64_eq, ix_n, ix_e, sto_n, sto_e, sto_r, zf_r, Int.toNat_natCast, true_or, or_true, eq_self]) <;> (first | omega | decide)))) | (with_reducible refine e_cf ?_ ?_; · (first | omega | ((try simp (disch := omega) only [w32_eq, w64_eq, ix_n, ix_e, sto_n, sto_e, sto_r, zf_r, Int.toNat_natCast, true_or, or_true, eq_self]) <;> (first | omega | decide)))))
    by_cases c : w64 a4 = w64 a1
    · rw [if_pos c, if_pos c]
    · rw [if_neg c, if_neg c]
  | succ n ih =>
    intro fuel i a3 a4 e hf
    obtain ⟨f, rfl⟩ : ∃ f, fuel = f + 1 := ⟨fuel - 1, by omega⟩; rw [fix_s]; unfold k_Pa_find_8
    have hj := hc i (by omega)
    rw [s_length hi]
    refine e_cs ?_
    refine e_t (by rw [w32_eq (by omega) (by omega), w32_eq (by omega) (by omega)]; omega) ?_
    rw [s_charAt (by omega) hl hj]
    refine e_cs ?_
    have h1 : (i : Int) + 1 = ((i + 1 : Nat) : Int) := by omega
    unfold wdsF
    by_cases c : chrF i0 i = 32
    · rw [if_pos c]
      refine e_t (by rw [c]; decide) ?_
      unfold fndL
      by_cases d : w64 a4 = w64 a1
      · rw [if_pos d, if_pos d]
      · rw [if_neg d, if_neg d]
        unfold k_Pa_find_67
        rw [blet_s, blet_s, h1]
        exact ih f (i + 1) (a3 + 1) 0 (by omega) (by omega)
    · rw [if_neg c]
      refine e_f (by rw [w32_eq (by omega) (by omega)]; exact c) ?_
      unfold k_Pa_find_67
      rw [blet_s, blet_s, h1]
      exact ih f (i + 1) a3 _ (by omega) (by omega)
def KWs : List Int := [249, 399641, 107681, 1111, 423, 10631, 6476969, 267347]
def VRs : List Int := [4075223, 110031039, 456500, 495765, 1086426856, 603766, 82451, 45611816222, 60283, 12249946, 8863997]
def ASs : List Int := [355412, 3379448, 161437, 10492150, 38362985, 409469, 12001681]
theorem chr_0 : (List.range 34).all (fun j => decide (0 ≤ chrF 0 j ∧ chrF 0 j < 256)) = true := by decide +kernel
theorem chr_2 : (List.range 67).all (fun j => decide (0 ≤ chrF 2 j ∧ chrF 2 j < 256)) = true := by decide +kernel
theorem chr_3 : (List.range 39).all (fun j => decide (0 ≤ chrF 3 j ∧ chrF 3 j < 256)) = true := by decide +kernel
theorem s_find0 {x : Int} {M : Mem} : d_Pa_find 0 x M = some (fndL KWs x 0, M) := by
  unfold d_Pa_find
  have h := l_find (i0 := 0) (a1 := x) (M := M) (by decide) (by decide) (fun j hj => by
    have := List.all_eq_true.mp chr_0 j (List.mem_range.mpr hj)
    exact of_decide_eq_true this) 34 FU 0 0 0 rfl (by decide)
  rw [show wdsF 0 34 0 0 = KWs by decide +kernel] at h
  exact h
theorem s_find2 {x : Int} {M : Mem} : d_Pa_find 2 x M = some (fndL VRs x 0, M) := by
  unfold d_Pa_find
  have h := l_find (i0 := 2) (a1 := x) (M := M) (by decide) (by decide) (fun j hj => by
    have := List.all_eq_true.mp chr_2 j (List.mem_range.mpr hj)
    exact of_decide_eq_true this) 67 FU 0 0 0 rfl (by decide)
  rw [show wdsF 2 67 0 0 = VRs by decide +kernel] at h
  exact h
theorem s_find3 {x : Int} {M : Mem} : d_Pa_find 3 x M = some (fndL ASs x 0, M) := by
  unfold d_Pa_find
  have h := l_find (i0 := 3) (a1 := x) (M := M) (by decide) (by decide) (fun j hj => by
    have := List.all_eq_true.mp chr_3 j (List.mem_range.mpr hj)
    exact of_decide_eq_true this) 39 FU 0 0 0 rfl (by decide)
  rw [show wdsF 3 39 0 0 = ASs by decide +kernel] at h
  exact h
/-- signs -/
def isS (c : Int) : Prop := (58 ≤ c ∧ c ≤ 62) ∨ (40 ≤ c ∧ c ≤ 45) ∨ c = 47 ∨ c = 37
def ixF : Nat → Nat → Int → Int
  | 0, _, _ => -1
  | n + 1, i, v => if w32 (sbt 1 i) = w32 v then (i : Int) else ixF n (i + 1) v
theorem l_ixOf {v : Int} {M : Mem} : ∀ (n fuel i : Nat), i + n = 13 → n < fuel → fix (fun _ _ _ _ => none) (k_SL_indexOfChar_7 1) fuel 13 v (i : Int) M = some (ixF n i v, M) := by
  intro n; induction n with
  | zero =>
    intro fuel i e hf
    obtain ⟨f, rfl⟩ : ∃ f, fuel = f + 1 := ⟨fuel - 1, by omega⟩; rw [fix_s]; unfold k_SL_indexOfChar_7 ixF
    repeat (first | with_reducible refine e_let ?_ | with_reducible refine e_cs ?_ | with_reducible refine e_clet ?_ | with_reducible refine e_cc ?_ | (with_reducible refine e_chk ?_ ?_; · (first | omega | ((try simp (disch := omega) only [w32_eq, w64_eq, ix_n, ix_e, sto_n, sto_e, sto_r, zf_r, Int.toNat_natCast, true_or, or_true, eq_self]) <;> (first | omega | decide)))) | (with_reducible refine e_cchk ?_ ?_; · (first | omega | ((try simp (disch := omega) only [w32_eq, w64_eq, ix_n, ix_e, sto_n, sto_e, sto_r, zf_r, Int.toNat_natCast, true_or, or_true, eq_self]) <;> (first | omega | decide)))) | (with_reducible refine e_t ?_ ?_; · (first | omega | ((try simp (disch := omega) only [w32_eq, w64_eq, ix_n, ix_e, sto_n, sto_e, sto_r, zf_r, Int.toNat_natCast, true_or, or_true, eq_self]) <;> (first | omega | decide)))) | (with_reducible refine e_f ?_ ?_; · (first | omega | ((try simp (disch := omega) only [w32_eq, w64_eq, ix_n, ix_e, sto_n, sto_e, sto_r, zf_r, Int.toNat_natCast, true_or, or_true, eq_self]) <;> (first | omega | decide)))) | (with_reducible refine e_ct ?_ ?_; · (first | omega | ((try simp (disch := omega) only [w32_eq, w64_eq, ix_n, ix_e, sto_n, sto_e, sto_r, zf_r, Int.toNat_natCast, true_or, or_true, eq_self]) <;> (first | omega | decide)))) | (with_reducible refine e_cf ?_ ?_; · (first | omega | ((try simp (disch := omega) only [w32_eq, w64_eq, ix_n, ix_e, sto_n, sto_e, sto_r, zf_r, Int.toNat_natCast, true_or, or_true, eq_self]) <;> (first | omega | decide))))); try with_reducible rfl
  | succ n ih =>
    intro fuel i e hf
    have hx : ix (i : Int) = i := ix_n (by omega)
    obtain ⟨f, rfl⟩ : ∃ f, fuel = f + 1 := ⟨fuel - 1, by omega⟩; rw [fix_s]; unfold k_SL_indexOfChar_7 ixF
    refine e_t (by rw [w32_eq (by omega) (by omega), w32_eq (by decide) (by decide)]; omega) ?_
    refine e_chk (by rw [w32_eq (by omega) (by omega)]; refine ⟨by omega, ?_⟩; show (i : Int) < 13; omega) ?_
    rw [blet_s, hx]
    by_cases c : w32 (sbt 1 i) = w32 v
    · rw [if_pos c, if_pos c]
    · rw [if_neg c, if_neg c, blet_s, show (i : Int) + 1 = ((i + 1 : Nat) : Int) by omega]
      exact ih f (i + 1) (by omega) (by omega)
theorem ix_all : (List.range 128).all (fun j => decide ((0 ≤ ixF 13 0 (w8 (ch16 (j : Int)))) ↔ (((58 ≤ (j : Int) ∧ (j : Int) ≤ 62) ∨ (40 ≤ (j : Int) ∧ (j : Int) ≤ 45) ∨ (j : Int) = 47 ∨ (j : Int) = 37))) && decide (0 ≤ w32 (ch16 (j : Int)) ∧ w32 (ch16 (j : Int)) ≤ 255) && decide (w32 (ixF 13 0 (w8 (ch16 (j : Int)))) = ixF 13 0 (w8 (ch16 (j : Int))))) = true := by decide +kernel
theorem s_isSg {c : Int} {M : Mem} (h : -128 ≤ c ∧ c < 128) : (isS c → d_Pa_isSign c M = some (1, M)) ∧ (¬ isS c → d_Pa_isSign c M = some (0, M)) := by
  unfold d_Pa_isSign
  by_cases p : 0 < c
  · obtain ⟨j, rfl⟩ : ∃ j : Nat, c = (j : Int) := ⟨c.toNat, by omega⟩
    have q := List.all_eq_true.mp ix_all j (List.mem_range.mpr (by omega))
    rw [Bool.and_eq_true, Bool.and_eq_true] at q
    obtain ⟨⟨q1, q2⟩, q3⟩ := q
    have q1 := of_decide_eq_true q1
    have q2 := of_decide_eq_true q2
    have q3 := of_decide_eq_true q3
    have e : d_St_indexOf0 1 (ch16 (j : Int)) M = some (ixF 13 0 (w8 (ch16 (j : Int))), M) := by
      unfold d_St_indexOf0 d_St_indexOf1 d_St_isLatin1
      refine e_call (v := ixF 13 0 (w8 (ch16 (j : Int)))) (M := M) ?_ rfl
      refine e_call (v := 1) (M := M) rfl ?_
      refine e_f (by decide) ?_
      rw [s_length (by decide)]
      refine e_cs ?_
      refine e_call (v := ixF 13 0 (w8 (ch16 (j : Int)))) (M := M) ?_ rfl
      unfold d_SL_indexOf d_SL_canEncode
      refine e_cf (by omega) ?_
      refine e_cf (by omega) ?_
      refine e_cs ?_
      refine e_f (by decide) ?_
      refine e_let ?_
      refine e_let ?_
      refine e_t (by decide) ?_
      refine e_call (v := ixF 13 0 (w8 (ch16 (j : Int)))) (M := M) ?_ rfl
      unfold d_SL_indexOfChar
      exact l_ixOf 13 FU 0 rfl (by decide)
    rw [if_pos (by rw [w32_eq (by omega) (by omega)]; omega), e]
    unfold isS
    rw [← q1]
    constructor
    · intro z
      exact e_cs (e_f (by rw [q3]; omega) rfl)
    · intro z
      exact e_cs (e_t (by rw [q3]; omega) rfl)
  · rw [if_neg (by rw [w32_eq (by omega) (by omega)]; exact p)]
    refine ⟨fun z => ?_, fun _ => rfl⟩
    unfold isS at z; omega
theorem an_255a : (List.range 256).all (fun j => decide (an32 ((j : Int) - 128) 255 = ((j : Int) - 128) % 256)) = true := by decide +kernel
theorem an_255 {c : Int} (h : -128 ≤ c ∧ c < 128) : an32 c 255 = c % 256 := by
  have q := of_decide_eq_true (List.all_eq_true.mp an_255a (c + 128).toNat (List.mem_range.mpr (by omega)))
  rw [show (((c + 128).toNat : Nat) : Int) - 128 = c by omega] at q
  exact q
theorem w8_r (x : Int) : -128 ≤ w8 x ∧ w8 x < 128 := by unfold w8; omega
