/-! on whom votes hang: from the last farm on -/
def grC (fw : (Nat → Int) → (Nat → Int) → Int) (ds v : Nat → Int) : Nat → (Nat → Int) → (Nat → Int) → Int → Nat → Int
  | 0, _, _, _ => fun _ => 0
  | j + 1, fr, g, L => if fr j = 1 then (if L < fw (up fr j 0) g then up (grC fw ds v j (up fr j 0) (gnU ds v g j) (L - 1)) j 1 else grC fw ds v j (up fr j 0) g L) else grC fw ds v j (up fr j 0) g L
/-- the least set: at the highest farm where another differs, the other has it -/
def lsT (n : Nat) (ds v fr g : Nat → Int) (G : Nat) (L : Int) (C : Nat → Int) : Prop := ∀ a : Nat → Int, sbs n fr a → trn n ds v g G a → sm a n = L → (∀ f, f < n → a f = C f) ∨ ∃ f, f < n ∧ a f = 1 ∧ C f = 0 ∧ ∀ h, f < h → h < n → a h = C h
theorem trn_c {n : Nat} {ds v g a b : Nat → Int} {G : Nat} (h : ∀ f, f < n → a f = b f) (ht : trn n ds v g G a) : trn n ds v g G b := by
  unfold trn at ht ⊢
  rw [whS_c (y := fun d => g d + adV n ds v a d) 6 (fun d hd => ?_)]
  · exact ht
  · show g d + adV n ds v b d = g d + adV n ds v a d
    unfold adV
    rw [sm_ext (v := fun f => if ds f = (d : Int) then a f * v f else 0) n (fun f hf => by rw [h f hf])]
theorem gre_ok {n : Nat} {B : Nat → Nat} {ds v : Nat → Int} {G : Nat} (hG : G ≤ 1) (hO : Ord n B v) (hv : ∀ f, 0 ≤ v f) (hd : ∀ f, f < n → 0 ≤ ds f ∧ ds f ≤ 5) :
    ∀ (j : Nat) (fr g : Nat → Int) (L : Int), j ≤ n → (∀ f, fr f = 0 ∨ fr f = 1) → (∀ f, j ≤ f → f < n → fr f = 0) → fwS n B ds v fr g G = L → L < 1000 →
    (∀ f, grC (fun fr g => fwS n B ds v fr g G) ds v j fr g L f = 0 ∨ (grC (fun fr g => fwS n B ds v fr g G) ds v j fr g L f = 1 ∧ fr f = 1 ∧ f < j)) ∧ trn n ds v g G (grC (fun fr g => fwS n B ds v fr g G) ds v j fr g L) ∧ sm (grC (fun fr g => fwS n B ds v fr g G) ds v j fr g L) n = L ∧ lsT n ds v fr g G L (grC (fun fr g => fwS n B ds v fr g G) ds v j fr g L) := by
  intro j; induction j with
  | zero =>
    intro fr g L hj h01 h0 hL hl
    obtain ⟨a, a1, a2, a3, a4⟩ := fw_some hG hO hv hd (by rw [hL]; exact hl)
    have az : ∀ b : Nat → Int, sbs n fr b → ∀ f, f < n → b f = 0 := fun b hb f hf => by
      rcases hb f hf with q | q
      · exact q
      · rw [h0 f (by omega) hf] at q; exact absurd q.2 (by decide)
    refine ⟨fun f => Or.inl rfl, trn_c (az a a1) a3, ?_, fun b hb _ _ => Or.inl (az b hb)⟩
    rw [← hL, ← a4]
    exact sm_ext n (fun f hf => (az a a1 f hf).symm)
  | succ j ih =>
    intro fr g L hj h01 h0 hL hl
    have h01' : ∀ f, up fr j 0 f = 0 ∨ up fr j 0 f = 1 := fun f => by
      unfold up; split
      · exact Or.inl rfl
      · exact h01 f
    have h0' : ∀ f, j ≤ f → f < n → up fr j 0 f = 0 := fun f h1 h2 => by
      unfold up; split
      · rfl
      · exact h0 f (by omega) h2
    have hsub : ∀ f, f < n → up fr j 0 f = 1 → fr f = 1 := fun f hf h => by
      unfold up at h; split at h
      · omega
      · exact h
    by_cases c : fr j = 1
    · by_cases d : L < fwS n B ds v (up fr j 0) g G
      · have need := fw_need (f := j) hG hO hv hd (by omega) c (by rw [hL]; exact hl) (by rw [hL]; exact d)
        rw [hL] at need
        have e : grC (fun fr g => fwS n B ds v fr g G) ds v (j + 1) fr g L = up (grC (fun fr g => fwS n B ds v fr g G) ds v j (up fr j 0) (gnU ds v g j) (L - 1)) j 1 := by rw [grC, if_pos c, if_pos d]
        obtain ⟨i1, i2, i3, i4⟩ := ih (up fr j 0) (gnU ds v g j) (L - 1) (by omega) h01' h0' need (by omega)
        rw [e]
        generalize grC (fun fr g => fwS n B ds v fr g G) ds v j (up fr j 0) (gnU ds v g j) (L - 1) = C' at *
        have cj : C' j = 0 := by
          rcases i1 j with q | q
          · exact q
          · omega
        refine ⟨fun f => ?_, (trn_up (by omega) cj).2 i2, by rw [sm_up n (by omega), cj, i3]; omega, fun a ha ht hs => ?_⟩
        · by_cases q : f = j
          · rw [q, up_e]; exact Or.inr ⟨rfl, c, by omega⟩
          · rw [up_n q]
            rcases i1 f with r | r
            · exact Or.inl r
            · rw [up_n q] at r; exact Or.inr ⟨r.1, r.2.1, by omega⟩
        · have aj : a j = 1 := by
            rcases ha j (by omega) with q | q
            · exfalso
              have := fw_low (fr := up fr j 0) (B := B) hG hO hv hd (a := a) (fun f hf => by
                by_cases r : f = j
                · rw [r]; exact Or.inl q
                · rw [up_n r]; exact ha f hf) ht
              omega
            · exact q.1
          have ea : up (up a j 0) j 1 = a := by
            funext f; unfold up
            by_cases q : f = j
            · rw [if_pos q, q, aj]
            · rw [if_neg q, if_neg q]
          have r := i4 (up a j 0) (fun f hf => by
            by_cases q : f = j
            · rw [q, up_e]; exact Or.inl rfl
            · rw [up_n q, up_n q]; exact ha f hf) ((trn_up (by omega) up_e).1 (by rw [ea]; exact ht)) (by rw [sm_up n (by omega), aj, hs]; omega)
          rcases r with r | ⟨f, r1, r2, r3, r4⟩
          · left
            intro f hf
            by_cases q : f = j
            · rw [q, up_e, aj]
            · have := r f hf
              rw [up_n q] at this ⊢; exact this
          · right
            have fj : f ≠ j := by intro q; rw [q, up_e] at r2; omega
            refine ⟨f, r1, by rw [up_n fj] at r2; exact r2, by rw [up_n fj]; exact r3, fun h h1 h2 => ?_⟩
            by_cases q : h = j
            · rw [q, up_e, aj]
            · have := r4 h h1 h2
              rw [up_n q] at this ⊢; exact this
      · have e : grC (fun fr g => fwS n B ds v fr g G) ds v (j + 1) fr g L = grC (fun fr g => fwS n B ds v fr g G) ds v j (up fr j 0) g L := by rw [grC, if_pos c, if_neg d]
        have mono := fw_mono (fr := fr) (fr' := up fr j 0) (g := g) hG hO hv hd hsub (by omega)
        obtain ⟨i1, i2, i3, i4⟩ := ih (up fr j 0) g L (by omega) h01' h0' (by omega) hl
        rw [e]
        generalize grC (fun fr g => fwS n B ds v fr g G) ds v j (up fr j 0) g L = C' at *
        refine ⟨fun f => ?_, i2, i3, fun a ha ht hs => ?_⟩
        · rcases i1 f with r | r
          · exact Or.inl r
          · rw [up_n (by omega)] at r; exact Or.inr ⟨r.1, r.2.1, by omega⟩
        · rcases ha j (by omega) with q | q
          · exact i4 a (fun f hf => by
              by_cases r : f = j
              · rw [r]; exact Or.inl q
              · rw [up_n r]; exact ha f hf) ht hs
          · right
            have cz : ∀ f, j ≤ f → C' f = 0 := fun f hf => by
              rcases i1 f with r | r
              · exact r
              · omega
            refine ⟨j, by omega, q.1, cz j (Nat.le_refl _), fun h h1 h2 => ?_⟩
            rw [cz h (by omega)]
            rcases ha h h2 with r | r
            · exact r
            · rw [h0 h (by omega) h2] at r; exact absurd r.2 (by decide)
    · have ef : up fr j 0 = fr := by
        funext f; unfold up; split
        · rename_i q; rw [q]
          rcases h01 j with r | r
          · exact r.symm
          · exact absurd r c
        · rfl
      have e : grC (fun fr g => fwS n B ds v fr g G) ds v (j + 1) fr g L = grC (fun fr g => fwS n B ds v fr g G) ds v j fr g L := by rw [grC, if_neg c, ef]
      rw [ef] at h0'
      obtain ⟨i1, i2, i3, i4⟩ := ih fr g L (by omega) h01 h0' hL hl
      rw [e]
      refine ⟨fun f => ?_, i2, i3, i4⟩
      rcases i1 f with r | r
      · exact Or.inl r
      · exact Or.inr ⟨r.1, r.2.1, by omega⟩
